set_option maxRecDepth 20000 in
theorem gX6_colourMean_X6_sumAround : GoodIn wuX6_colourMean (wsV RX6 203 RX6 yX6_sumAround wuX6_sumAround) := gu_V mw_2068 mw_2070 mw_80 mw_172 mw_2071
theorem dX6_colourMean_0 : decode cX6_colourMean 0 = .ok (.iload_n 2, 1) := by decide +kernel
theorem dX6_colourMean_1 : decode cX6_colourMean 1 = .ok (.iconst 1, 1) := by decide +kernel
theorem dX6_colourMean_2 : decode cX6_colourMean 2 = .ok (.iand, 1) := by decide +kernel
theorem dX6_colourMean_3 : decode cX6_colourMean 3 = .ok (.ifCond .eq 7, 3) := by decide +kernel
theorem dX6_colourMean_6 : decode cX6_colourMean 6 = .ok (.iconst 1, 1) := by decide +kernel
theorem dX6_colourMean_7 : decode cX6_colourMean 7 = .ok (.goto 4, 3) := by decide +kernel
theorem dX6_colourMean_10 : decode cX6_colourMean 10 = .ok (.iconst 0, 1) := by decide +kernel
theorem dX6_colourMean_11 : decode cX6_colourMean 11 = .ok (.istore_n 3, 1) := by decide +kernel
theorem dX6_colourMean_12 : decode cX6_colourMean 12 = .ok (.iload_n 2, 1) := by decide +kernel
theorem dX6_colourMean_13 : decode cX6_colourMean 13 = .ok (.iconst 2, 1) := by decide +kernel
theorem dX6_colourMean_14 : decode cX6_colourMean 14 = .ok (.iand, 1) := by decide +kernel
theorem dX6_colourMean_15 : decode cX6_colourMean 15 = .ok (.ifCond .eq 7, 3) := by decide +kernel
theorem dX6_colourMean_18 : decode cX6_colourMean 18 = .ok (.iconst 1, 1) := by decide +kernel
theorem dX6_colourMean_19 : decode cX6_colourMean 19 = .ok (.goto 4, 3) := by decide +kernel
theorem dX6_colourMean_22 : decode cX6_colourMean 22 = .ok (.iconst 0, 1) := by decide +kernel
theorem dX6_colourMean_23 : decode cX6_colourMean 23 = .ok (.istore 4, 2) := by decide +kernel
theorem dX6_colourMean_25 : decode cX6_colourMean 25 = .ok (.aload_n 0, 1) := by decide +kernel
theorem dX6_colourMean_26 : decode cX6_colourMean 26 = .ok (.iconst 1, 1) := by decide +kernel
theorem dX6_colourMean_27 : decode cX6_colourMean 27 = .ok (.iload_n 1, 1) := by decide +kernel
theorem dX6_colourMean_28 : decode cX6_colourMean 28 = .ok (.iconst 2, 1) := by decide +kernel
theorem dX6_colourMean_29 : decode cX6_colourMean 29 = .ok (.irem, 1) := by decide +kernel
theorem dX6_colourMean_30 : decode cX6_colourMean 30 = .ok (.iconst 4, 1) := by decide +kernel
theorem dX6_colourMean_31 : decode cX6_colourMean 31 = .ok (.imul, 1) := by decide +kernel
theorem dX6_colourMean_32 : decode cX6_colourMean 32 = .ok (.iadd, 1) := by decide +kernel
theorem dX6_colourMean_33 : decode cX6_colourMean 33 = .ok (.iconst 4, 1) := by decide +kernel
theorem dX6_colourMean_34 : decode cX6_colourMean 34 = .ok (.invokevirtual 203, 3) := by decide +kernel
theorem dX6_colourMean_37 : decode cX6_colourMean 37 = .ok (.istore 5, 2) := by decide +kernel
theorem dX6_colourMean_39 : decode cX6_colourMean 39 = .ok (.aload_n 0, 1) := by decide +kernel
theorem dX6_colourMean_40 : decode cX6_colourMean 40 = .ok (.bipush 10, 2) := by decide +kernel
theorem dX6_colourMean_42 : decode cX6_colourMean 42 = .ok (.iload_n 1, 1) := by decide +kernel
theorem dX6_colourMean_43 : decode cX6_colourMean 43 = .ok (.iconst 2, 1) := by decide +kernel
theorem dX6_colourMean_44 : decode cX6_colourMean 44 = .ok (.idiv, 1) := by decide +kernel
theorem dX6_colourMean_45 : decode cX6_colourMean 45 = .ok (.iconst 4, 1) := by decide +kernel
theorem dX6_colourMean_46 : decode cX6_colourMean 46 = .ok (.imul, 1) := by decide +kernel
theorem dX6_colourMean_47 : decode cX6_colourMean 47 = .ok (.iadd, 1) := by decide +kernel
theorem dX6_colourMean_48 : decode cX6_colourMean 48 = .ok (.iconst 4, 1) := by decide +kernel
theorem dX6_colourMean_49 : decode cX6_colourMean 49 = .ok (.invokevirtual 203, 3) := by decide +kernel
theorem dX6_colourMean_52 : decode cX6_colourMean 52 = .ok (.istore 6, 2) := by decide +kernel
theorem dX6_colourMean_54 : decode cX6_colourMean 54 = .ok (.iload_n 3, 1) := by decide +kernel
theorem dX6_colourMean_55 : decode cX6_colourMean 55 = .ok (.ifCond .ne 12, 3) := by decide +kernel
theorem dX6_colourMean_58 : decode cX6_colourMean 58 = .ok (.iload 4, 2) := by decide +kernel
theorem dX6_colourMean_60 : decode cX6_colourMean 60 = .ok (.ifCond .ne 7, 3) := by decide +kernel
theorem dX6_colourMean_63 : decode cX6_colourMean 63 = .ok (.sipush 128, 3) := by decide +kernel
theorem dX6_colourMean_66 : decode cX6_colourMean 66 = .ok (.ireturn, 1) := by decide +kernel
theorem dX6_colourMean_67 : decode cX6_colourMean 67 = .ok (.iload_n 1, 1) := by decide +kernel
theorem dX6_colourMean_68 : decode cX6_colourMean 68 = .ok (.iconst 1, 1) := by decide +kernel
theorem dX6_colourMean_69 : decode cX6_colourMean 69 = .ok (.if_icmp .ne 20, 3) := by decide +kernel
theorem dX6_colourMean_72 : decode cX6_colourMean 72 = .ok (.iload 4, 2) := by decide +kernel
theorem dX6_colourMean_74 : decode cX6_colourMean 74 = .ok (.ifCond .eq 8, 3) := by decide +kernel
theorem dX6_colourMean_77 : decode cX6_colourMean 77 = .ok (.iload 5, 2) := by decide +kernel
theorem dX6_colourMean_79 : decode cX6_colourMean 79 = .ok (.goto 5, 3) := by decide +kernel
theorem dX6_colourMean_82 : decode cX6_colourMean 82 = .ok (.iload 6, 2) := by decide +kernel
theorem dX6_colourMean_84 : decode cX6_colourMean 84 = .ok (.iconst 2, 1) := by decide +kernel
theorem dX6_colourMean_85 : decode cX6_colourMean 85 = .ok (.iadd, 1) := by decide +kernel
theorem dX6_colourMean_86 : decode cX6_colourMean 86 = .ok (.iconst 2, 1) := by decide +kernel
theorem dX6_colourMean_87 : decode cX6_colourMean 87 = .ok (.ishr, 1) := by decide +kernel
theorem dX6_colourMean_88 : decode cX6_colourMean 88 = .ok (.ireturn, 1) := by decide +kernel
theorem dX6_colourMean_89 : decode cX6_colourMean 89 = .ok (.iload_n 1, 1) := by decide +kernel
theorem dX6_colourMean_90 : decode cX6_colourMean 90 = .ok (.iconst 2, 1) := by decide +kernel
theorem dX6_colourMean_91 : decode cX6_colourMean 91 = .ok (.if_icmp .ne 19, 3) := by decide +kernel
theorem dX6_colourMean_94 : decode cX6_colourMean 94 = .ok (.iload_n 3, 1) := by decide +kernel
theorem dX6_colourMean_95 : decode cX6_colourMean 95 = .ok (.ifCond .eq 8, 3) := by decide +kernel
theorem dX6_colourMean_98 : decode cX6_colourMean 98 = .ok (.iload 6, 2) := by decide +kernel
theorem dX6_colourMean_100 : decode cX6_colourMean 100 = .ok (.goto 5, 3) := by decide +kernel
theorem dX6_colourMean_103 : decode cX6_colourMean 103 = .ok (.iload 5, 2) := by decide +kernel
theorem dX6_colourMean_105 : decode cX6_colourMean 105 = .ok (.iconst 2, 1) := by decide +kernel
theorem dX6_colourMean_106 : decode cX6_colourMean 106 = .ok (.iadd, 1) := by decide +kernel
theorem dX6_colourMean_107 : decode cX6_colourMean 107 = .ok (.iconst 2, 1) := by decide +kernel
theorem dX6_colourMean_108 : decode cX6_colourMean 108 = .ok (.ishr, 1) := by decide +kernel
theorem dX6_colourMean_109 : decode cX6_colourMean 109 = .ok (.ireturn, 1) := by decide +kernel
theorem dX6_colourMean_110 : decode cX6_colourMean 110 = .ok (.iload_n 3, 1) := by decide +kernel
theorem dX6_colourMean_111 : decode cX6_colourMean 111 = .ok (.ifCond .eq 20, 3) := by decide +kernel
theorem dX6_colourMean_114 : decode cX6_colourMean 114 = .ok (.iload 4, 2) := by decide +kernel
theorem dX6_colourMean_116 : decode cX6_colourMean 116 = .ok (.ifCond .eq 15, 3) := by decide +kernel
theorem dX6_colourMean_119 : decode cX6_colourMean 119 = .ok (.iload 5, 2) := by decide +kernel
theorem dX6_colourMean_121 : decode cX6_colourMean 121 = .ok (.iload 6, 2) := by decide +kernel
theorem dX6_colourMean_123 : decode cX6_colourMean 123 = .ok (.iadd, 1) := by decide +kernel
theorem dX6_colourMean_124 : decode cX6_colourMean 124 = .ok (.iconst 4, 1) := by decide +kernel
theorem dX6_colourMean_125 : decode cX6_colourMean 125 = .ok (.iadd, 1) := by decide +kernel
theorem dX6_colourMean_126 : decode cX6_colourMean 126 = .ok (.iconst 3, 1) := by decide +kernel
theorem dX6_colourMean_127 : decode cX6_colourMean 127 = .ok (.ishr, 1) := by decide +kernel
theorem dX6_colourMean_128 : decode cX6_colourMean 128 = .ok (.goto 18, 3) := by decide +kernel
theorem dX6_colourMean_131 : decode cX6_colourMean 131 = .ok (.iload_n 3, 1) := by decide +kernel
theorem dX6_colourMean_132 : decode cX6_colourMean 132 = .ok (.ifCond .eq 8, 3) := by decide +kernel
theorem dX6_colourMean_135 : decode cX6_colourMean 135 = .ok (.iload 6, 2) := by decide +kernel
theorem dX6_colourMean_137 : decode cX6_colourMean 137 = .ok (.goto 5, 3) := by decide +kernel
theorem dX6_colourMean_140 : decode cX6_colourMean 140 = .ok (.iload 5, 2) := by decide +kernel
theorem dX6_colourMean_142 : decode cX6_colourMean 142 = .ok (.iconst 2, 1) := by decide +kernel
theorem dX6_colourMean_143 : decode cX6_colourMean 143 = .ok (.iadd, 1) := by decide +kernel
theorem dX6_colourMean_144 : decode cX6_colourMean 144 = .ok (.iconst 2, 1) := by decide +kernel
theorem dX6_colourMean_145 : decode cX6_colourMean 145 = .ok (.ishr, 1) := by decide +kernel
theorem dX6_colourMean_146 : decode cX6_colourMean 146 = .ok (.ireturn, 1) := by decide +kernel
def FX6_colourMean (G : GG) (M : DD) (a : Nat) (p0 : Int32) (p1 : Int32) : Option (DD × Int32) :=
  ltt ((p1 &&& ((1 : Int32)))) fun x1 =>
  bnd (if x1 = ((0 : Int32)) then (some ((0 : Int32))) else
  (some ((1 : Int32)))) fun (y2 : Int32) =>
  ltt ((p1 &&& ((2 : Int32)))) fun x3 =>
  bnd (if x3 = ((0 : Int32)) then (some ((0 : Int32))) else
  (some ((1 : Int32)))) fun (y4 : Int32) =>
  ltt (p0 - p0 / ((2 : Int32)) * ((2 : Int32))) fun x5 =>
  ltt ((x5 * ((4 : Int32)))) fun x6 =>
  ltt ((((1 : Int32)) + x6)) fun x7 =>
  bnd (FX6_sumAround G M a x7 ((4 : Int32))) fun y8 =>
  ltt (p0 / ((2 : Int32))) fun x9 =>
  ltt ((x9 * ((4 : Int32)))) fun x10 =>
  ltt ((((10 : Int32)) + x10)) fun x11 =>
  bnd (FX6_sumAround G y8.1 a x11 ((4 : Int32))) fun y12 =>
  if y2 = ((0 : Int32)) then (if y4 = ((0 : Int32)) then (some (y12.1, (128 : Int32))) else
  (if p0 = ((1 : Int32)) then (bnd (if y4 = ((0 : Int32)) then (some (y12.2)) else
  (some (y8.2))) fun (y61 : Int32) =>
  ltt ((y61 + ((2 : Int32)))) fun x62 =>
  ltt ((x62 >>> (((2 : Int32)) &&& 31))) fun x63 =>
  some (y12.1, x63)) else
  (if p0 = ((2 : Int32)) then (bnd (if y2 = ((0 : Int32)) then (some (y8.2)) else
  (some (y12.2))) fun (y57 : Int32) =>
  ltt ((y57 + ((2 : Int32)))) fun x58 =>
  ltt ((x58 >>> (((2 : Int32)) &&& 31))) fun x59 =>
  some (y12.1, x59)) else
  (bnd (if y2 = ((0 : Int32)) then (bnd (if y2 = ((0 : Int32)) then (some (y8.2)) else
  (some (y12.2))) fun (y44 : Int32) =>
  ltt ((y44 + ((2 : Int32)))) fun x45 =>
  ltt ((x45 >>> (((2 : Int32)) &&& 31))) fun x46 =>
  some (x46)) else
  (bnd (if y4 = ((0 : Int32)) then (bnd (if y2 = ((0 : Int32)) then (some (y8.2)) else
  (some (y12.2))) fun (y50 : Int32) =>
  ltt ((y50 + ((2 : Int32)))) fun x51 =>
  ltt ((x51 >>> (((2 : Int32)) &&& 31))) fun x52 =>
  some (x52)) else
  (ltt ((y8.2 + y12.2)) fun x54 =>
  ltt ((x54 + ((4 : Int32)))) fun x55 =>
  ltt ((x55 >>> (((3 : Int32)) &&& 31))) fun x56 =>
  some (x56))) fun (y48 : Int32) =>
  some (y48))) fun (y42 : Int32) =>
  some (y12.1, y42))))) else
  (if p0 = ((1 : Int32)) then (bnd (if y4 = ((0 : Int32)) then (some (y12.2)) else
  (some (y8.2))) fun (y35 : Int32) =>
  ltt ((y35 + ((2 : Int32)))) fun x36 =>
  ltt ((x36 >>> (((2 : Int32)) &&& 31))) fun x37 =>
  some (y12.1, x37)) else
  (if p0 = ((2 : Int32)) then (bnd (if y2 = ((0 : Int32)) then (some (y8.2)) else
  (some (y12.2))) fun (y31 : Int32) =>
  ltt ((y31 + ((2 : Int32)))) fun x32 =>
  ltt ((x32 >>> (((2 : Int32)) &&& 31))) fun x33 =>
  some (y12.1, x33)) else
  (bnd (if y2 = ((0 : Int32)) then (bnd (if y2 = ((0 : Int32)) then (some (y8.2)) else
  (some (y12.2))) fun (y18 : Int32) =>
  ltt ((y18 + ((2 : Int32)))) fun x19 =>
  ltt ((x19 >>> (((2 : Int32)) &&& 31))) fun x20 =>
  some (x20)) else
  (bnd (if y4 = ((0 : Int32)) then (bnd (if y2 = ((0 : Int32)) then (some (y8.2)) else
  (some (y12.2))) fun (y24 : Int32) =>
  ltt ((y24 + ((2 : Int32)))) fun x25 =>
  ltt ((x25 >>> (((2 : Int32)) &&& 31))) fun x26 =>
  some (x26)) else
  (ltt ((y8.2 + y12.2)) fun x28 =>
  ltt ((x28 + ((4 : Int32)))) fun x29 =>
  ltt ((x29 >>> (((3 : Int32)) &&& 31))) fun x30 =>
  some (x30))) fun (y22 : Int32) =>
  some (y22))) fun (y16 : Int32) =>
  some (y12.1, y16))))
set_option maxHeartbeats 4000000 in
set_option maxRecDepth 100000 in
theorem kX6_colourMean (l : Launch) (D : va_G) (ct : CT) (ad : Nat → Nat) (Z : Nat → Nat) (G : GG) (M : DD) (sz : Nat) (a : Nat) (p0 : Int32) (p1 : Int32) (y : DD × Int32) (hc : a < G.1) (hk : G.2.1 a = 6) (hF : FX6_colourMean G M a p0 p1 = some y) : Met l yX6_colourMean wuX6_colourMean ({ frames := 1, cells := 0, slots := 0, locals := 24 }) (va_Pc [.ref (ad a), .int p0, .int p1] (kB D ct ad Z G M sz)) (va_Qi (fun (q : Int32) (_ : Unit) => q = y.2) (fun _ t => kE D ct ad G (wA ad G sz) y.1 t) (wA ad G sz)) 0 0 (wA ad G sz) := by
  refine Met.ofW (cc := cX6_colourMean) (maxL := 7) (ret := (some .int)) (by decide) rfl ?_
  intro p e s m args below meth c s₁ B hml hv
  obtain ⟨rfl, hsz, hP, hK, hD0, hZ, hN⟩ := hv
  have hx := B.exec
  have hb := B.bytes
  have hr := B.returns
  have hts := atoms_spec (ws := wuX6_colourMean) B.pre
  have hown : s.vm.findClass RX6 = some m.cls := findClass_of_methodNamed B.named
  have hlocks := B.notSynchronized
  subst hsz
  have hD := wD_self (sz := s.heap.size) hD0
  have hA9 : ∀ q, s.heap.size ≤ q → wA ad G s.heap.size q := fun q h => Or.inr h
  generalize hAe : wA ad G s.heap.size = A at hD hA9 hZ ⊢
  have hS : va_S A s.heap s.heap [] := va_S.rf
  have hl := lv_entry ([.ref (ad a), .int p0, .int p1]) (n := 7) (Nat.le_of_ble_eq_true rfl)
  rw [lg_entry_eq]
  generalize (lg_sl ([.ref (ad a), .int p0, .int p1]) ++ List.replicate (7 - (lg_sl ([.ref (ad a), .int p0, .int p1])).length) Slot.unset).toArray = ls at hl ⊢
  have hl : lv_has ls 7 [(0, .ref (ad a)), (1, .int p0), (2, .int p1)] := hl
  unfold FX6_colourMean at hF
  refine lv_iload_n hx hb dX6_colourMean_0 rfl (lv_at hl 2 rfl) ?_
  refine lv_iconst (v := (1 : Int32)) hx hb dX6_colourMean_1 (by decide) ?_
  refine lv_iand hx hb dX6_colourMean_2 ?_
  obtain ⟨x1, ex1, hF⟩ := ltt_some hF
  refine lv_topi (fun zx1 ezx1 => ?_)
  obtain rfl : x1 = zx1 := ex1.trans ezx1.symm
  obtain ⟨y2, hy2, hF⟩ := bnd_some hF
  have J2 : ∀ (H : Heap) (locs : List Loc) (ls : Array Slot), va_P D classes (wld ct ad G M) H → va_D A (wld ct ad G M) → va_S A s.heap H locs → lv_has ls 7 [(0, .ref (ad a)), (1, .int p0), (2, .int p1)] → W p l e (headSpec wuX6_colourMean ({ frames := 1, cells := 0, slots := 0, locals := 24 })).room s m ([.ref (ad a), .int p0, .int p1] : List Value).toArray below meth c H locs 0 0 (MQ below (va_Qi (fun (q : Int32) (_ : Unit) => q = y.2) (fun _ t => kE D ct ad G A y.1 t) A) ([.ref (ad a), .int p0, .int p1] : List Value).toArray s 0 0 A) (F0 m 11 ls [.int y2]) := by
    intro H locs ls hP hD hS hl
    refine lv_istore_n (lv' := [(3, .int y2), (0, .ref (ad a)), (1, .int p0), (2, .int p1)]) hx hb dX6_colourMean_11 rfl hl (by decide) rfl (fun ls hl => ?_)
    refine lv_iload_n hx hb dX6_colourMean_12 rfl (lv_at hl 3 rfl) ?_
    refine lv_iconst (v := (2 : Int32)) hx hb dX6_colourMean_13 (by decide) ?_
    refine lv_iand hx hb dX6_colourMean_14 ?_
    obtain ⟨x3, ex3, hF⟩ := ltt_some hF
    refine lv_topi (fun zx3 ezx3 => ?_)
    obtain rfl : x3 = zx3 := ex3.trans ezx3.symm
    obtain ⟨y4, hy4, hF⟩ := bnd_some hF
    have J4 : ∀ (H : Heap) (locs : List Loc) (ls : Array Slot), va_P D classes (wld ct ad G M) H → va_D A (wld ct ad G M) → va_S A s.heap H locs → lv_has ls 7 [(3, .int y2), (0, .ref (ad a)), (1, .int p0), (2, .int p1)] → W p l e (headSpec wuX6_colourMean ({ frames := 1, cells := 0, slots := 0, locals := 24 })).room s m ([.ref (ad a), .int p0, .int p1] : List Value).toArray below meth c H locs 0 0 (MQ below (va_Qi (fun (q : Int32) (_ : Unit) => q = y.2) (fun _ t => kE D ct ad G A y.1 t) A) ([.ref (ad a), .int p0, .int p1] : List Value).toArray s 0 0 A) (F0 m 23 ls [.int y4]) := by
      intro H locs ls hP hD hS hl
      refine lv_istore (lv' := [(4, .int y4), (3, .int y2), (0, .ref (ad a)), (1, .int p0), (2, .int p1)]) hx hb dX6_colourMean_23 hl (by decide) rfl (fun ls hl => ?_)
      refine lv_aload_n hx hb dX6_colourMean_25 rfl (lv_at hl 2 rfl) ?_
      refine lv_iconst (v := (1 : Int32)) hx hb dX6_colourMean_26 (by decide) ?_
      refine lv_iload_n hx hb dX6_colourMean_27 rfl (lv_at hl 3 rfl) ?_
      refine lv_iconst (v := (2 : Int32)) hx hb dX6_colourMean_28 (by decide) ?_
      refine lv_irem hx hb dX6_colourMean_29 (by decide) ?_
      obtain ⟨x5, ex5, hF⟩ := ltt_some hF
      refine lv_topi (fun zx5 ezx5 => ?_)
      obtain rfl : x5 = zx5 := ex5.trans ezx5.symm
      refine lv_iconst (v := (4 : Int32)) hx hb dX6_colourMean_30 (by decide) ?_
      refine lv_imul hx hb dX6_colourMean_31 ?_
      obtain ⟨x6, ex6, hF⟩ := ltt_some hF
      refine lv_topi (fun zx6 ezx6 => ?_)
      obtain rfl : x6 = zx6 := ex6.trans ezx6.symm
      refine lv_iadd hx hb dX6_colourMean_32 ?_
      obtain ⟨x7, ex7, hF⟩ := ltt_some hF
      refine lv_topi (fun zx7 ezx7 => ?_)
      obtain rfl : x7 = zx7 := ex7.trans ezx7.symm
      refine lv_iconst (v := (4 : Int32)) hx hb dX6_colourMean_33 (by decide) ?_
      obtain ⟨y8, hy8, hF⟩ := bnd_some hF
      have hf9 := wA_in hD hA9 hS
      refine va_calli (va_runV (As := [.int x7, .int (4 : Int32)]) (rest := []) ⟨hx, hb, hml, hown, hts⟩ (kX6_sumAround l D ct ad Z G M H.size a x7 ((4 : Int32)) y8 hc hk hy8) (cwV 2 hts gX6_colourMean_X6_sumAround rfl rfl rfl (by decide +kernel) ⟨Nat.le_of_ble_eq_true rfl, Nat.le_of_ble_eq_true rfl⟩) ⟨fun a U g mk q => by obtain ⟨q0, q1, qP, qK, qD, qZ, qN⟩ := q; exact ⟨q0, q1, qP, va_K.moved (u := U) (U := U.calling g mk a) (Vm.Alike.refl U.vm) qK, qD, sF.moved (u := U) (U := U.calling g mk a) (Vm.Alike.refl U.vm) qZ, nF.same rfl qN⟩, va_recv hK hP (ci := 6) (q0 := a) rfl (wld_o ct ad G M hc hk (by decide)), fun U hU hW => ⟨rfl, by rw [hU], by rw [hU]; exact hP, va_K.moved hW.alike hK, hD.weaken (fun _ _ _ _ => trivial), by rw [hU]; exact ((hZ.kept hS.2.1).narrow hf9).moved hW.alike, hN.warm hW⟩⟩ rfl rfl hl.1 rfl (lv_room (Nat.le_of_ble_eq_true rfl)) dX6_colourMean_34 ⟨(Nat.zero_le _), (Nat.zero_le _)⟩) hS (fun q _ h => hf9 q h) hf9 (fun r u t H locs ht hvm hw hB hz1 hk1 hS => ?_)
      obtain ⟨hP, hK9, hD9⟩ := hB
      rw [ht] at hP
      try dsimp only at hw
      subst hw
      have hD := hD9.weaken (fun _ q _ h => hf9 q.1 h)
      refine lv_istore (lv' := [(5, .int y8.2), (4, .int y4), (3, .int y2), (0, .ref (ad a)), (1, .int p0), (2, .int p1)]) hx hb dX6_colourMean_37 hl (by decide) rfl (fun ls hl => ?_)
      refine lv_aload_n hx hb dX6_colourMean_39 rfl (lv_at hl 3 rfl) ?_
      refine lv_bipush (v := (10 : Int32)) hx hb dX6_colourMean_40 (by decide) ?_
      refine lv_iload_n hx hb dX6_colourMean_42 rfl (lv_at hl 4 rfl) ?_
      refine lv_iconst (v := (2 : Int32)) hx hb dX6_colourMean_43 (by decide) ?_
      refine lv_idiv hx hb dX6_colourMean_44 (by decide) ?_
      obtain ⟨x9, ex9, hF⟩ := ltt_some hF
      refine lv_topi (fun zx9 ezx9 => ?_)
      obtain rfl : x9 = zx9 := ex9.trans ezx9.symm
      refine lv_iconst (v := (4 : Int32)) hx hb dX6_colourMean_45 (by decide) ?_
      refine lv_imul hx hb dX6_colourMean_46 ?_
      obtain ⟨x10, ex10, hF⟩ := ltt_some hF
      refine lv_topi (fun zx10 ezx10 => ?_)
      obtain rfl : x10 = zx10 := ex10.trans ezx10.symm
      refine lv_iadd hx hb dX6_colourMean_47 ?_
      obtain ⟨x11, ex11, hF⟩ := ltt_some hF
      refine lv_topi (fun zx11 ezx11 => ?_)
      obtain rfl : x11 = zx11 := ex11.trans ezx11.symm
      refine lv_iconst (v := (4 : Int32)) hx hb dX6_colourMean_48 (by decide) ?_
      obtain ⟨y12, hy12, hF⟩ := bnd_some hF
      have hf9 := wA_in hD hA9 hS
      refine va_calli (va_runV (As := [.int x11, .int (4 : Int32)]) (rest := []) ⟨hx, hb, hml, hown, hts⟩ (kX6_sumAround l D ct ad Z G y8.1 H.size a x11 ((4 : Int32)) y12 hc hk hy12) (cwV 2 hts gX6_colourMean_X6_sumAround rfl rfl rfl (by decide +kernel) ⟨Nat.le_of_ble_eq_true rfl, Nat.le_of_ble_eq_true rfl⟩) ⟨fun a U g mk q => by obtain ⟨q0, q1, qP, qK, qD, qZ, qN⟩ := q; exact ⟨q0, q1, qP, va_K.moved (u := U) (U := U.calling g mk a) (Vm.Alike.refl U.vm) qK, qD, sF.moved (u := U) (U := U.calling g mk a) (Vm.Alike.refl U.vm) qZ, nF.same rfl qN⟩, va_recv hK hP (ci := 6) (q0 := a) rfl (wld_o ct ad G y8.1 hc hk (by decide)), fun U hU hW => ⟨rfl, by rw [hU], by rw [hU]; exact hP, va_K.moved hW.alike hK, hD.weaken (fun _ _ _ _ => trivial), by rw [hU]; exact ((hZ.kept hS.2.1).narrow hf9).moved hW.alike, hN.warm hW⟩⟩ rfl rfl hl.1 rfl (lv_room (Nat.le_of_ble_eq_true rfl)) dX6_colourMean_49 ⟨(Nat.zero_le _), (Nat.zero_le _)⟩) hS (fun q _ h => hf9 q h) hf9 (fun r u t H locs ht hvm hw hB hz1 hk1 hS => ?_)
      obtain ⟨hP, hK9, hD9⟩ := hB
      rw [ht] at hP
      try dsimp only at hw
      subst hw
      have hD := hD9.weaken (fun _ q _ h => hf9 q.1 h)
      refine lv_istore (lv' := [(6, .int y12.2), (5, .int y8.2), (4, .int y4), (3, .int y2), (0, .ref (ad a)), (1, .int p0), (2, .int p1)]) hx hb dX6_colourMean_52 hl (by decide) rfl (fun ls hl => ?_)
      refine lv_iload_n hx hb dX6_colourMean_54 rfl (lv_at hl 3 rfl) ?_
      refine lv_if_ne (tgt := 67) hx hb dX6_colourMean_55 (by decide) (fun c13 => ?_) (fun c13 => ?_)
      · rw [if_neg c13] at hF
        refine lv_iload_n hx hb dX6_colourMean_67 rfl (lv_at hl 5 rfl) ?_
        refine lv_iconst (v := (1 : Int32)) hx hb dX6_colourMean_68 (by decide) ?_
        refine lv_icmp_ne (tgt := 89) hx hb dX6_colourMean_69 (by decide) (fun c14 => ?_) (fun c14 => ?_)
        · rw [if_neg c14] at hF
          refine lv_iload_n hx hb dX6_colourMean_89 rfl (lv_at hl 5 rfl) ?_
          refine lv_iconst (v := (2 : Int32)) hx hb dX6_colourMean_90 (by decide) ?_
          refine lv_icmp_ne (tgt := 110) hx hb dX6_colourMean_91 (by decide) (fun c15 => ?_) (fun c15 => ?_)
          · rw [if_neg c15] at hF
            refine lv_iload_n hx hb dX6_colourMean_110 rfl (lv_at hl 3 rfl) ?_
            obtain ⟨y16, hy16, hF⟩ := bnd_some hF
            have J16 : ∀ (H : Heap) (locs : List Loc) (ls : Array Slot), va_P D classes (wld ct ad G y12.1) H → va_D A (wld ct ad G y12.1) → va_S A s.heap H locs → lv_has ls 7 [(6, .int y12.2), (5, .int y8.2), (4, .int y4), (3, .int y2), (0, .ref (ad a)), (1, .int p0), (2, .int p1)] → W p l e (headSpec wuX6_colourMean ({ frames := 1, cells := 0, slots := 0, locals := 24 })).room s m ([.ref (ad a), .int p0, .int p1] : List Value).toArray below meth c H locs 0 0 (MQ below (va_Qi (fun (q : Int32) (_ : Unit) => q = y.2) (fun _ t => kE D ct ad G A y.1 t) A) ([.ref (ad a), .int p0, .int p1] : List Value).toArray s 0 0 A) (F0 m 146 ls [.int y16]) := by
              intro H locs ls hP hD hS hl
              obtain rfl := Option.some.inj hF
              exact W.iret (v := y16) hx hb hr (fun t ht hW => ⟨⟨_, (), rfl, rfl, ⟨by rw [ht]; exact hP, va_K.moved hW.alike hK, hD⟩⟩, hS.F ht⟩) hS.2.2 dX6_colourMean_146
            clear hF
            have hF := hy16
            clear hy16
            refine lv_if_eq (tgt := 131) hx hb dX6_colourMean_111 (by decide) (fun c17 => ?_) (fun c17 => ?_)
            · rw [if_pos c17] at hF
              refine lv_iload_n hx hb dX6_colourMean_131 rfl (lv_at hl 3 rfl) ?_
              obtain ⟨y18, hy18, hF⟩ := bnd_some hF
              have J18 : ∀ (H : Heap) (locs : List Loc) (ls : Array Slot), va_P D classes (wld ct ad G y12.1) H → va_D A (wld ct ad G y12.1) → va_S A s.heap H locs → lv_has ls 7 [(6, .int y12.2), (5, .int y8.2), (4, .int y4), (3, .int y2), (0, .ref (ad a)), (1, .int p0), (2, .int p1)] → W p l e (headSpec wuX6_colourMean ({ frames := 1, cells := 0, slots := 0, locals := 24 })).room s m ([.ref (ad a), .int p0, .int p1] : List Value).toArray below meth c H locs 0 0 (MQ below (va_Qi (fun (q : Int32) (_ : Unit) => q = y.2) (fun _ t => kE D ct ad G A y.1 t) A) ([.ref (ad a), .int p0, .int p1] : List Value).toArray s 0 0 A) (F0 m 142 ls [.int y18]) := by
                intro H locs ls hP hD hS hl
                refine lv_iconst (v := (2 : Int32)) hx hb dX6_colourMean_142 (by decide) ?_
                refine lv_iadd hx hb dX6_colourMean_143 ?_
                obtain ⟨x19, ex19, hF⟩ := ltt_some hF
                refine lv_topi (fun zx19 ezx19 => ?_)
                obtain rfl : x19 = zx19 := ex19.trans ezx19.symm
                refine lv_iconst (v := (2 : Int32)) hx hb dX6_colourMean_144 (by decide) ?_
                refine lv_ishr hx hb dX6_colourMean_145 ?_
                obtain ⟨x20, ex20, hF⟩ := ltt_some hF
                refine lv_topi (fun zx20 ezx20 => ?_)
                obtain rfl : x20 = zx20 := ex20.trans ezx20.symm
                obtain rfl := Option.some.inj hF
                exact J16 _ _ _ hP hD hS (lv_sub hl [0, 1, 2, 3, 4, 5, 6] rfl)
              clear hF
              have hF := hy18
              clear hy18
              refine lv_if_eq (tgt := 140) hx hb dX6_colourMean_132 (by decide) (fun c21 => ?_) (fun c21 => ?_)
              · rw [if_pos c21] at hF
                refine lv_iload hx hb dX6_colourMean_140 (lv_at hl 1 rfl) ?_
                obtain rfl := Option.some.inj hF
                exact J18 _ _ _ hP hD hS (lv_sub hl [0, 1, 2, 3, 4, 5, 6] rfl)
              · rw [if_neg c21] at hF
                refine lv_iload hx hb dX6_colourMean_135 (lv_at hl 0 rfl) ?_
                refine lv_goto (tgt := 142) hx hb dX6_colourMean_137 (by decide) ?_
                obtain rfl := Option.some.inj hF
                exact J18 _ _ _ hP hD hS (lv_sub hl [0, 1, 2, 3, 4, 5, 6] rfl)
            · rw [if_neg c17] at hF
              refine lv_iload hx hb dX6_colourMean_114 (lv_at hl 2 rfl) ?_
              obtain ⟨y22, hy22, hF⟩ := bnd_some hF
              have J22 : ∀ (H : Heap) (locs : List Loc) (ls : Array Slot), va_P D classes (wld ct ad G y12.1) H → va_D A (wld ct ad G y12.1) → va_S A s.heap H locs → lv_has ls 7 [(6, .int y12.2), (5, .int y8.2), (4, .int y4), (3, .int y2), (0, .ref (ad a)), (1, .int p0), (2, .int p1)] → W p l e (headSpec wuX6_colourMean ({ frames := 1, cells := 0, slots := 0, locals := 24 })).room s m ([.ref (ad a), .int p0, .int p1] : List Value).toArray below meth c H locs 0 0 (MQ below (va_Qi (fun (q : Int32) (_ : Unit) => q = y.2) (fun _ t => kE D ct ad G A y.1 t) A) ([.ref (ad a), .int p0, .int p1] : List Value).toArray s 0 0 A) (F0 m 146 ls [.int y22]) := by
                intro H locs ls hP hD hS hl
                obtain rfl := Option.some.inj hF
                exact J16 _ _ _ hP hD hS (lv_sub hl [0, 1, 2, 3, 4, 5, 6] rfl)
              clear hF
              have hF := hy22
              clear hy22
              refine lv_if_eq (tgt := 131) hx hb dX6_colourMean_116 (by decide) (fun c23 => ?_) (fun c23 => ?_)
              · rw [if_pos c23] at hF
                refine lv_iload_n hx hb dX6_colourMean_131 rfl (lv_at hl 3 rfl) ?_
                obtain ⟨y24, hy24, hF⟩ := bnd_some hF
                have J24 : ∀ (H : Heap) (locs : List Loc) (ls : Array Slot), va_P D classes (wld ct ad G y12.1) H → va_D A (wld ct ad G y12.1) → va_S A s.heap H locs → lv_has ls 7 [(6, .int y12.2), (5, .int y8.2), (4, .int y4), (3, .int y2), (0, .ref (ad a)), (1, .int p0), (2, .int p1)] → W p l e (headSpec wuX6_colourMean ({ frames := 1, cells := 0, slots := 0, locals := 24 })).room s m ([.ref (ad a), .int p0, .int p1] : List Value).toArray below meth c H locs 0 0 (MQ below (va_Qi (fun (q : Int32) (_ : Unit) => q = y.2) (fun _ t => kE D ct ad G A y.1 t) A) ([.ref (ad a), .int p0, .int p1] : List Value).toArray s 0 0 A) (F0 m 142 ls [.int y24]) := by
                  intro H locs ls hP hD hS hl
                  refine lv_iconst (v := (2 : Int32)) hx hb dX6_colourMean_142 (by decide) ?_
                  refine lv_iadd hx hb dX6_colourMean_143 ?_
                  obtain ⟨x25, ex25, hF⟩ := ltt_some hF
                  refine lv_topi (fun zx25 ezx25 => ?_)
                  obtain rfl : x25 = zx25 := ex25.trans ezx25.symm
                  refine lv_iconst (v := (2 : Int32)) hx hb dX6_colourMean_144 (by decide) ?_
                  refine lv_ishr hx hb dX6_colourMean_145 ?_
                  obtain ⟨x26, ex26, hF⟩ := ltt_some hF
                  refine lv_topi (fun zx26 ezx26 => ?_)
                  obtain rfl : x26 = zx26 := ex26.trans ezx26.symm
                  obtain rfl := Option.some.inj hF
                  exact J22 _ _ _ hP hD hS (lv_sub hl [0, 1, 2, 3, 4, 5, 6] rfl)
                clear hF
                have hF := hy24
                clear hy24
                refine lv_if_eq (tgt := 140) hx hb dX6_colourMean_132 (by decide) (fun c27 => ?_) (fun c27 => ?_)
                · rw [if_pos c27] at hF
                  refine lv_iload hx hb dX6_colourMean_140 (lv_at hl 1 rfl) ?_
                  obtain rfl := Option.some.inj hF
                  exact J24 _ _ _ hP hD hS (lv_sub hl [0, 1, 2, 3, 4, 5, 6] rfl)
                · rw [if_neg c27] at hF
                  refine lv_iload hx hb dX6_colourMean_135 (lv_at hl 0 rfl) ?_
                  refine lv_goto (tgt := 142) hx hb dX6_colourMean_137 (by decide) ?_
                  obtain rfl := Option.some.inj hF
                  exact J24 _ _ _ hP hD hS (lv_sub hl [0, 1, 2, 3, 4, 5, 6] rfl)
              · rw [if_neg c23] at hF
                refine lv_iload hx hb dX6_colourMean_119 (lv_at hl 1 rfl) ?_
                refine lv_iload hx hb dX6_colourMean_121 (lv_at hl 0 rfl) ?_
                refine lv_iadd hx hb dX6_colourMean_123 ?_
                obtain ⟨x28, ex28, hF⟩ := ltt_some hF
                refine lv_topi (fun zx28 ezx28 => ?_)
                obtain rfl : x28 = zx28 := ex28.trans ezx28.symm
                refine lv_iconst (v := (4 : Int32)) hx hb dX6_colourMean_124 (by decide) ?_
                refine lv_iadd hx hb dX6_colourMean_125 ?_
                obtain ⟨x29, ex29, hF⟩ := ltt_some hF
                refine lv_topi (fun zx29 ezx29 => ?_)
                obtain rfl : x29 = zx29 := ex29.trans ezx29.symm
                refine lv_iconst (v := (3 : Int32)) hx hb dX6_colourMean_126 (by decide) ?_
                refine lv_ishr hx hb dX6_colourMean_127 ?_
                obtain ⟨x30, ex30, hF⟩ := ltt_some hF
                refine lv_topi (fun zx30 ezx30 => ?_)
                obtain rfl : x30 = zx30 := ex30.trans ezx30.symm
                refine lv_goto (tgt := 146) hx hb dX6_colourMean_128 (by decide) ?_
                obtain rfl := Option.some.inj hF
                exact J22 _ _ _ hP hD hS (lv_sub hl [0, 1, 2, 3, 4, 5, 6] rfl)
          · rw [if_pos c15] at hF
            refine lv_iload_n hx hb dX6_colourMean_94 rfl (lv_at hl 3 rfl) ?_
            obtain ⟨y31, hy31, hF⟩ := bnd_some hF
            have J31 : ∀ (H : Heap) (locs : List Loc) (ls : Array Slot), va_P D classes (wld ct ad G y12.1) H → va_D A (wld ct ad G y12.1) → va_S A s.heap H locs → lv_has ls 7 [(6, .int y12.2), (5, .int y8.2), (4, .int y4), (3, .int y2), (0, .ref (ad a)), (1, .int p0), (2, .int p1)] → W p l e (headSpec wuX6_colourMean ({ frames := 1, cells := 0, slots := 0, locals := 24 })).room s m ([.ref (ad a), .int p0, .int p1] : List Value).toArray below meth c H locs 0 0 (MQ below (va_Qi (fun (q : Int32) (_ : Unit) => q = y.2) (fun _ t => kE D ct ad G A y.1 t) A) ([.ref (ad a), .int p0, .int p1] : List Value).toArray s 0 0 A) (F0 m 105 ls [.int y31]) := by
              intro H locs ls hP hD hS hl
              refine lv_iconst (v := (2 : Int32)) hx hb dX6_colourMean_105 (by decide) ?_
              refine lv_iadd hx hb dX6_colourMean_106 ?_
              obtain ⟨x32, ex32, hF⟩ := ltt_some hF
              refine lv_topi (fun zx32 ezx32 => ?_)
              obtain rfl : x32 = zx32 := ex32.trans ezx32.symm
              refine lv_iconst (v := (2 : Int32)) hx hb dX6_colourMean_107 (by decide) ?_
              refine lv_ishr hx hb dX6_colourMean_108 ?_
              obtain ⟨x33, ex33, hF⟩ := ltt_some hF
              refine lv_topi (fun zx33 ezx33 => ?_)
              obtain rfl : x33 = zx33 := ex33.trans ezx33.symm
              obtain rfl := Option.some.inj hF
              exact W.iret (v := x33) hx hb hr (fun t ht hW => ⟨⟨_, (), rfl, rfl, ⟨by rw [ht]; exact hP, va_K.moved hW.alike hK, hD⟩⟩, hS.F ht⟩) hS.2.2 dX6_colourMean_109
            clear hF
            have hF := hy31
            clear hy31
            refine lv_if_eq (tgt := 103) hx hb dX6_colourMean_95 (by decide) (fun c34 => ?_) (fun c34 => ?_)
            · rw [if_pos c34] at hF
              refine lv_iload hx hb dX6_colourMean_103 (lv_at hl 1 rfl) ?_
              obtain rfl := Option.some.inj hF
              exact J31 _ _ _ hP hD hS (lv_sub hl [0, 1, 2, 3, 4, 5, 6] rfl)
            · rw [if_neg c34] at hF
              refine lv_iload hx hb dX6_colourMean_98 (lv_at hl 0 rfl) ?_
              refine lv_goto (tgt := 105) hx hb dX6_colourMean_100 (by decide) ?_
              obtain rfl := Option.some.inj hF
              exact J31 _ _ _ hP hD hS (lv_sub hl [0, 1, 2, 3, 4, 5, 6] rfl)
        · rw [if_pos c14] at hF
          refine lv_iload hx hb dX6_colourMean_72 (lv_at hl 2 rfl) ?_
          obtain ⟨y35, hy35, hF⟩ := bnd_some hF
          have J35 : ∀ (H : Heap) (locs : List Loc) (ls : Array Slot), va_P D classes (wld ct ad G y12.1) H → va_D A (wld ct ad G y12.1) → va_S A s.heap H locs → lv_has ls 7 [(6, .int y12.2), (5, .int y8.2), (4, .int y4), (3, .int y2), (0, .ref (ad a)), (1, .int p0), (2, .int p1)] → W p l e (headSpec wuX6_colourMean ({ frames := 1, cells := 0, slots := 0, locals := 24 })).room s m ([.ref (ad a), .int p0, .int p1] : List Value).toArray below meth c H locs 0 0 (MQ below (va_Qi (fun (q : Int32) (_ : Unit) => q = y.2) (fun _ t => kE D ct ad G A y.1 t) A) ([.ref (ad a), .int p0, .int p1] : List Value).toArray s 0 0 A) (F0 m 84 ls [.int y35]) := by
            intro H locs ls hP hD hS hl
            refine lv_iconst (v := (2 : Int32)) hx hb dX6_colourMean_84 (by decide) ?_
            refine lv_iadd hx hb dX6_colourMean_85 ?_
            obtain ⟨x36, ex36, hF⟩ := ltt_some hF
            refine lv_topi (fun zx36 ezx36 => ?_)
            obtain rfl : x36 = zx36 := ex36.trans ezx36.symm
            refine lv_iconst (v := (2 : Int32)) hx hb dX6_colourMean_86 (by decide) ?_
            refine lv_ishr hx hb dX6_colourMean_87 ?_
            obtain ⟨x37, ex37, hF⟩ := ltt_some hF
            refine lv_topi (fun zx37 ezx37 => ?_)
            obtain rfl : x37 = zx37 := ex37.trans ezx37.symm
            obtain rfl := Option.some.inj hF
            exact W.iret (v := x37) hx hb hr (fun t ht hW => ⟨⟨_, (), rfl, rfl, ⟨by rw [ht]; exact hP, va_K.moved hW.alike hK, hD⟩⟩, hS.F ht⟩) hS.2.2 dX6_colourMean_88
          clear hF
          have hF := hy35
          clear hy35
          refine lv_if_eq (tgt := 82) hx hb dX6_colourMean_74 (by decide) (fun c38 => ?_) (fun c38 => ?_)
          · rw [if_pos c38] at hF
            refine lv_iload hx hb dX6_colourMean_82 (lv_at hl 0 rfl) ?_
            obtain rfl := Option.some.inj hF
            exact J35 _ _ _ hP hD hS (lv_sub hl [0, 1, 2, 3, 4, 5, 6] rfl)
          · rw [if_neg c38] at hF
            refine lv_iload hx hb dX6_colourMean_77 (lv_at hl 1 rfl) ?_
            refine lv_goto (tgt := 84) hx hb dX6_colourMean_79 (by decide) ?_
            obtain rfl := Option.some.inj hF
            exact J35 _ _ _ hP hD hS (lv_sub hl [0, 1, 2, 3, 4, 5, 6] rfl)
      · rw [if_pos c13] at hF
        refine lv_iload hx hb dX6_colourMean_58 (lv_at hl 2 rfl) ?_
        refine lv_if_ne (tgt := 67) hx hb dX6_colourMean_60 (by decide) (fun c39 => ?_) (fun c39 => ?_)
        · rw [if_neg c39] at hF
          refine lv_iload_n hx hb dX6_colourMean_67 rfl (lv_at hl 5 rfl) ?_
          refine lv_iconst (v := (1 : Int32)) hx hb dX6_colourMean_68 (by decide) ?_
          refine lv_icmp_ne (tgt := 89) hx hb dX6_colourMean_69 (by decide) (fun c40 => ?_) (fun c40 => ?_)
          · rw [if_neg c40] at hF
            refine lv_iload_n hx hb dX6_colourMean_89 rfl (lv_at hl 5 rfl) ?_
            refine lv_iconst (v := (2 : Int32)) hx hb dX6_colourMean_90 (by decide) ?_
            refine lv_icmp_ne (tgt := 110) hx hb dX6_colourMean_91 (by decide) (fun c41 => ?_) (fun c41 => ?_)
            · rw [if_neg c41] at hF
              refine lv_iload_n hx hb dX6_colourMean_110 rfl (lv_at hl 3 rfl) ?_
              obtain ⟨y42, hy42, hF⟩ := bnd_some hF
              have J42 : ∀ (H : Heap) (locs : List Loc) (ls : Array Slot), va_P D classes (wld ct ad G y12.1) H → va_D A (wld ct ad G y12.1) → va_S A s.heap H locs → lv_has ls 7 [(6, .int y12.2), (5, .int y8.2), (4, .int y4), (3, .int y2), (0, .ref (ad a)), (1, .int p0), (2, .int p1)] → W p l e (headSpec wuX6_colourMean ({ frames := 1, cells := 0, slots := 0, locals := 24 })).room s m ([.ref (ad a), .int p0, .int p1] : List Value).toArray below meth c H locs 0 0 (MQ below (va_Qi (fun (q : Int32) (_ : Unit) => q = y.2) (fun _ t => kE D ct ad G A y.1 t) A) ([.ref (ad a), .int p0, .int p1] : List Value).toArray s 0 0 A) (F0 m 146 ls [.int y42]) := by
                intro H locs ls hP hD hS hl
                obtain rfl := Option.some.inj hF
                exact W.iret (v := y42) hx hb hr (fun t ht hW => ⟨⟨_, (), rfl, rfl, ⟨by rw [ht]; exact hP, va_K.moved hW.alike hK, hD⟩⟩, hS.F ht⟩) hS.2.2 dX6_colourMean_146
              clear hF
              have hF := hy42
              clear hy42
              refine lv_if_eq (tgt := 131) hx hb dX6_colourMean_111 (by decide) (fun c43 => ?_) (fun c43 => ?_)
              · rw [if_pos c43] at hF
                refine lv_iload_n hx hb dX6_colourMean_131 rfl (lv_at hl 3 rfl) ?_
                obtain ⟨y44, hy44, hF⟩ := bnd_some hF
                have J44 : ∀ (H : Heap) (locs : List Loc) (ls : Array Slot), va_P D classes (wld ct ad G y12.1) H → va_D A (wld ct ad G y12.1) → va_S A s.heap H locs → lv_has ls 7 [(6, .int y12.2), (5, .int y8.2), (4, .int y4), (3, .int y2), (0, .ref (ad a)), (1, .int p0), (2, .int p1)] → W p l e (headSpec wuX6_colourMean ({ frames := 1, cells := 0, slots := 0, locals := 24 })).room s m ([.ref (ad a), .int p0, .int p1] : List Value).toArray below meth c H locs 0 0 (MQ below (va_Qi (fun (q : Int32) (_ : Unit) => q = y.2) (fun _ t => kE D ct ad G A y.1 t) A) ([.ref (ad a), .int p0, .int p1] : List Value).toArray s 0 0 A) (F0 m 142 ls [.int y44]) := by
                  intro H locs ls hP hD hS hl
                  refine lv_iconst (v := (2 : Int32)) hx hb dX6_colourMean_142 (by decide) ?_
                  refine lv_iadd hx hb dX6_colourMean_143 ?_
                  obtain ⟨x45, ex45, hF⟩ := ltt_some hF
                  refine lv_topi (fun zx45 ezx45 => ?_)
                  obtain rfl : x45 = zx45 := ex45.trans ezx45.symm
                  refine lv_iconst (v := (2 : Int32)) hx hb dX6_colourMean_144 (by decide) ?_
                  refine lv_ishr hx hb dX6_colourMean_145 ?_
                  obtain ⟨x46, ex46, hF⟩ := ltt_some hF
                  refine lv_topi (fun zx46 ezx46 => ?_)
                  obtain rfl : x46 = zx46 := ex46.trans ezx46.symm
                  obtain rfl := Option.some.inj hF
                  exact J42 _ _ _ hP hD hS (lv_sub hl [0, 1, 2, 3, 4, 5, 6] rfl)
                clear hF
                have hF := hy44
                clear hy44
                refine lv_if_eq (tgt := 140) hx hb dX6_colourMean_132 (by decide) (fun c47 => ?_) (fun c47 => ?_)
                · rw [if_pos c47] at hF
                  refine lv_iload hx hb dX6_colourMean_140 (lv_at hl 1 rfl) ?_
                  obtain rfl := Option.some.inj hF
                  exact J44 _ _ _ hP hD hS (lv_sub hl [0, 1, 2, 3, 4, 5, 6] rfl)
                · rw [if_neg c47] at hF
                  refine lv_iload hx hb dX6_colourMean_135 (lv_at hl 0 rfl) ?_
                  refine lv_goto (tgt := 142) hx hb dX6_colourMean_137 (by decide) ?_
                  obtain rfl := Option.some.inj hF
                  exact J44 _ _ _ hP hD hS (lv_sub hl [0, 1, 2, 3, 4, 5, 6] rfl)
              · rw [if_neg c43] at hF
                refine lv_iload hx hb dX6_colourMean_114 (lv_at hl 2 rfl) ?_
                obtain ⟨y48, hy48, hF⟩ := bnd_some hF
                have J48 : ∀ (H : Heap) (locs : List Loc) (ls : Array Slot), va_P D classes (wld ct ad G y12.1) H → va_D A (wld ct ad G y12.1) → va_S A s.heap H locs → lv_has ls 7 [(6, .int y12.2), (5, .int y8.2), (4, .int y4), (3, .int y2), (0, .ref (ad a)), (1, .int p0), (2, .int p1)] → W p l e (headSpec wuX6_colourMean ({ frames := 1, cells := 0, slots := 0, locals := 24 })).room s m ([.ref (ad a), .int p0, .int p1] : List Value).toArray below meth c H locs 0 0 (MQ below (va_Qi (fun (q : Int32) (_ : Unit) => q = y.2) (fun _ t => kE D ct ad G A y.1 t) A) ([.ref (ad a), .int p0, .int p1] : List Value).toArray s 0 0 A) (F0 m 146 ls [.int y48]) := by
                  intro H locs ls hP hD hS hl
                  obtain rfl := Option.some.inj hF
                  exact J42 _ _ _ hP hD hS (lv_sub hl [0, 1, 2, 3, 4, 5, 6] rfl)
                clear hF
                have hF := hy48
                clear hy48
                refine lv_if_eq (tgt := 131) hx hb dX6_colourMean_116 (by decide) (fun c49 => ?_) (fun c49 => ?_)
                · rw [if_pos c49] at hF
                  refine lv_iload_n hx hb dX6_colourMean_131 rfl (lv_at hl 3 rfl) ?_
                  obtain ⟨y50, hy50, hF⟩ := bnd_some hF
                  have J50 : ∀ (H : Heap) (locs : List Loc) (ls : Array Slot), va_P D classes (wld ct ad G y12.1) H → va_D A (wld ct ad G y12.1) → va_S A s.heap H locs → lv_has ls 7 [(6, .int y12.2), (5, .int y8.2), (4, .int y4), (3, .int y2), (0, .ref (ad a)), (1, .int p0), (2, .int p1)] → W p l e (headSpec wuX6_colourMean ({ frames := 1, cells := 0, slots := 0, locals := 24 })).room s m ([.ref (ad a), .int p0, .int p1] : List Value).toArray below meth c H locs 0 0 (MQ below (va_Qi (fun (q : Int32) (_ : Unit) => q = y.2) (fun _ t => kE D ct ad G A y.1 t) A) ([.ref (ad a), .int p0, .int p1] : List Value).toArray s 0 0 A) (F0 m 142 ls [.int y50]) := by
                    intro H locs ls hP hD hS hl
                    refine lv_iconst (v := (2 : Int32)) hx hb dX6_colourMean_142 (by decide) ?_
                    refine lv_iadd hx hb dX6_colourMean_143 ?_
                    obtain ⟨x51, ex51, hF⟩ := ltt_some hF
                    refine lv_topi (fun zx51 ezx51 => ?_)
                    obtain rfl : x51 = zx51 := ex51.trans ezx51.symm
                    refine lv_iconst (v := (2 : Int32)) hx hb dX6_colourMean_144 (by decide) ?_
                    refine lv_ishr hx hb dX6_colourMean_145 ?_
                    obtain ⟨x52, ex52, hF⟩ := ltt_some hF
                    refine lv_topi (fun zx52 ezx52 => ?_)
                    obtain rfl : x52 = zx52 := ex52.trans ezx52.symm
                    obtain rfl := Option.some.inj hF
                    exact J48 _ _ _ hP hD hS (lv_sub hl [0, 1, 2, 3, 4, 5, 6] rfl)
                  clear hF
                  have hF := hy50
                  clear hy50
                  refine lv_if_eq (tgt := 140) hx hb dX6_colourMean_132 (by decide) (fun c53 => ?_) (fun c53 => ?_)
                  · rw [if_pos c53] at hF
                    refine lv_iload hx hb dX6_colourMean_140 (lv_at hl 1 rfl) ?_
                    obtain rfl := Option.some.inj hF
                    exact J50 _ _ _ hP hD hS (lv_sub hl [0, 1, 2, 3, 4, 5, 6] rfl)
                  · rw [if_neg c53] at hF
                    refine lv_iload hx hb dX6_colourMean_135 (lv_at hl 0 rfl) ?_
                    refine lv_goto (tgt := 142) hx hb dX6_colourMean_137 (by decide) ?_
                    obtain rfl := Option.some.inj hF
                    exact J50 _ _ _ hP hD hS (lv_sub hl [0, 1, 2, 3, 4, 5, 6] rfl)
                · rw [if_neg c49] at hF
                  refine lv_iload hx hb dX6_colourMean_119 (lv_at hl 1 rfl) ?_
                  refine lv_iload hx hb dX6_colourMean_121 (lv_at hl 0 rfl) ?_
                  refine lv_iadd hx hb dX6_colourMean_123 ?_
                  obtain ⟨x54, ex54, hF⟩ := ltt_some hF
                  refine lv_topi (fun zx54 ezx54 => ?_)
                  obtain rfl : x54 = zx54 := ex54.trans ezx54.symm
                  refine lv_iconst (v := (4 : Int32)) hx hb dX6_colourMean_124 (by decide) ?_
                  refine lv_iadd hx hb dX6_colourMean_125 ?_
                  obtain ⟨x55, ex55, hF⟩ := ltt_some hF
                  refine lv_topi (fun zx55 ezx55 => ?_)
                  obtain rfl : x55 = zx55 := ex55.trans ezx55.symm
                  refine lv_iconst (v := (3 : Int32)) hx hb dX6_colourMean_126 (by decide) ?_
                  refine lv_ishr hx hb dX6_colourMean_127 ?_
                  obtain ⟨x56, ex56, hF⟩ := ltt_some hF
                  refine lv_topi (fun zx56 ezx56 => ?_)
                  obtain rfl : x56 = zx56 := ex56.trans ezx56.symm
                  refine lv_goto (tgt := 146) hx hb dX6_colourMean_128 (by decide) ?_
                  obtain rfl := Option.some.inj hF
                  exact J48 _ _ _ hP hD hS (lv_sub hl [0, 1, 2, 3, 4, 5, 6] rfl)
            · rw [if_pos c41] at hF
              refine lv_iload_n hx hb dX6_colourMean_94 rfl (lv_at hl 3 rfl) ?_
              obtain ⟨y57, hy57, hF⟩ := bnd_some hF
              have J57 : ∀ (H : Heap) (locs : List Loc) (ls : Array Slot), va_P D classes (wld ct ad G y12.1) H → va_D A (wld ct ad G y12.1) → va_S A s.heap H locs → lv_has ls 7 [(6, .int y12.2), (5, .int y8.2), (4, .int y4), (3, .int y2), (0, .ref (ad a)), (1, .int p0), (2, .int p1)] → W p l e (headSpec wuX6_colourMean ({ frames := 1, cells := 0, slots := 0, locals := 24 })).room s m ([.ref (ad a), .int p0, .int p1] : List Value).toArray below meth c H locs 0 0 (MQ below (va_Qi (fun (q : Int32) (_ : Unit) => q = y.2) (fun _ t => kE D ct ad G A y.1 t) A) ([.ref (ad a), .int p0, .int p1] : List Value).toArray s 0 0 A) (F0 m 105 ls [.int y57]) := by
                intro H locs ls hP hD hS hl
                refine lv_iconst (v := (2 : Int32)) hx hb dX6_colourMean_105 (by decide) ?_
                refine lv_iadd hx hb dX6_colourMean_106 ?_
                obtain ⟨x58, ex58, hF⟩ := ltt_some hF
                refine lv_topi (fun zx58 ezx58 => ?_)
                obtain rfl : x58 = zx58 := ex58.trans ezx58.symm
                refine lv_iconst (v := (2 : Int32)) hx hb dX6_colourMean_107 (by decide) ?_
                refine lv_ishr hx hb dX6_colourMean_108 ?_
                obtain ⟨x59, ex59, hF⟩ := ltt_some hF
                refine lv_topi (fun zx59 ezx59 => ?_)
                obtain rfl : x59 = zx59 := ex59.trans ezx59.symm
                obtain rfl := Option.some.inj hF
                exact W.iret (v := x59) hx hb hr (fun t ht hW => ⟨⟨_, (), rfl, rfl, ⟨by rw [ht]; exact hP, va_K.moved hW.alike hK, hD⟩⟩, hS.F ht⟩) hS.2.2 dX6_colourMean_109
              clear hF
              have hF := hy57
              clear hy57
              refine lv_if_eq (tgt := 103) hx hb dX6_colourMean_95 (by decide) (fun c60 => ?_) (fun c60 => ?_)
              · rw [if_pos c60] at hF
                refine lv_iload hx hb dX6_colourMean_103 (lv_at hl 1 rfl) ?_
                obtain rfl := Option.some.inj hF
                exact J57 _ _ _ hP hD hS (lv_sub hl [0, 1, 2, 3, 4, 5, 6] rfl)
              · rw [if_neg c60] at hF
                refine lv_iload hx hb dX6_colourMean_98 (lv_at hl 0 rfl) ?_
                refine lv_goto (tgt := 105) hx hb dX6_colourMean_100 (by decide) ?_
                obtain rfl := Option.some.inj hF
                exact J57 _ _ _ hP hD hS (lv_sub hl [0, 1, 2, 3, 4, 5, 6] rfl)
          · rw [if_pos c40] at hF
            refine lv_iload hx hb dX6_colourMean_72 (lv_at hl 2 rfl) ?_
            obtain ⟨y61, hy61, hF⟩ := bnd_some hF
            have J61 : ∀ (H : Heap) (locs : List Loc) (ls : Array Slot), va_P D classes (wld ct ad G y12.1) H → va_D A (wld ct ad G y12.1) → va_S A s.heap H locs → lv_has ls 7 [(6, .int y12.2), (5, .int y8.2), (4, .int y4), (3, .int y2), (0, .ref (ad a)), (1, .int p0), (2, .int p1)] → W p l e (headSpec wuX6_colourMean ({ frames := 1, cells := 0, slots := 0, locals := 24 })).room s m ([.ref (ad a), .int p0, .int p1] : List Value).toArray below meth c H locs 0 0 (MQ below (va_Qi (fun (q : Int32) (_ : Unit) => q = y.2) (fun _ t => kE D ct ad G A y.1 t) A) ([.ref (ad a), .int p0, .int p1] : List Value).toArray s 0 0 A) (F0 m 84 ls [.int y61]) := by
              intro H locs ls hP hD hS hl
              refine lv_iconst (v := (2 : Int32)) hx hb dX6_colourMean_84 (by decide) ?_
              refine lv_iadd hx hb dX6_colourMean_85 ?_
              obtain ⟨x62, ex62, hF⟩ := ltt_some hF
              refine lv_topi (fun zx62 ezx62 => ?_)
              obtain rfl : x62 = zx62 := ex62.trans ezx62.symm
              refine lv_iconst (v := (2 : Int32)) hx hb dX6_colourMean_86 (by decide) ?_
              refine lv_ishr hx hb dX6_colourMean_87 ?_
              obtain ⟨x63, ex63, hF⟩ := ltt_some hF
              refine lv_topi (fun zx63 ezx63 => ?_)
              obtain rfl : x63 = zx63 := ex63.trans ezx63.symm
              obtain rfl := Option.some.inj hF
              exact W.iret (v := x63) hx hb hr (fun t ht hW => ⟨⟨_, (), rfl, rfl, ⟨by rw [ht]; exact hP, va_K.moved hW.alike hK, hD⟩⟩, hS.F ht⟩) hS.2.2 dX6_colourMean_88
            clear hF
            have hF := hy61
            clear hy61
            refine lv_if_eq (tgt := 82) hx hb dX6_colourMean_74 (by decide) (fun c64 => ?_) (fun c64 => ?_)
            · rw [if_pos c64] at hF
              refine lv_iload hx hb dX6_colourMean_82 (lv_at hl 0 rfl) ?_
              obtain rfl := Option.some.inj hF
              exact J61 _ _ _ hP hD hS (lv_sub hl [0, 1, 2, 3, 4, 5, 6] rfl)
            · rw [if_neg c64] at hF
              refine lv_iload hx hb dX6_colourMean_77 (lv_at hl 1 rfl) ?_
              refine lv_goto (tgt := 84) hx hb dX6_colourMean_79 (by decide) ?_
              obtain rfl := Option.some.inj hF
              exact J61 _ _ _ hP hD hS (lv_sub hl [0, 1, 2, 3, 4, 5, 6] rfl)
        · rw [if_pos c39] at hF
          refine lv_sipush (v := (128 : Int32)) hx hb dX6_colourMean_63 (by decide) ?_
          obtain rfl := Option.some.inj hF
          exact W.iret (v := (128 : Int32)) hx hb hr (fun t ht hW => ⟨⟨_, (), rfl, rfl, ⟨by rw [ht]; exact hP, va_K.moved hW.alike hK, hD⟩⟩, hS.F ht⟩) hS.2.2 dX6_colourMean_66
    clear hF
    have hF := hy4
    clear hy4
    refine lv_if_eq (tgt := 22) hx hb dX6_colourMean_15 (by decide) (fun c65 => ?_) (fun c65 => ?_)
    · rw [if_pos c65] at hF
      refine lv_iconst (v := (0 : Int32)) hx hb dX6_colourMean_22 (by decide) ?_
      obtain rfl := Option.some.inj hF
      exact J4 _ _ _ hP hD hS (lv_sub hl [0, 1, 2, 3] rfl)
    · rw [if_neg c65] at hF
      refine lv_iconst (v := (1 : Int32)) hx hb dX6_colourMean_18 (by decide) ?_
      refine lv_goto (tgt := 23) hx hb dX6_colourMean_19 (by decide) ?_
      obtain rfl := Option.some.inj hF
      exact J4 _ _ _ hP hD hS (lv_sub hl [0, 1, 2, 3] rfl)
  clear hF
  have hF := hy2
  clear hy2
  refine lv_if_eq (tgt := 10) hx hb dX6_colourMean_3 (by decide) (fun c66 => ?_) (fun c66 => ?_)
  · rw [if_pos c66] at hF
    refine lv_iconst (v := (0 : Int32)) hx hb dX6_colourMean_10 (by decide) ?_
    obtain rfl := Option.some.inj hF
    exact J2 _ _ _ hP hD hS (lv_sub hl [0, 1, 2] rfl)
  · rw [if_neg c66] at hF
    refine lv_iconst (v := (1 : Int32)) hx hb dX6_colourMean_6 (by decide) ?_
    refine lv_goto (tgt := 11) hx hb dX6_colourMean_7 (by decide) ?_
    obtain rfl := Option.some.inj hF
    exact J2 _ _ _ hP hD hS (lv_sub hl [0, 1, 2] rfl)
set_option maxRecDepth 20000 in
theorem gX6_differences_X9_pieceX : GoodIn wuX6_differences (va_wsS RX6 76 yX9_pieceX wuX9_pieceX) := gu_S mw_2014 mw_949 mw_171 mw_950
set_option maxRecDepth 20000 in
set_option maxRecDepth 20000 in
theorem gX6_differences_X9_pieceY : GoodIn wuX6_differences (va_wsS RX6 80 yX9_pieceY wuX9_pieceY) := gu_S mw_2015 mw_952 mw_171 mw_953
set_option maxRecDepth 20000 in
set_option maxRecDepth 20000 in
theorem gX6_differences_X6_lumaAt : GoodIn wuX6_differences (va_wsS RX6 175 yX6_lumaAt wuX6_lumaAt) := gu_S mw_1981 mw_1982 mw_172 mw_1983
theorem dX6_differences_0 : decode cX6_differences 0 = .ok (.iload 4, 2) := by decide +kernel
theorem dX6_differences_2 : decode cX6_differences 2 = .ok (.invokestatic 76, 3) := by decide +kernel
theorem dX6_differences_5 : decode cX6_differences 5 = .ok (.istore 6, 2) := by decide +kernel
theorem dX6_differences_7 : decode cX6_differences 7 = .ok (.iload 4, 2) := by decide +kernel
theorem dX6_differences_9 : decode cX6_differences 9 = .ok (.invokestatic 80, 3) := by decide +kernel
theorem dX6_differences_12 : decode cX6_differences 12 = .ok (.istore 7, 2) := by decide +kernel
theorem dX6_differences_14 : decode cX6_differences 14 = .ok (.iconst 0, 1) := by decide +kernel
theorem dX6_differences_15 : decode cX6_differences 15 = .ok (.istore 8, 2) := by decide +kernel
theorem dX6_differences_17 : decode cX6_differences 17 = .ok (.iconst 0, 1) := by decide +kernel
theorem dX6_differences_18 : decode cX6_differences 18 = .ok (.istore 9, 2) := by decide +kernel
theorem dX6_differences_20 : decode cX6_differences 20 = .ok (.iload 9, 2) := by decide +kernel
theorem dX6_differences_22 : decode cX6_differences 22 = .ok (.iload 5, 2) := by decide +kernel
theorem dX6_differences_24 : decode cX6_differences 24 = .ok (.if_icmp .ge 89, 3) := by decide +kernel
theorem dX6_differences_27 : decode cX6_differences 27 = .ok (.aload_n 1, 1) := by decide +kernel
theorem dX6_differences_28 : decode cX6_differences 28 = .ok (.getfield 46, 3) := by decide +kernel
theorem dX6_differences_31 : decode cX6_differences 31 = .ok (.iload_n 3, 1) := by decide +kernel
theorem dX6_differences_32 : decode cX6_differences 32 = .ok (.iload 6, 2) := by decide +kernel
theorem dX6_differences_34 : decode cX6_differences 34 = .ok (.iload 7, 2) := by decide +kernel
theorem dX6_differences_36 : decode cX6_differences 36 = .ok (.iload 9, 2) := by decide +kernel
theorem dX6_differences_38 : decode cX6_differences 38 = .ok (.iadd, 1) := by decide +kernel
theorem dX6_differences_39 : decode cX6_differences 39 = .ok (.invokestatic 175, 3) := by decide +kernel
theorem dX6_differences_42 : decode cX6_differences 42 = .ok (.istore 10, 2) := by decide +kernel
theorem dX6_differences_44 : decode cX6_differences 44 = .ok (.iconst 0, 1) := by decide +kernel
theorem dX6_differences_45 : decode cX6_differences 45 = .ok (.istore 11, 2) := by decide +kernel
theorem dX6_differences_47 : decode cX6_differences 47 = .ok (.iload 11, 2) := by decide +kernel
theorem dX6_differences_49 : decode cX6_differences 49 = .ok (.iload 5, 2) := by decide +kernel
theorem dX6_differences_51 : decode cX6_differences 51 = .ok (.if_icmp .ge 56, 3) := by decide +kernel
theorem dX6_differences_54 : decode cX6_differences 54 = .ok (.aload_n 2, 1) := by decide +kernel
theorem dX6_differences_55 : decode cX6_differences 55 = .ok (.iload 10, 2) := by decide +kernel
theorem dX6_differences_57 : decode cX6_differences 57 = .ok (.iload 11, 2) := by decide +kernel
theorem dX6_differences_59 : decode cX6_differences 59 = .ok (.iadd, 1) := by decide +kernel
theorem dX6_differences_60 : decode cX6_differences 60 = .ok (.iaload, 1) := by decide +kernel
theorem dX6_differences_61 : decode cX6_differences 61 = .ok (.aload_n 0, 1) := by decide +kernel
theorem dX6_differences_62 : decode cX6_differences 62 = .ok (.getfield 9, 3) := by decide +kernel
theorem dX6_differences_65 : decode cX6_differences 65 = .ok (.bipush 16, 2) := by decide +kernel
theorem dX6_differences_67 : decode cX6_differences 67 = .ok (.iload 7, 2) := by decide +kernel
theorem dX6_differences_69 : decode cX6_differences 69 = .ok (.iload 9, 2) := by decide +kernel
theorem dX6_differences_71 : decode cX6_differences 71 = .ok (.iadd, 1) := by decide +kernel
theorem dX6_differences_72 : decode cX6_differences 72 = .ok (.imul, 1) := by decide +kernel
theorem dX6_differences_73 : decode cX6_differences 73 = .ok (.iload 6, 2) := by decide +kernel
theorem dX6_differences_75 : decode cX6_differences 75 = .ok (.iadd, 1) := by decide +kernel
theorem dX6_differences_76 : decode cX6_differences 76 = .ok (.iload 11, 2) := by decide +kernel
theorem dX6_differences_78 : decode cX6_differences 78 = .ok (.iadd, 1) := by decide +kernel
theorem dX6_differences_79 : decode cX6_differences 79 = .ok (.iaload, 1) := by decide +kernel
theorem dX6_differences_80 : decode cX6_differences 80 = .ok (.isub, 1) := by decide +kernel
theorem dX6_differences_81 : decode cX6_differences 81 = .ok (.istore 12, 2) := by decide +kernel
theorem dX6_differences_83 : decode cX6_differences 83 = .ok (.iload 8, 2) := by decide +kernel
theorem dX6_differences_85 : decode cX6_differences 85 = .ok (.iload 12, 2) := by decide +kernel
theorem dX6_differences_87 : decode cX6_differences 87 = .ok (.ifCond .ge 9, 3) := by decide +kernel
theorem dX6_differences_90 : decode cX6_differences 90 = .ok (.iload 12, 2) := by decide +kernel
theorem dX6_differences_92 : decode cX6_differences 92 = .ok (.ineg, 1) := by decide +kernel
theorem dX6_differences_93 : decode cX6_differences 93 = .ok (.goto 5, 3) := by decide +kernel
theorem dX6_differences_96 : decode cX6_differences 96 = .ok (.iload 12, 2) := by decide +kernel
theorem dX6_differences_98 : decode cX6_differences 98 = .ok (.iadd, 1) := by decide +kernel
theorem dX6_differences_99 : decode cX6_differences 99 = .ok (.istore 8, 2) := by decide +kernel
theorem dX6_differences_101 : decode cX6_differences 101 = .ok (.iinc 11 1, 3) := by decide +kernel
theorem dX6_differences_104 : decode cX6_differences 104 = .ok (.goto (-57), 3) := by decide +kernel
theorem dX6_differences_107 : decode cX6_differences 107 = .ok (.iinc 9 1, 3) := by decide +kernel
theorem dX6_differences_110 : decode cX6_differences 110 = .ok (.goto (-90), 3) := by decide +kernel
theorem dX6_differences_113 : decode cX6_differences 113 = .ok (.iload 8, 2) := by decide +kernel
theorem dX6_differences_115 : decode cX6_differences 115 = .ok (.ireturn, 1) := by decide +kernel
def FX6_differences (G : GG) (M : DD) (a : Nat) (p0 : Option Nat) (p1 : Option Nat) (p2 : Int32) (p3 : Int32) (p4 : Int32) : Option (DD × Int32) :=
  bnd (FX9_pieceX G M p3) fun y1 =>
  bnd (FX9_pieceY G y1.1 p3) fun y2 =>
  bnd (itr (fun (s4 : Int32 × Int32 × DD) => ((if p4 ≤ s4.2.1 then (some (.inr (s4.1, s4.2.1, s4.2.2))) else
  (dr G 9 p0 fun b8 =>
  ltt ((y2.2 + s4.2.1)) fun x9 =>
  bnd (FX6_lumaAt G s4.2.2 ((s4.2.2.2 b8 0)) p2 y1.2 x9) fun y10 =>
  bnd (itr (fun (s12 : Int32 × Int32) => ((if p4 ≤ s12.2 then (some (.inr (s12.1, s12.2))) else
  (ltt ((y10.2 + s12.2)) fun x17 =>
  dr G 13 p1 fun b18 =>
  chk (¬ (x17 < 0 ∨ G.2.2 b18 ≤ x17.toNatClampNeg)) <|
  ltt (y10.1.1 b18 x17.toNatClampNeg) fun x19 =>
  ltt ((y2.2 + s4.2.1)) fun x20 =>
  ltt ((((16 : Int32)) * x20)) fun x21 =>
  ltt ((x21 + y1.2)) fun x22 =>
  ltt ((x22 + s12.2)) fun x23 =>
  dr G 13 ((y10.1.2 a 0)) fun b24 =>
  chk (¬ (x23 < 0 ∨ G.2.2 b24 ≤ x23.toNatClampNeg)) <|
  ltt (y10.1.1 b24 x23.toNatClampNeg) fun x25 =>
  ltt ((x19 - x25)) fun x26 =>
  bnd (if ((0 : Int32)) ≤ x26 then (some (x26)) else
  (ltt (-x26) fun x31 =>
  some (x31))) fun (y27 : Int32) =>
  ltt ((s12.1 + y27)) fun x28 =>
  ltt (s12.2 + (1 : Int32)) fun x29 =>
  some (.inl (x28, x29)))) : Option ((Int32 × Int32) ⊕ (Int32 × Int32)))) 1000000 (s4.1, (0 : Int32))) fun (y11 : Int32 × Int32) =>
  ltt (s4.2.1 + (1 : Int32)) fun x14 =>
  some (.inl (y11.1, x14, y10.1)))) : Option ((Int32 × Int32 × DD) ⊕ (Int32 × Int32 × DD)))) 1000000 ((0 : Int32), (0 : Int32), y2.1)) fun (y3 : Int32 × Int32 × DD) =>
  some (y3.2.2, y3.1)
set_option maxHeartbeats 4000000 in
set_option maxRecDepth 100000 in
theorem kX6_differences (l : Launch) (D : va_G) (ct : CT) (ad : Nat → Nat) (Z : Nat → Nat) (G : GG) (M : DD) (sz : Nat) (a : Nat) (p0 : Option Nat) (p1 : Option Nat) (p2 : Int32) (p3 : Int32) (p4 : Int32) (y : DD × Int32) (hc : a < G.1) (hk : G.2.1 a = 6) (hF : FX6_differences G M a p0 p1 p2 p3 p4 = some y) : Met l yX6_differences wuX6_differences ({ frames := 1, cells := 0, slots := 0, locals := 23 }) (va_Pc [.ref (ad a), va_re ad p0, va_re ad p1, .int p2, .int p3, .int p4] (kB D ct ad Z G M sz)) (va_Qi (fun (q : Int32) (_ : Unit) => q = y.2) (fun _ t => kE D ct ad G (wA ad G sz) y.1 t) (wA ad G sz)) 0 0 (wA ad G sz) := by
  refine Met.ofW (cc := cX6_differences) (maxL := 13) (ret := (some .int)) (by decide) rfl ?_
  intro p e s m args below meth c s₁ B hml hv
  obtain ⟨rfl, hsz, hP, hK, hD0, hZ, hN⟩ := hv
  have hx := B.exec
  have hb := B.bytes
  have hr := B.returns
  have hts := atoms_spec (ws := wuX6_differences) B.pre
  have hown : s.vm.findClass RX6 = some m.cls := findClass_of_methodNamed B.named
  have hlocks := B.notSynchronized
  subst hsz
  have hD := wD_self (sz := s.heap.size) hD0
  have hA9 : ∀ q, s.heap.size ≤ q → wA ad G s.heap.size q := fun q h => Or.inr h
  generalize hAe : wA ad G s.heap.size = A at hD hA9 hZ ⊢
  have hS : va_S A s.heap s.heap [] := va_S.rf
  have hl := lv_entry ([.ref (ad a), va_re ad p0, va_re ad p1, .int p2, .int p3, .int p4]) (n := 13) (by cases p0 <;> cases p1 <;> exact Nat.le_of_ble_eq_true rfl)
  rw [lg_entry_eq]
  generalize (lg_sl ([.ref (ad a), va_re ad p0, va_re ad p1, .int p2, .int p3, .int p4]) ++ List.replicate (13 - (lg_sl ([.ref (ad a), va_re ad p0, va_re ad p1, .int p2, .int p3, .int p4])).length) Slot.unset).toArray = ls at hl ⊢
  have hl : lv_has ls 13 [(0, .ref (ad a)), (1, va_re ad p0), (2, va_re ad p1), (3, .int p2), (4, .int p3), (5, .int p4)] := by have e9 : lv_args 0 [.ref (ad a), va_re ad p0, va_re ad p1, .int p2, .int p3, .int p4] = [(0, .ref (ad a)), (1, va_re ad p0), (2, va_re ad p1), (3, .int p2), (4, .int p3), (5, .int p4)] := (by cases p0 <;> cases p1 <;> rfl); rw [e9] at hl; exact hl
  unfold FX6_differences at hF
  refine lv_iload hx hb dX6_differences_0 (lv_at hl 4 rfl) ?_
  obtain ⟨y1, hy1, hF⟩ := bnd_some hF
  have hf9 := wA_in hD hA9 hS
  refine va_calli (va_runS (As := [.int p3]) (rest := []) ⟨hx, hb, hml, hown, hts⟩ (kX9_pieceX l D ct ad Z G M s.heap.size p3 y1 hy1) (va_cwS 1 hts gX6_differences_X9_pieceX rfl rfl rfl (by decide +kernel) ⟨Nat.le_of_ble_eq_true rfl, Nat.le_of_ble_eq_true rfl⟩) ⟨fun a U g mk q => by obtain ⟨q0, q1, qP, qK, qD, qZ, qN⟩ := q; exact ⟨q0, q1, qP, va_K.moved (u := U) (U := U.calling g mk a) (Vm.Alike.refl U.vm) qK, qD, sF.moved (u := U) (U := U.calling g mk a) (Vm.Alike.refl U.vm) qZ, nF.same rfl qN⟩, fun U hU hW => ⟨rfl, by rw [hU], by rw [hU]; exact hP, va_K.moved hW.alike hK, hD.weaken (fun _ _ _ _ => trivial), by rw [hU]; exact ((hZ.kept hS.2.1).narrow hf9).moved hW.alike, hN.warm hW⟩⟩ rfl rfl hl.1 rfl (lv_room (Nat.le_of_ble_eq_true rfl)) dX6_differences_2 ⟨(Nat.zero_le _), (Nat.zero_le _)⟩) hS (fun q _ h => hf9 q h) hf9 (fun r u t H locs ht hvm hw hB hz1 hk1 hS => ?_)
  obtain ⟨hP, hK9, hD9⟩ := hB
  rw [ht] at hP
  try dsimp only at hw
  subst hw
  have hD := hD9.weaken (fun _ q _ h => hf9 q.1 h)
  refine lv_istore (lv' := [(6, .int y1.2), (0, .ref (ad a)), (1, va_re ad p0), (2, va_re ad p1), (3, .int p2), (4, .int p3), (5, .int p4)]) hx hb dX6_differences_5 hl (by decide) rfl (fun ls hl => ?_)
  refine lv_iload hx hb dX6_differences_7 (lv_at hl 5 rfl) ?_
  obtain ⟨y2, hy2, hF⟩ := bnd_some hF
  have hf9 := wA_in hD hA9 hS
  refine va_calli (va_runS (As := [.int p3]) (rest := []) ⟨hx, hb, hml, hown, hts⟩ (kX9_pieceY l D ct ad Z G y1.1 H.size p3 y2 hy2) (va_cwS 1 hts gX6_differences_X9_pieceY rfl rfl rfl (by decide +kernel) ⟨Nat.le_of_ble_eq_true rfl, Nat.le_of_ble_eq_true rfl⟩) ⟨fun a U g mk q => by obtain ⟨q0, q1, qP, qK, qD, qZ, qN⟩ := q; exact ⟨q0, q1, qP, va_K.moved (u := U) (U := U.calling g mk a) (Vm.Alike.refl U.vm) qK, qD, sF.moved (u := U) (U := U.calling g mk a) (Vm.Alike.refl U.vm) qZ, nF.same rfl qN⟩, fun U hU hW => ⟨rfl, by rw [hU], by rw [hU]; exact hP, va_K.moved hW.alike hK, hD.weaken (fun _ _ _ _ => trivial), by rw [hU]; exact ((hZ.kept hS.2.1).narrow hf9).moved hW.alike, hN.warm hW⟩⟩ rfl rfl hl.1 rfl (lv_room (Nat.le_of_ble_eq_true rfl)) dX6_differences_9 ⟨(Nat.zero_le _), (Nat.zero_le _)⟩) hS (fun q _ h => hf9 q h) hf9 (fun r u t H locs ht hvm hw hB hz1 hk1 hS => ?_)
  obtain ⟨hP, hK9, hD9⟩ := hB
  rw [ht] at hP
  try dsimp only at hw
  subst hw
  have hD := hD9.weaken (fun _ q _ h => hf9 q.1 h)
  refine lv_istore (lv' := [(7, .int y2.2), (6, .int y1.2), (0, .ref (ad a)), (1, va_re ad p0), (2, va_re ad p1), (3, .int p2), (4, .int p3), (5, .int p4)]) hx hb dX6_differences_12 hl (by decide) rfl (fun ls hl => ?_)
  refine lv_iconst (v := (0 : Int32)) hx hb dX6_differences_14 (by decide) ?_
  refine lv_istore (lv' := [(8, .int (0 : Int32)), (7, .int y2.2), (6, .int y1.2), (0, .ref (ad a)), (1, va_re ad p0), (2, va_re ad p1), (3, .int p2), (4, .int p3), (5, .int p4)]) hx hb dX6_differences_15 hl (by decide) rfl (fun ls hl => ?_)
  refine lv_iconst (v := (0 : Int32)) hx hb dX6_differences_17 (by decide) ?_
  refine lv_istore (lv' := [(9, .int (0 : Int32)), (8, .int (0 : Int32)), (7, .int y2.2), (6, .int y1.2), (0, .ref (ad a)), (1, va_re ad p0), (2, va_re ad p1), (3, .int p2), (4, .int p3), (5, .int p4)]) hx hb dX6_differences_18 hl (by decide) rfl (fun ls hl => ?_)
  obtain ⟨y3, hy3, hF⟩ := bnd_some hF
  have K3 : ∀ (H : Heap) (locs : List Loc) (ls : Array Slot), va_P D classes (wld ct ad G y3.2.2) H → va_D A (wld ct ad G y3.2.2) → va_S A s.heap H locs → lv_has ls 13 [(9, .int y3.2.1), (8, .int y3.1), (7, .int y2.2), (6, .int y1.2), (0, .ref (ad a)), (1, va_re ad p0), (2, va_re ad p1), (3, .int p2), (4, .int p3), (5, .int p4)] → W p l e (headSpec wuX6_differences ({ frames := 1, cells := 0, slots := 0, locals := 23 })).room s m ([.ref (ad a), va_re ad p0, va_re ad p1, .int p2, .int p3, .int p4] : List Value).toArray below meth c H locs 0 0 (MQ below (va_Qi (fun (q : Int32) (_ : Unit) => q = y.2) (fun _ t => kE D ct ad G A y.1 t) A) ([.ref (ad a), va_re ad p0, va_re ad p1, .int p2, .int p3, .int p4] : List Value).toArray s 0 0 A) (F0 m 113 ls []) := by
    intro H locs ls hP hD hS hl
    refine lv_iload hx hb dX6_differences_113 (lv_at hl 1 rfl) ?_
    obtain rfl := Option.some.inj hF
    exact W.iret (v := y3.1) hx hb hr (fun t ht hW => ⟨⟨_, (), rfl, rfl, ⟨by rw [ht]; exact hP, va_K.moved hW.alike hK, hD⟩⟩, hS.F ht⟩) hS.2.2 dX6_differences_115
  clear hF
  refine itr_rule (fun (s4 : Int32 × Int32 × DD) => ∀ (H : Heap) (locs : List Loc) (ls : Array Slot), va_P D classes (wld ct ad G s4.2.2) H → va_D A (wld ct ad G s4.2.2) → va_S A s.heap H locs → lv_has ls 13 [(9, .int s4.2.1), (8, .int s4.1), (7, .int y2.2), (6, .int y1.2), (0, .ref (ad a)), (1, va_re ad p0), (2, va_re ad p1), (3, .int p2), (4, .int p3), (5, .int p4)] → W p l e (headSpec wuX6_differences ({ frames := 1, cells := 0, slots := 0, locals := 23 })).room s m ([.ref (ad a), va_re ad p0, va_re ad p1, .int p2, .int p3, .int p4] : List Value).toArray below meth c H locs 0 0 (MQ below (va_Qi (fun (q : Int32) (_ : Unit) => q = y.2) (fun _ t => kE D ct ad G A y.1 t) A) ([.ref (ad a), va_re ad p0, va_re ad p1, .int p2, .int p3, .int p4] : List Value).toArray s 0 0 A) (F0 m 20 ls [])) ?_ _ _ hy3 _ _ _ hP hD hS (lv_sub hl [0, 1, 2, 3, 4, 5, 6, 7, 8, 9] rfl)
  rintro s4 ⟨z6, hF, hwz6⟩ H locs ls hP hD hS hl
  try dsimp only at hF
  refine lv_iload hx hb dX6_differences_20 (lv_at hl 0 rfl) ?_
  refine lv_iload hx hb dX6_differences_22 (lv_at hl 9 rfl) ?_
  refine lv_icmp_ge (tgt := 113) hx hb dX6_differences_24 (by decide) (fun c7 => ?_) (fun c7 => ?_)
  · rw [if_pos c7] at hF
    obtain rfl := Option.some.inj hF
    subst hwz6
    exact K3 _ _ _ hP hD hS (lv_sub hl [0, 1, 2, 3, 4, 5, 6, 7, 8, 9] rfl)
  · rw [if_neg c7] at hF
    refine lv_aloadq_n hx hb dX6_differences_27 rfl (lv_at hl 5 rfl) ?_
    obtain ⟨b8, ho8, hc8, hk8, hF⟩ := dr_some hF
    refine W_st (st' := [.ref (ad b8)]) (by rw [va_some ho8]) ?_
    refine va_get (D := D) (ci := 9) (v := va_re ad (s4.2.2.2 b8 0)) (C := RX9) (T := TX9) (N := 20) hx hb hts (mus hf_X9) hown hK hP b8 (wld_o ct ad G s4.2.2 hc8 hk8 (by decide)) rfl 0 (by decide) (hts (.fieldLink RX6 46 "VideoSuite$Work" "pic" "LVideoSuite$Picture;") (mu mw_421)) (fun _ h9 => h9) rfl dX6_differences_28 ?_
    refine lv_iload_n hx hb dX6_differences_31 rfl (lv_at hl 7 rfl) ?_
    refine lv_iload hx hb dX6_differences_32 (lv_at hl 3 rfl) ?_
    refine lv_iload hx hb dX6_differences_34 (lv_at hl 2 rfl) ?_
    refine lv_iload hx hb dX6_differences_36 (lv_at hl 0 rfl) ?_
    refine lv_iadd hx hb dX6_differences_38 ?_
    obtain ⟨x9, ex9, hF⟩ := ltt_some hF
    refine lv_topi (fun zx9 ezx9 => ?_)
    obtain rfl : x9 = zx9 := ex9.trans ezx9.symm
    obtain ⟨y10, hy10, hF⟩ := bnd_some hF
    have hf9 := wA_in hD hA9 hS
    refine va_calli (va_runS (As := [va_re ad (s4.2.2.2 b8 0), .int p2, .int y1.2, .int x9]) (rest := []) ⟨hx, hb, hml, hown, hts⟩ (kX6_lumaAt l D ct ad Z G s4.2.2 H.size ((s4.2.2.2 b8 0)) p2 y1.2 x9 y10 hy10) (va_cwS 4 hts gX6_differences_X6_lumaAt rfl rfl rfl (by decide +kernel) ⟨Nat.le_of_ble_eq_true rfl, Nat.le_of_ble_eq_true rfl⟩) ⟨fun a U g mk q => by obtain ⟨q0, q1, qP, qK, qD, qZ, qN⟩ := q; exact ⟨q0, q1, qP, va_K.moved (u := U) (U := U.calling g mk a) (Vm.Alike.refl U.vm) qK, qD, sF.moved (u := U) (U := U.calling g mk a) (Vm.Alike.refl U.vm) qZ, nF.same rfl qN⟩, fun U hU hW => ⟨rfl, by rw [hU], by rw [hU]; exact hP, va_K.moved hW.alike hK, hD.weaken (fun _ _ _ _ => trivial), by rw [hU]; exact ((hZ.kept hS.2.1).narrow hf9).moved hW.alike, hN.warm hW⟩⟩ rfl rfl hl.1 rfl (lv_room (Nat.le_of_ble_eq_true rfl)) dX6_differences_39 ⟨(Nat.zero_le _), (Nat.zero_le _)⟩) hS (fun q _ h => hf9 q h) hf9 (fun r u t H locs ht hvm hw hB hz1 hk1 hS => ?_)
    obtain ⟨hP, hK9, hD9⟩ := hB
    rw [ht] at hP
    try dsimp only at hw
    subst hw
    have hD := hD9.weaken (fun _ q _ h => hf9 q.1 h)
    refine lv_istore (lv' := [(10, .int y10.2), (9, .int s4.2.1), (8, .int s4.1), (7, .int y2.2), (6, .int y1.2), (0, .ref (ad a)), (1, va_re ad p0), (2, va_re ad p1), (3, .int p2), (4, .int p3), (5, .int p4)]) hx hb dX6_differences_42 hl (by decide) rfl (fun ls hl => ?_)
    refine lv_iconst (v := (0 : Int32)) hx hb dX6_differences_44 (by decide) ?_
    refine lv_istore (lv' := [(11, .int (0 : Int32)), (10, .int y10.2), (9, .int s4.2.1), (8, .int s4.1), (7, .int y2.2), (6, .int y1.2), (0, .ref (ad a)), (1, va_re ad p0), (2, va_re ad p1), (3, .int p2), (4, .int p3), (5, .int p4)]) hx hb dX6_differences_45 hl (by decide) rfl (fun ls hl => ?_)
    obtain ⟨y11, hy11, hF⟩ := bnd_some hF
    have K11 : ∀ (H : Heap) (locs : List Loc) (ls : Array Slot), va_P D classes (wld ct ad G y10.1) H → va_D A (wld ct ad G y10.1) → va_S A s.heap H locs → lv_has ls 13 [(11, .int y11.2), (10, .int y10.2), (9, .int s4.2.1), (8, .int y11.1), (7, .int y2.2), (6, .int y1.2), (0, .ref (ad a)), (1, va_re ad p0), (2, va_re ad p1), (3, .int p2), (4, .int p3), (5, .int p4)] → W p l e (headSpec wuX6_differences ({ frames := 1, cells := 0, slots := 0, locals := 23 })).room s m ([.ref (ad a), va_re ad p0, va_re ad p1, .int p2, .int p3, .int p4] : List Value).toArray below meth c H locs 0 0 (MQ below (va_Qi (fun (q : Int32) (_ : Unit) => q = y.2) (fun _ t => kE D ct ad G A y.1 t) A) ([.ref (ad a), va_re ad p0, va_re ad p1, .int p2, .int p3, .int p4] : List Value).toArray s 0 0 A) (F0 m 107 ls []) := by
      intro H locs ls hP hD hS hl
      obtain ⟨x14, ex14, hF⟩ := ltt_some hF
      refine lv_iinc (v := x14) (lv' := [(9, .int x14), (11, .int y11.2), (10, .int y10.2), (8, .int y11.1), (7, .int y2.2), (6, .int y1.2), (0, .ref (ad a)), (1, va_re ad p0), (2, va_re ad p1), (3, .int p2), (4, .int p3), (5, .int p4)]) hx hb dX6_differences_107 hl (k := 2) rfl (by rw [ex14]; rfl) (by decide) rfl (fun ls hl => ?_)
      refine lv_goto (tgt := 20) hx hb dX6_differences_110 (by decide) ?_
      obtain rfl := Option.some.inj hF
      exact hwz6 _ _ _ hP hD hS (lv_sub hl [0, 3, 4, 5, 6, 7, 8, 9, 10, 11] rfl)
    clear hF
    refine itr_rule (fun (s12 : Int32 × Int32) => ∀ (H : Heap) (locs : List Loc) (ls : Array Slot), va_P D classes (wld ct ad G y10.1) H → va_D A (wld ct ad G y10.1) → va_S A s.heap H locs → lv_has ls 13 [(11, .int s12.2), (10, .int y10.2), (9, .int s4.2.1), (8, .int s12.1), (7, .int y2.2), (6, .int y1.2), (0, .ref (ad a)), (1, va_re ad p0), (2, va_re ad p1), (3, .int p2), (4, .int p3), (5, .int p4)] → W p l e (headSpec wuX6_differences ({ frames := 1, cells := 0, slots := 0, locals := 23 })).room s m ([.ref (ad a), va_re ad p0, va_re ad p1, .int p2, .int p3, .int p4] : List Value).toArray below meth c H locs 0 0 (MQ below (va_Qi (fun (q : Int32) (_ : Unit) => q = y.2) (fun _ t => kE D ct ad G A y.1 t) A) ([.ref (ad a), va_re ad p0, va_re ad p1, .int p2, .int p3, .int p4] : List Value).toArray s 0 0 A) (F0 m 47 ls [])) ?_ _ _ hy11 _ _ _ hP hD hS (lv_sub hl [0, 1, 2, 3, 4, 5, 6, 7, 8, 9, 10, 11] rfl)
    rintro s12 ⟨z15, hF, hwz15⟩ H locs ls hP hD hS hl
    try dsimp only at hF
    refine lv_iload hx hb dX6_differences_47 (lv_at hl 0 rfl) ?_
    refine lv_iload hx hb dX6_differences_49 (lv_at hl 11 rfl) ?_
    refine lv_icmp_ge (tgt := 107) hx hb dX6_differences_51 (by decide) (fun c16 => ?_) (fun c16 => ?_)
    · rw [if_pos c16] at hF
      obtain rfl := Option.some.inj hF
      subst hwz15
      exact K11 _ _ _ hP hD hS (lv_sub hl [0, 1, 2, 3, 4, 5, 6, 7, 8, 9, 10, 11] rfl)
    · rw [if_neg c16] at hF
      refine lv_aloadq_n hx hb dX6_differences_54 rfl (lv_at hl 8 rfl) ?_
      refine lv_iload hx hb dX6_differences_55 (lv_at hl 1 rfl) ?_
      refine lv_iload hx hb dX6_differences_57 (lv_at hl 0 rfl) ?_
      refine lv_iadd hx hb dX6_differences_59 ?_
      obtain ⟨x17, ex17, hF⟩ := ltt_some hF
      refine lv_topi (fun zx17 ezx17 => ?_)
      obtain rfl : x17 = zx17 := ex17.trans ezx17.symm
      obtain ⟨b18, ho18, hc18, hk18, hF⟩ := dr_some hF
      refine W_st (st' := [.int x17, .ref (ad b18)]) (by rw [va_some ho18]) ?_
      obtain ⟨hvc, hF⟩ := chk_some hF
      refine va_iald hx hb hK hP b18 1 (wld_i ct ad G y10.1 hc18 hk18) rfl hvc dX6_differences_60 ?_
      obtain ⟨x19, ex19, hF⟩ := ltt_some hF
      refine lv_topi (fun zx19 ezx19 => ?_)
      obtain rfl : x19 = zx19 := ex19.trans ezx19.symm
      refine lv_aload_n hx hb dX6_differences_61 rfl (lv_at hl 6 rfl) ?_
      refine va_get (D := D) (ci := 6) (v := va_re ad (y10.1.2 a 0)) (C := RX6) (T := TX6) (N := 14) hx hb hts (mus hf_X6) hown hK hP a (wld_o ct ad G y10.1 hc hk (by decide)) rfl 0 (by decide) (hts (.fieldLink RX6 9 "VideoSuite$Samples" "guess" "[I") (mu mw_533)) (fun _ h9 => h9) rfl dX6_differences_62 ?_
      refine lv_bipush (v := (16 : Int32)) hx hb dX6_differences_65 (by decide) ?_
      refine lv_iload hx hb dX6_differences_67 (lv_at hl 4 rfl) ?_
      refine lv_iload hx hb dX6_differences_69 (lv_at hl 2 rfl) ?_
      refine lv_iadd hx hb dX6_differences_71 ?_
      obtain ⟨x20, ex20, hF⟩ := ltt_some hF
      refine lv_topi (fun zx20 ezx20 => ?_)
      obtain rfl : x20 = zx20 := ex20.trans ezx20.symm
      refine lv_imul hx hb dX6_differences_72 ?_
      obtain ⟨x21, ex21, hF⟩ := ltt_some hF
      refine lv_topi (fun zx21 ezx21 => ?_)
      obtain rfl : x21 = zx21 := ex21.trans ezx21.symm
      refine lv_iload hx hb dX6_differences_73 (lv_at hl 5 rfl) ?_
      refine lv_iadd hx hb dX6_differences_75 ?_
      obtain ⟨x22, ex22, hF⟩ := ltt_some hF
      refine lv_topi (fun zx22 ezx22 => ?_)
      obtain rfl : x22 = zx22 := ex22.trans ezx22.symm
      refine lv_iload hx hb dX6_differences_76 (lv_at hl 0 rfl) ?_
      refine lv_iadd hx hb dX6_differences_78 ?_
      obtain ⟨x23, ex23, hF⟩ := ltt_some hF
      refine lv_topi (fun zx23 ezx23 => ?_)
      obtain rfl : x23 = zx23 := ex23.trans ezx23.symm
      obtain ⟨b24, ho24, hc24, hk24, hF⟩ := dr_some hF
      refine W_st (st' := [.int x23, .ref (ad b24), .int x19]) (by rw [va_some ho24]) ?_
      obtain ⟨hvc, hF⟩ := chk_some hF
      refine va_iald hx hb hK hP b24 1 (wld_i ct ad G y10.1 hc24 hk24) rfl hvc dX6_differences_79 ?_
      obtain ⟨x25, ex25, hF⟩ := ltt_some hF
      refine lv_topi (fun zx25 ezx25 => ?_)
      obtain rfl : x25 = zx25 := ex25.trans ezx25.symm
      refine lv_isub hx hb dX6_differences_80 ?_
      obtain ⟨x26, ex26, hF⟩ := ltt_some hF
      refine lv_topi (fun zx26 ezx26 => ?_)
      obtain rfl : x26 = zx26 := ex26.trans ezx26.symm
      refine lv_istore (lv' := [(12, .int x26), (11, .int s12.2), (10, .int y10.2), (9, .int s4.2.1), (8, .int s12.1), (7, .int y2.2), (6, .int y1.2), (0, .ref (ad a)), (1, va_re ad p0), (2, va_re ad p1), (3, .int p2), (4, .int p3), (5, .int p4)]) hx hb dX6_differences_81 hl (by decide) rfl (fun ls hl => ?_)
      refine lv_iload hx hb dX6_differences_83 (lv_at hl 4 rfl) ?_
      refine lv_iload hx hb dX6_differences_85 (lv_at hl 0 rfl) ?_
      obtain ⟨y27, hy27, hF⟩ := bnd_some hF
      have J27 : ∀ (H : Heap) (locs : List Loc) (ls : Array Slot), va_P D classes (wld ct ad G y10.1) H → va_D A (wld ct ad G y10.1) → va_S A s.heap H locs → lv_has ls 13 [(12, .int x26), (11, .int s12.2), (10, .int y10.2), (9, .int s4.2.1), (8, .int s12.1), (7, .int y2.2), (6, .int y1.2), (0, .ref (ad a)), (1, va_re ad p0), (2, va_re ad p1), (3, .int p2), (4, .int p3), (5, .int p4)] → W p l e (headSpec wuX6_differences ({ frames := 1, cells := 0, slots := 0, locals := 23 })).room s m ([.ref (ad a), va_re ad p0, va_re ad p1, .int p2, .int p3, .int p4] : List Value).toArray below meth c H locs 0 0 (MQ below (va_Qi (fun (q : Int32) (_ : Unit) => q = y.2) (fun _ t => kE D ct ad G A y.1 t) A) ([.ref (ad a), va_re ad p0, va_re ad p1, .int p2, .int p3, .int p4] : List Value).toArray s 0 0 A) (F0 m 98 ls [.int y27, .int s12.1]) := by
        intro H locs ls hP hD hS hl
        refine lv_iadd hx hb dX6_differences_98 ?_
        obtain ⟨x28, ex28, hF⟩ := ltt_some hF
        refine lv_topi (fun zx28 ezx28 => ?_)
        obtain rfl : x28 = zx28 := ex28.trans ezx28.symm
        refine lv_istore (lv' := [(8, .int x28), (12, .int x26), (11, .int s12.2), (10, .int y10.2), (9, .int s4.2.1), (7, .int y2.2), (6, .int y1.2), (0, .ref (ad a)), (1, va_re ad p0), (2, va_re ad p1), (3, .int p2), (4, .int p3), (5, .int p4)]) hx hb dX6_differences_99 hl (by decide) rfl (fun ls hl => ?_)
        obtain ⟨x29, ex29, hF⟩ := ltt_some hF
        refine lv_iinc (v := x29) (lv' := [(11, .int x29), (8, .int x28), (12, .int x26), (10, .int y10.2), (9, .int s4.2.1), (7, .int y2.2), (6, .int y1.2), (0, .ref (ad a)), (1, va_re ad p0), (2, va_re ad p1), (3, .int p2), (4, .int p3), (5, .int p4)]) hx hb dX6_differences_101 hl (k := 2) rfl (by rw [ex29]; rfl) (by decide) rfl (fun ls hl => ?_)
        refine lv_goto (tgt := 47) hx hb dX6_differences_104 (by decide) ?_
        obtain rfl := Option.some.inj hF
        exact hwz15 _ _ _ hP hD hS (lv_sub hl [0, 3, 4, 1, 5, 6, 7, 8, 9, 10, 11, 12] rfl)
      clear hF
      have hF := hy27
      clear hy27
      refine lv_if_ge (tgt := 96) hx hb dX6_differences_87 (by decide) (fun c30 => ?_) (fun c30 => ?_)
      · rw [if_pos c30] at hF
        refine lv_iload hx hb dX6_differences_96 (lv_at hl 0 rfl) ?_
        obtain rfl := Option.some.inj hF
        exact J27 _ _ _ hP hD hS (lv_sub hl [0, 1, 2, 3, 4, 5, 6, 7, 8, 9, 10, 11, 12] rfl)
      · rw [if_neg c30] at hF
        refine lv_iload hx hb dX6_differences_90 (lv_at hl 0 rfl) ?_
        refine lv_ineg hx hb dX6_differences_92 ?_
        obtain ⟨x31, ex31, hF⟩ := ltt_some hF
        refine lv_topi (fun zx31 ezx31 => ?_)
        obtain rfl : x31 = zx31 := ex31.trans ezx31.symm
        refine lv_goto (tgt := 98) hx hb dX6_differences_93 (by decide) ?_
        obtain rfl := Option.some.inj hF
        exact J27 _ _ _ hP hD hS (lv_sub hl [0, 1, 2, 3, 4, 5, 6, 7, 8, 9, 10, 11, 12] rfl)
set_option maxRecDepth 20000 in
theorem gX6_fillPiece_X6_turnBack : GoodIn wuX6_fillPiece (wsV RX6 230 RX6 yX6_turnBack wuX6_turnBack) := gu_V mw_2103 mw_2105 mw_84 mw_172 mw_2106
theorem dX6_fillPiece_0 : decode cX6_fillPiece 0 = .ok (.aload_n 0, 1) := by decide +kernel
theorem dX6_fillPiece_1 : decode cX6_fillPiece 1 = .ok (.iconst 1, 1) := by decide +kernel
theorem dX6_fillPiece_2 : decode cX6_fillPiece 2 = .ok (.iconst 4, 1) := by decide +kernel
theorem dX6_fillPiece_3 : decode cX6_fillPiece 3 = .ok (.invokevirtual 230, 3) := by decide +kernel
theorem dX6_fillPiece_6 : decode cX6_fillPiece 6 = .ok (.aload_n 0, 1) := by decide +kernel
theorem dX6_fillPiece_7 : decode cX6_fillPiece 7 = .ok (.iconst 4, 1) := by decide +kernel
theorem dX6_fillPiece_8 : decode cX6_fillPiece 8 = .ok (.iconst 1, 1) := by decide +kernel
theorem dX6_fillPiece_9 : decode cX6_fillPiece 9 = .ok (.invokevirtual 230, 3) := by decide +kernel
theorem dX6_fillPiece_12 : decode cX6_fillPiece 12 = .ok (.iconst 0, 1) := by decide +kernel
theorem dX6_fillPiece_13 : decode cX6_fillPiece 13 = .ok (.istore 6, 2) := by decide +kernel
theorem dX6_fillPiece_15 : decode cX6_fillPiece 15 = .ok (.iload 6, 2) := by decide +kernel
theorem dX6_fillPiece_17 : decode cX6_fillPiece 17 = .ok (.bipush 16, 2) := by decide +kernel
theorem dX6_fillPiece_19 : decode cX6_fillPiece 19 = .ok (.if_icmp .ge 85, 3) := by decide +kernel
theorem dX6_fillPiece_22 : decode cX6_fillPiece 22 = .ok (.aload_n 0, 1) := by decide +kernel
theorem dX6_fillPiece_23 : decode cX6_fillPiece 23 = .ok (.getfield 9, 3) := by decide +kernel
theorem dX6_fillPiece_26 : decode cX6_fillPiece 26 = .ok (.iload 4, 2) := by decide +kernel
theorem dX6_fillPiece_28 : decode cX6_fillPiece 28 = .ok (.iload 6, 2) := by decide +kernel
theorem dX6_fillPiece_30 : decode cX6_fillPiece 30 = .ok (.iconst 4, 1) := by decide +kernel
theorem dX6_fillPiece_31 : decode cX6_fillPiece 31 = .ok (.idiv, 1) := by decide +kernel
theorem dX6_fillPiece_32 : decode cX6_fillPiece 32 = .ok (.iload 5, 2) := by decide +kernel
theorem dX6_fillPiece_34 : decode cX6_fillPiece 34 = .ok (.imul, 1) := by decide +kernel
theorem dX6_fillPiece_35 : decode cX6_fillPiece 35 = .ok (.iadd, 1) := by decide +kernel
theorem dX6_fillPiece_36 : decode cX6_fillPiece 36 = .ok (.iload 6, 2) := by decide +kernel
theorem dX6_fillPiece_38 : decode cX6_fillPiece 38 = .ok (.iconst 4, 1) := by decide +kernel
theorem dX6_fillPiece_39 : decode cX6_fillPiece 39 = .ok (.irem, 1) := by decide +kernel
theorem dX6_fillPiece_40 : decode cX6_fillPiece 40 = .ok (.iadd, 1) := by decide +kernel
theorem dX6_fillPiece_41 : decode cX6_fillPiece 41 = .ok (.iaload, 1) := by decide +kernel
theorem dX6_fillPiece_42 : decode cX6_fillPiece 42 = .ok (.aload_n 0, 1) := by decide +kernel
theorem dX6_fillPiece_43 : decode cX6_fillPiece 43 = .ok (.getfield 30, 3) := by decide +kernel
theorem dX6_fillPiece_46 : decode cX6_fillPiece 46 = .ok (.iload 6, 2) := by decide +kernel
theorem dX6_fillPiece_48 : decode cX6_fillPiece 48 = .ok (.iaload, 1) := by decide +kernel
theorem dX6_fillPiece_49 : decode cX6_fillPiece 49 = .ok (.bipush 32, 2) := by decide +kernel
theorem dX6_fillPiece_51 : decode cX6_fillPiece 51 = .ok (.iadd, 1) := by decide +kernel
theorem dX6_fillPiece_52 : decode cX6_fillPiece 52 = .ok (.bipush 6, 2) := by decide +kernel
theorem dX6_fillPiece_54 : decode cX6_fillPiece 54 = .ok (.ishr, 1) := by decide +kernel
theorem dX6_fillPiece_55 : decode cX6_fillPiece 55 = .ok (.iadd, 1) := by decide +kernel
theorem dX6_fillPiece_56 : decode cX6_fillPiece 56 = .ok (.istore 7, 2) := by decide +kernel
theorem dX6_fillPiece_58 : decode cX6_fillPiece 58 = .ok (.aload_n 1, 1) := by decide +kernel
theorem dX6_fillPiece_59 : decode cX6_fillPiece 59 = .ok (.iload_n 2, 1) := by decide +kernel
theorem dX6_fillPiece_60 : decode cX6_fillPiece 60 = .ok (.iload 6, 2) := by decide +kernel
theorem dX6_fillPiece_62 : decode cX6_fillPiece 62 = .ok (.iconst 4, 1) := by decide +kernel
theorem dX6_fillPiece_63 : decode cX6_fillPiece 63 = .ok (.idiv, 1) := by decide +kernel
theorem dX6_fillPiece_64 : decode cX6_fillPiece 64 = .ok (.iload_n 3, 1) := by decide +kernel
theorem dX6_fillPiece_65 : decode cX6_fillPiece 65 = .ok (.imul, 1) := by decide +kernel
theorem dX6_fillPiece_66 : decode cX6_fillPiece 66 = .ok (.iadd, 1) := by decide +kernel
theorem dX6_fillPiece_67 : decode cX6_fillPiece 67 = .ok (.iload 6, 2) := by decide +kernel
theorem dX6_fillPiece_69 : decode cX6_fillPiece 69 = .ok (.iconst 4, 1) := by decide +kernel
theorem dX6_fillPiece_70 : decode cX6_fillPiece 70 = .ok (.irem, 1) := by decide +kernel
theorem dX6_fillPiece_71 : decode cX6_fillPiece 71 = .ok (.iadd, 1) := by decide +kernel
theorem dX6_fillPiece_72 : decode cX6_fillPiece 72 = .ok (.iload 7, 2) := by decide +kernel
theorem dX6_fillPiece_74 : decode cX6_fillPiece 74 = .ok (.ifCond .ge 7, 3) := by decide +kernel
theorem dX6_fillPiece_77 : decode cX6_fillPiece 77 = .ok (.iconst 0, 1) := by decide +kernel
theorem dX6_fillPiece_78 : decode cX6_fillPiece 78 = .ok (.goto 19, 3) := by decide +kernel
theorem dX6_fillPiece_81 : decode cX6_fillPiece 81 = .ok (.iload 7, 2) := by decide +kernel
theorem dX6_fillPiece_83 : decode cX6_fillPiece 83 = .ok (.sipush 255, 3) := by decide +kernel
theorem dX6_fillPiece_86 : decode cX6_fillPiece 86 = .ok (.if_icmp .le 9, 3) := by decide +kernel
theorem dX6_fillPiece_89 : decode cX6_fillPiece 89 = .ok (.sipush 255, 3) := by decide +kernel
theorem dX6_fillPiece_92 : decode cX6_fillPiece 92 = .ok (.goto 5, 3) := by decide +kernel
theorem dX6_fillPiece_95 : decode cX6_fillPiece 95 = .ok (.iload 7, 2) := by decide +kernel
theorem dX6_fillPiece_97 : decode cX6_fillPiece 97 = .ok (.iastore, 1) := by decide +kernel
theorem dX6_fillPiece_98 : decode cX6_fillPiece 98 = .ok (.iinc 6 1, 3) := by decide +kernel
theorem dX6_fillPiece_101 : decode cX6_fillPiece 101 = .ok (.goto (-86), 3) := by decide +kernel
theorem dX6_fillPiece_104 : decode cX6_fillPiece 104 = .ok (.return_, 1) := by decide +kernel
def FX6_fillPiece (G : GG) (M : DD) (a : Nat) (p0 : Option Nat) (p1 : Int32) (p2 : Int32) (p3 : Int32) (p4 : Int32) : Option (DD) :=
  bnd (FX6_turnBack G M a ((1 : Int32)) ((4 : Int32))) fun y1 =>
  bnd (FX6_turnBack G y1 a ((4 : Int32)) ((1 : Int32))) fun y2 =>
  bnd (itr (fun (s4 : Int32 × DD) => ((if ((16 : Int32)) ≤ s4.1 then (some (.inr (s4.1, s4.2))) else
  (ltt (s4.1 / ((4 : Int32))) fun x8 =>
  ltt ((x8 * p4)) fun x9 =>
  ltt ((p3 + x9)) fun x10 =>
  ltt (s4.1 - s4.1 / ((4 : Int32)) * ((4 : Int32))) fun x11 =>
  ltt ((x10 + x11)) fun x12 =>
  dr G 13 ((s4.2.2 a 0)) fun b13 =>
  chk (¬ (x12 < 0 ∨ G.2.2 b13 ≤ x12.toNatClampNeg)) <|
  ltt (s4.2.1 b13 x12.toNatClampNeg) fun x14 =>
  dr G 13 ((s4.2.2 a 6)) fun b15 =>
  chk (¬ (s4.1 < 0 ∨ G.2.2 b15 ≤ s4.1.toNatClampNeg)) <|
  ltt (s4.2.1 b15 s4.1.toNatClampNeg) fun x16 =>
  ltt ((x16 + ((32 : Int32)))) fun x17 =>
  ltt ((x17 >>> (((6 : Int32)) &&& 31))) fun x18 =>
  ltt ((x14 + x18)) fun x19 =>
  ltt (s4.1 / ((4 : Int32))) fun x20 =>
  ltt ((x20 * p2)) fun x21 =>
  ltt ((p1 + x21)) fun x22 =>
  ltt (s4.1 - s4.1 / ((4 : Int32)) * ((4 : Int32))) fun x23 =>
  ltt ((x22 + x23)) fun x24 =>
  bnd (if ((0 : Int32)) ≤ x19 then (bnd (if x19 ≤ ((255 : Int32)) then (some (x19)) else
  (some ((255 : Int32)))) fun (y30 : Int32) =>
  some (y30)) else
  (some ((0 : Int32)))) fun (y25 : Int32) =>
  dr G 13 p0 fun b26 =>
  chk (¬ (x24 < 0 ∨ G.2.2 b26 ≤ x24.toNatClampNeg)) <|
  ltt (uI s4.2 b26 x24.toNatClampNeg y25) fun M27 =>
  ltt (s4.1 + (1 : Int32)) fun x28 =>
  some (.inl (x28, M27)))) : Option ((Int32 × DD) ⊕ (Int32 × DD)))) 1000000 ((0 : Int32), y2)) fun (y3 : Int32 × DD) =>
  some y3.2
set_option maxHeartbeats 4000000 in
set_option maxRecDepth 100000 in
theorem kX6_fillPiece (l : Launch) (D : va_G) (ct : CT) (ad : Nat → Nat) (Z : Nat → Nat) (G : GG) (M : DD) (sz : Nat) (a : Nat) (p0 : Option Nat) (p1 : Int32) (p2 : Int32) (p3 : Int32) (p4 : Int32) (y : DD) (hc : a < G.1) (hk : G.2.1 a = 6) (hF : FX6_fillPiece G M a p0 p1 p2 p3 p4 = some y) : Met l yX6_fillPiece wuX6_fillPiece ({ frames := 1, cells := 0, slots := 0, locals := 28 }) (va_Pc [.ref (ad a), va_re ad p0, .int p1, .int p2, .int p3, .int p4] (kB D ct ad Z G M sz)) (va_Qv (fun (_ : Unit) => True) (fun _ t => kE D ct ad G (wA ad G sz) y t) (wA ad G sz)) 0 0 (wA ad G sz) := by
  refine Met.ofW (cc := cX6_fillPiece) (maxL := 8) (ret := none) (by decide) rfl ?_
  intro p e s m args below meth c s₁ B hml hv
  obtain ⟨rfl, hsz, hP, hK, hD0, hZ, hN⟩ := hv
  have hx := B.exec
  have hb := B.bytes
  have hr := B.returns
  have hts := atoms_spec (ws := wuX6_fillPiece) B.pre
  have hown : s.vm.findClass RX6 = some m.cls := findClass_of_methodNamed B.named
  have hlocks := B.notSynchronized
  subst hsz
  have hD := wD_self (sz := s.heap.size) hD0
  have hA9 : ∀ q, s.heap.size ≤ q → wA ad G s.heap.size q := fun q h => Or.inr h
  generalize hAe : wA ad G s.heap.size = A at hD hA9 hZ ⊢
  have hS : va_S A s.heap s.heap [] := va_S.rf
  have hl := lv_entry ([.ref (ad a), va_re ad p0, .int p1, .int p2, .int p3, .int p4]) (n := 8) (by cases p0 <;> exact Nat.le_of_ble_eq_true rfl)
  rw [lg_entry_eq]
  generalize (lg_sl ([.ref (ad a), va_re ad p0, .int p1, .int p2, .int p3, .int p4]) ++ List.replicate (8 - (lg_sl ([.ref (ad a), va_re ad p0, .int p1, .int p2, .int p3, .int p4])).length) Slot.unset).toArray = ls at hl ⊢
  have hl : lv_has ls 8 [(0, .ref (ad a)), (1, va_re ad p0), (2, .int p1), (3, .int p2), (4, .int p3), (5, .int p4)] := by have e9 : lv_args 0 [.ref (ad a), va_re ad p0, .int p1, .int p2, .int p3, .int p4] = [(0, .ref (ad a)), (1, va_re ad p0), (2, .int p1), (3, .int p2), (4, .int p3), (5, .int p4)] := (by cases p0 <;> rfl); rw [e9] at hl; exact hl
  unfold FX6_fillPiece at hF
  refine lv_aload_n hx hb dX6_fillPiece_0 rfl (lv_at hl 0 rfl) ?_
  refine lv_iconst (v := (1 : Int32)) hx hb dX6_fillPiece_1 (by decide) ?_
  refine lv_iconst (v := (4 : Int32)) hx hb dX6_fillPiece_2 (by decide) ?_
  obtain ⟨y1, hy1, hF⟩ := bnd_some hF
  have hf9 := wA_in hD hA9 hS
  refine va_callv (va_runV (As := [.int (1 : Int32), .int (4 : Int32)]) (rest := []) ⟨hx, hb, hml, hown, hts⟩ (kX6_turnBack l D ct ad Z G M s.heap.size a ((1 : Int32)) ((4 : Int32)) y1 hc hk hy1) (cwV 2 hts gX6_fillPiece_X6_turnBack rfl rfl rfl (by decide +kernel) ⟨Nat.le_of_ble_eq_true rfl, Nat.le_of_ble_eq_true rfl⟩) ⟨fun a U g mk q => by obtain ⟨q0, q1, qP, qK, qD, qZ, qN⟩ := q; exact ⟨q0, q1, qP, va_K.moved (u := U) (U := U.calling g mk a) (Vm.Alike.refl U.vm) qK, qD, sF.moved (u := U) (U := U.calling g mk a) (Vm.Alike.refl U.vm) qZ, nF.same rfl qN⟩, va_recv hK hP (ci := 6) (q0 := a) rfl (wld_o ct ad G M hc hk (by decide)), fun U hU hW => ⟨rfl, by rw [hU], by rw [hU]; exact hP, va_K.moved hW.alike hK, hD.weaken (fun _ _ _ _ => trivial), by rw [hU]; exact ((hZ.kept hS.2.1).narrow hf9).moved hW.alike, hN.warm hW⟩⟩ rfl rfl hl.1 rfl (lv_room (Nat.le_of_ble_eq_true rfl)) dX6_fillPiece_3 ⟨(Nat.zero_le _), (Nat.zero_le _)⟩) hS (fun q _ h => hf9 q h) hf9 (fun u t H locs ht hvm hw hB hz1 hk1 hS => ?_)
  obtain ⟨hP, hK9, hD9⟩ := hB
  rw [ht] at hP
  have hD := hD9.weaken (fun _ q _ h => hf9 q.1 h)
  refine lv_aload_n hx hb dX6_fillPiece_6 rfl (lv_at hl 0 rfl) ?_
  refine lv_iconst (v := (4 : Int32)) hx hb dX6_fillPiece_7 (by decide) ?_
  refine lv_iconst (v := (1 : Int32)) hx hb dX6_fillPiece_8 (by decide) ?_
  obtain ⟨y2, hy2, hF⟩ := bnd_some hF
  have hf9 := wA_in hD hA9 hS
  refine va_callv (va_runV (As := [.int (4 : Int32), .int (1 : Int32)]) (rest := []) ⟨hx, hb, hml, hown, hts⟩ (kX6_turnBack l D ct ad Z G y1 H.size a ((4 : Int32)) ((1 : Int32)) y2 hc hk hy2) (cwV 2 hts gX6_fillPiece_X6_turnBack rfl rfl rfl (by decide +kernel) ⟨Nat.le_of_ble_eq_true rfl, Nat.le_of_ble_eq_true rfl⟩) ⟨fun a U g mk q => by obtain ⟨q0, q1, qP, qK, qD, qZ, qN⟩ := q; exact ⟨q0, q1, qP, va_K.moved (u := U) (U := U.calling g mk a) (Vm.Alike.refl U.vm) qK, qD, sF.moved (u := U) (U := U.calling g mk a) (Vm.Alike.refl U.vm) qZ, nF.same rfl qN⟩, va_recv hK hP (ci := 6) (q0 := a) rfl (wld_o ct ad G y1 hc hk (by decide)), fun U hU hW => ⟨rfl, by rw [hU], by rw [hU]; exact hP, va_K.moved hW.alike hK, hD.weaken (fun _ _ _ _ => trivial), by rw [hU]; exact ((hZ.kept hS.2.1).narrow hf9).moved hW.alike, hN.warm hW⟩⟩ rfl rfl hl.1 rfl (lv_room (Nat.le_of_ble_eq_true rfl)) dX6_fillPiece_9 ⟨(Nat.zero_le _), (Nat.zero_le _)⟩) hS (fun q _ h => hf9 q h) hf9 (fun u t H locs ht hvm hw hB hz1 hk1 hS => ?_)
  obtain ⟨hP, hK9, hD9⟩ := hB
  rw [ht] at hP
  have hD := hD9.weaken (fun _ q _ h => hf9 q.1 h)
  refine lv_iconst (v := (0 : Int32)) hx hb dX6_fillPiece_12 (by decide) ?_
  refine lv_istore (lv' := [(6, .int (0 : Int32)), (0, .ref (ad a)), (1, va_re ad p0), (2, .int p1), (3, .int p2), (4, .int p3), (5, .int p4)]) hx hb dX6_fillPiece_13 hl (by decide) rfl (fun ls hl => ?_)
  obtain ⟨y3, hy3, hF⟩ := bnd_some hF
  have K3 : ∀ (H : Heap) (locs : List Loc) (ls : Array Slot), va_P D classes (wld ct ad G y3.2) H → va_D A (wld ct ad G y3.2) → va_S A s.heap H locs → lv_has ls 8 [(6, .int y3.1), (0, .ref (ad a)), (1, va_re ad p0), (2, .int p1), (3, .int p2), (4, .int p3), (5, .int p4)] → W p l e (headSpec wuX6_fillPiece ({ frames := 1, cells := 0, slots := 0, locals := 28 })).room s m ([.ref (ad a), va_re ad p0, .int p1, .int p2, .int p3, .int p4] : List Value).toArray below meth c H locs 0 0 (MQ below (va_Qv (fun (_ : Unit) => True) (fun _ t => kE D ct ad G A y t) A) ([.ref (ad a), va_re ad p0, .int p1, .int p2, .int p3, .int p4] : List Value).toArray s 0 0 A) (F0 m 104 ls []) := by
    intro H locs ls hP hD hS hl
    obtain rfl := Option.some.inj hF
    exact W.vret hx hb hr (fun t ht hW => ⟨⟨(), rfl, trivial, ⟨by rw [ht]; exact hP, va_K.moved hW.alike hK, hD⟩⟩, hS.F ht⟩) hS.2.2 dX6_fillPiece_104
  clear hF
  refine itr_rule (fun (s4 : Int32 × DD) => ∀ (H : Heap) (locs : List Loc) (ls : Array Slot), va_P D classes (wld ct ad G s4.2) H → va_D A (wld ct ad G s4.2) → va_S A s.heap H locs → lv_has ls 8 [(6, .int s4.1), (0, .ref (ad a)), (1, va_re ad p0), (2, .int p1), (3, .int p2), (4, .int p3), (5, .int p4)] → W p l e (headSpec wuX6_fillPiece ({ frames := 1, cells := 0, slots := 0, locals := 28 })).room s m ([.ref (ad a), va_re ad p0, .int p1, .int p2, .int p3, .int p4] : List Value).toArray below meth c H locs 0 0 (MQ below (va_Qv (fun (_ : Unit) => True) (fun _ t => kE D ct ad G A y t) A) ([.ref (ad a), va_re ad p0, .int p1, .int p2, .int p3, .int p4] : List Value).toArray s 0 0 A) (F0 m 15 ls [])) ?_ _ _ hy3 _ _ _ hP hD hS (lv_sub hl [0, 1, 2, 3, 4, 5, 6] rfl)
  rintro s4 ⟨z6, hF, hwz6⟩ H locs ls hP hD hS hl
  try dsimp only at hF
  refine lv_iload hx hb dX6_fillPiece_15 (lv_at hl 0 rfl) ?_
  refine lv_bipush (v := (16 : Int32)) hx hb dX6_fillPiece_17 (by decide) ?_
  refine lv_icmp_ge (tgt := 104) hx hb dX6_fillPiece_19 (by decide) (fun c7 => ?_) (fun c7 => ?_)
  · rw [if_pos c7] at hF
    obtain rfl := Option.some.inj hF
    subst hwz6
    exact K3 _ _ _ hP hD hS (lv_sub hl [0, 1, 2, 3, 4, 5, 6] rfl)
  · rw [if_neg c7] at hF
    refine lv_aload_n hx hb dX6_fillPiece_22 rfl (lv_at hl 1 rfl) ?_
    refine va_get (D := D) (ci := 6) (v := va_re ad (s4.2.2 a 0)) (C := RX6) (T := TX6) (N := 14) hx hb hts (mus hf_X6) hown hK hP a (wld_o ct ad G s4.2 hc hk (by decide)) rfl 0 (by decide) (hts (.fieldLink RX6 9 "VideoSuite$Samples" "guess" "[I") (mu mw_533)) (fun _ h9 => h9) rfl dX6_fillPiece_23 ?_
    refine lv_iload hx hb dX6_fillPiece_26 (lv_at hl 5 rfl) ?_
    refine lv_iload hx hb dX6_fillPiece_28 (lv_at hl 0 rfl) ?_
    refine lv_iconst (v := (4 : Int32)) hx hb dX6_fillPiece_30 (by decide) ?_
    refine lv_idiv hx hb dX6_fillPiece_31 (by decide) ?_
    obtain ⟨x8, ex8, hF⟩ := ltt_some hF
    refine lv_topi (fun zx8 ezx8 => ?_)
    obtain rfl : x8 = zx8 := ex8.trans ezx8.symm
    refine lv_iload hx hb dX6_fillPiece_32 (lv_at hl 6 rfl) ?_
    refine lv_imul hx hb dX6_fillPiece_34 ?_
    obtain ⟨x9, ex9, hF⟩ := ltt_some hF
    refine lv_topi (fun zx9 ezx9 => ?_)
    obtain rfl : x9 = zx9 := ex9.trans ezx9.symm
    refine lv_iadd hx hb dX6_fillPiece_35 ?_
    obtain ⟨x10, ex10, hF⟩ := ltt_some hF
    refine lv_topi (fun zx10 ezx10 => ?_)
    obtain rfl : x10 = zx10 := ex10.trans ezx10.symm
    refine lv_iload hx hb dX6_fillPiece_36 (lv_at hl 0 rfl) ?_
    refine lv_iconst (v := (4 : Int32)) hx hb dX6_fillPiece_38 (by decide) ?_
    refine lv_irem hx hb dX6_fillPiece_39 (by decide) ?_
    obtain ⟨x11, ex11, hF⟩ := ltt_some hF
    refine lv_topi (fun zx11 ezx11 => ?_)
    obtain rfl : x11 = zx11 := ex11.trans ezx11.symm
    refine lv_iadd hx hb dX6_fillPiece_40 ?_
    obtain ⟨x12, ex12, hF⟩ := ltt_some hF
    refine lv_topi (fun zx12 ezx12 => ?_)
    obtain rfl : x12 = zx12 := ex12.trans ezx12.symm
    obtain ⟨b13, ho13, hc13, hk13, hF⟩ := dr_some hF
    refine W_st (st' := [.int x12, .ref (ad b13)]) (by rw [va_some ho13]) ?_
    obtain ⟨hvc, hF⟩ := chk_some hF
    refine va_iald hx hb hK hP b13 1 (wld_i ct ad G s4.2 hc13 hk13) rfl hvc dX6_fillPiece_41 ?_
    obtain ⟨x14, ex14, hF⟩ := ltt_some hF
    refine lv_topi (fun zx14 ezx14 => ?_)
    obtain rfl : x14 = zx14 := ex14.trans ezx14.symm
    refine lv_aload_n hx hb dX6_fillPiece_42 rfl (lv_at hl 1 rfl) ?_
    refine va_get (D := D) (ci := 6) (v := va_re ad (s4.2.2 a 6)) (C := RX6) (T := TX6) (N := 14) hx hb hts (mus hf_X6) hown hK hP a (wld_o ct ad G s4.2 hc hk (by decide)) rfl 6 (by decide) (hts (.fieldLink RX6 30 "VideoSuite$Samples" "rest" "[I") (mu mw_542)) (fun _ h9 => h9) rfl dX6_fillPiece_43 ?_
    refine lv_iload hx hb dX6_fillPiece_46 (lv_at hl 0 rfl) ?_
    obtain ⟨b15, ho15, hc15, hk15, hF⟩ := dr_some hF
    refine W_st (st' := [.int s4.1, .ref (ad b15), .int x14]) (by rw [va_some ho15]) ?_
    obtain ⟨hvc, hF⟩ := chk_some hF
    refine va_iald hx hb hK hP b15 1 (wld_i ct ad G s4.2 hc15 hk15) rfl hvc dX6_fillPiece_48 ?_
    obtain ⟨x16, ex16, hF⟩ := ltt_some hF
    refine lv_topi (fun zx16 ezx16 => ?_)
    obtain rfl : x16 = zx16 := ex16.trans ezx16.symm
    refine lv_bipush (v := (32 : Int32)) hx hb dX6_fillPiece_49 (by decide) ?_
    refine lv_iadd hx hb dX6_fillPiece_51 ?_
    obtain ⟨x17, ex17, hF⟩ := ltt_some hF
    refine lv_topi (fun zx17 ezx17 => ?_)
    obtain rfl : x17 = zx17 := ex17.trans ezx17.symm
    refine lv_bipush (v := (6 : Int32)) hx hb dX6_fillPiece_52 (by decide) ?_
    refine lv_ishr hx hb dX6_fillPiece_54 ?_
    obtain ⟨x18, ex18, hF⟩ := ltt_some hF
    refine lv_topi (fun zx18 ezx18 => ?_)
    obtain rfl : x18 = zx18 := ex18.trans ezx18.symm
    refine lv_iadd hx hb dX6_fillPiece_55 ?_
    obtain ⟨x19, ex19, hF⟩ := ltt_some hF
    refine lv_topi (fun zx19 ezx19 => ?_)
    obtain rfl : x19 = zx19 := ex19.trans ezx19.symm
    refine lv_istore (lv' := [(7, .int x19), (6, .int s4.1), (0, .ref (ad a)), (1, va_re ad p0), (2, .int p1), (3, .int p2), (4, .int p3), (5, .int p4)]) hx hb dX6_fillPiece_56 hl (by decide) rfl (fun ls hl => ?_)
    refine lv_aloadq_n hx hb dX6_fillPiece_58 rfl (lv_at hl 3 rfl) ?_
    refine lv_iload_n hx hb dX6_fillPiece_59 rfl (lv_at hl 4 rfl) ?_
    refine lv_iload hx hb dX6_fillPiece_60 (lv_at hl 1 rfl) ?_
    refine lv_iconst (v := (4 : Int32)) hx hb dX6_fillPiece_62 (by decide) ?_
    refine lv_idiv hx hb dX6_fillPiece_63 (by decide) ?_
    obtain ⟨x20, ex20, hF⟩ := ltt_some hF
    refine lv_topi (fun zx20 ezx20 => ?_)
    obtain rfl : x20 = zx20 := ex20.trans ezx20.symm
    refine lv_iload_n hx hb dX6_fillPiece_64 rfl (lv_at hl 5 rfl) ?_
    refine lv_imul hx hb dX6_fillPiece_65 ?_
    obtain ⟨x21, ex21, hF⟩ := ltt_some hF
    refine lv_topi (fun zx21 ezx21 => ?_)
    obtain rfl : x21 = zx21 := ex21.trans ezx21.symm
    refine lv_iadd hx hb dX6_fillPiece_66 ?_
    obtain ⟨x22, ex22, hF⟩ := ltt_some hF
    refine lv_topi (fun zx22 ezx22 => ?_)
    obtain rfl : x22 = zx22 := ex22.trans ezx22.symm
    refine lv_iload hx hb dX6_fillPiece_67 (lv_at hl 1 rfl) ?_
    refine lv_iconst (v := (4 : Int32)) hx hb dX6_fillPiece_69 (by decide) ?_
    refine lv_irem hx hb dX6_fillPiece_70 (by decide) ?_
    obtain ⟨x23, ex23, hF⟩ := ltt_some hF
    refine lv_topi (fun zx23 ezx23 => ?_)
    obtain rfl : x23 = zx23 := ex23.trans ezx23.symm
    refine lv_iadd hx hb dX6_fillPiece_71 ?_
    obtain ⟨x24, ex24, hF⟩ := ltt_some hF
    refine lv_topi (fun zx24 ezx24 => ?_)
    obtain rfl : x24 = zx24 := ex24.trans ezx24.symm
    refine lv_iload hx hb dX6_fillPiece_72 (lv_at hl 0 rfl) ?_
    obtain ⟨y25, hy25, hF⟩ := bnd_some hF
    have J25 : ∀ (H : Heap) (locs : List Loc) (ls : Array Slot), va_P D classes (wld ct ad G s4.2) H → va_D A (wld ct ad G s4.2) → va_S A s.heap H locs → lv_has ls 8 [(7, .int x19), (6, .int s4.1), (0, .ref (ad a)), (1, va_re ad p0), (2, .int p1), (3, .int p2), (4, .int p3), (5, .int p4)] → W p l e (headSpec wuX6_fillPiece ({ frames := 1, cells := 0, slots := 0, locals := 28 })).room s m ([.ref (ad a), va_re ad p0, .int p1, .int p2, .int p3, .int p4] : List Value).toArray below meth c H locs 0 0 (MQ below (va_Qv (fun (_ : Unit) => True) (fun _ t => kE D ct ad G A y t) A) ([.ref (ad a), va_re ad p0, .int p1, .int p2, .int p3, .int p4] : List Value).toArray s 0 0 A) (F0 m 97 ls [.int y25, .int x24, va_re ad p0]) := by
      intro H locs ls hP hD hS hl
      obtain ⟨b26, ho26, hc26, hk26, hF⟩ := dr_some hF
      refine W_st (st' := [.int y25, .int x24, .ref (ad b26)]) (by rw [va_some ho26]) ?_
      obtain ⟨hvc, hF⟩ := chk_some hF
      refine va_iast hx hb hK hP hD hS b26 1 (wld_i ct ad G s4.2 hc26 hk26) rfl hvc dX6_fillPiece_97 (fun H locs hP hD hS => ?_)
      obtain ⟨M27, eM27, hF⟩ := ltt_some hF
      rw [set_i ct ad G s4.2 hc26 hk26, ← eM27] at hP hD
      obtain ⟨x28, ex28, hF⟩ := ltt_some hF
      refine lv_iinc (v := x28) (lv' := [(6, .int x28), (7, .int x19), (0, .ref (ad a)), (1, va_re ad p0), (2, .int p1), (3, .int p2), (4, .int p3), (5, .int p4)]) hx hb dX6_fillPiece_98 hl (k := 1) rfl (by rw [ex28]; rfl) (by decide) rfl (fun ls hl => ?_)
      refine lv_goto (tgt := 15) hx hb dX6_fillPiece_101 (by decide) ?_
      obtain rfl := Option.some.inj hF
      exact hwz6 _ _ _ hP hD hS (lv_sub hl [0, 2, 3, 4, 5, 6, 7] rfl)
    clear hF
    have hF := hy25
    clear hy25
    refine lv_if_ge (tgt := 81) hx hb dX6_fillPiece_74 (by decide) (fun c29 => ?_) (fun c29 => ?_)
    · rw [if_pos c29] at hF
      refine lv_iload hx hb dX6_fillPiece_81 (lv_at hl 0 rfl) ?_
      refine lv_sipush (v := (255 : Int32)) hx hb dX6_fillPiece_83 (by decide) ?_
      obtain ⟨y30, hy30, hF⟩ := bnd_some hF
      have J30 : ∀ (H : Heap) (locs : List Loc) (ls : Array Slot), va_P D classes (wld ct ad G s4.2) H → va_D A (wld ct ad G s4.2) → va_S A s.heap H locs → lv_has ls 8 [(7, .int x19), (6, .int s4.1), (0, .ref (ad a)), (1, va_re ad p0), (2, .int p1), (3, .int p2), (4, .int p3), (5, .int p4)] → W p l e (headSpec wuX6_fillPiece ({ frames := 1, cells := 0, slots := 0, locals := 28 })).room s m ([.ref (ad a), va_re ad p0, .int p1, .int p2, .int p3, .int p4] : List Value).toArray below meth c H locs 0 0 (MQ below (va_Qv (fun (_ : Unit) => True) (fun _ t => kE D ct ad G A y t) A) ([.ref (ad a), va_re ad p0, .int p1, .int p2, .int p3, .int p4] : List Value).toArray s 0 0 A) (F0 m 97 ls [.int y30, .int x24, va_re ad p0]) := by
        intro H locs ls hP hD hS hl
        obtain rfl := Option.some.inj hF
        exact J25 _ _ _ hP hD hS (lv_sub hl [0, 1, 2, 3, 4, 5, 6, 7] rfl)
      clear hF
      have hF := hy30
      clear hy30
      refine lv_icmp_le (tgt := 95) hx hb dX6_fillPiece_86 (by decide) (fun c31 => ?_) (fun c31 => ?_)
      · rw [if_pos c31] at hF
        refine lv_iload hx hb dX6_fillPiece_95 (lv_at hl 0 rfl) ?_
        obtain rfl := Option.some.inj hF
        exact J30 _ _ _ hP hD hS (lv_sub hl [0, 1, 2, 3, 4, 5, 6, 7] rfl)
      · rw [if_neg c31] at hF
        refine lv_sipush (v := (255 : Int32)) hx hb dX6_fillPiece_89 (by decide) ?_
        refine lv_goto (tgt := 97) hx hb dX6_fillPiece_92 (by decide) ?_
        obtain rfl := Option.some.inj hF
        exact J30 _ _ _ hP hD hS (lv_sub hl [0, 1, 2, 3, 4, 5, 6, 7] rfl)
    · rw [if_neg c29] at hF
      refine lv_iconst (v := (0 : Int32)) hx hb dX6_fillPiece_77 (by decide) ?_
      refine lv_goto (tgt := 97) hx hb dX6_fillPiece_78 (by decide) ?_
      obtain rfl := Option.some.inj hF
      exact J25 _ _ _ hP hD hS (lv_sub hl [0, 1, 2, 3, 4, 5, 6, 7] rfl)
set_option maxRecDepth 20000 in
theorem gX6_fillRaw_X6_colourAt : GoodIn wuX6_fillRaw (va_wsS RX6 206 yX6_colourAt wuX6_colourAt) := gu_S mw_1985 mw_1986 mw_172 mw_1987
set_option maxRecDepth 20000 in
theorem gX6_fillRaw_X6_lumaAt : GoodIn wuX6_fillRaw (va_wsS RX6 175 yX6_lumaAt wuX6_lumaAt) := gu_S mw_1981 mw_1982 mw_172 mw_1983
set_option maxRecDepth 20000 in
theorem dX6_fillRaw_0 : decode cX6_fillRaw 0 = .ok (.iconst 0, 1) := by decide +kernel
theorem dX6_fillRaw_1 : decode cX6_fillRaw 1 = .ok (.istore_n 3, 1) := by decide +kernel
theorem dX6_fillRaw_2 : decode cX6_fillRaw 2 = .ok (.iload_n 3, 1) := by decide +kernel
theorem dX6_fillRaw_3 : decode cX6_fillRaw 3 = .ok (.bipush 16, 2) := by decide +kernel
theorem dX6_fillRaw_5 : decode cX6_fillRaw 5 = .ok (.if_icmp .ge 41, 3) := by decide +kernel
theorem dX6_fillRaw_8 : decode cX6_fillRaw 8 = .ok (.aload_n 0, 1) := by decide +kernel
theorem dX6_fillRaw_9 : decode cX6_fillRaw 9 = .ok (.getfield 9, 3) := by decide +kernel
theorem dX6_fillRaw_12 : decode cX6_fillRaw 12 = .ok (.bipush 16, 2) := by decide +kernel
theorem dX6_fillRaw_14 : decode cX6_fillRaw 14 = .ok (.iload_n 3, 1) := by decide +kernel
theorem dX6_fillRaw_15 : decode cX6_fillRaw 15 = .ok (.imul, 1) := by decide +kernel
theorem dX6_fillRaw_16 : decode cX6_fillRaw 16 = .ok (.aload_n 1, 1) := by decide +kernel
theorem dX6_fillRaw_17 : decode cX6_fillRaw 17 = .ok (.getfield 46, 3) := by decide +kernel
theorem dX6_fillRaw_20 : decode cX6_fillRaw 20 = .ok (.getfield 121, 3) := by decide +kernel
theorem dX6_fillRaw_23 : decode cX6_fillRaw 23 = .ok (.iconst 0, 1) := by decide +kernel
theorem dX6_fillRaw_24 : decode cX6_fillRaw 24 = .ok (.aaload, 1) := by decide +kernel
theorem dX6_fillRaw_25 : decode cX6_fillRaw 25 = .ok (.aload_n 1, 1) := by decide +kernel
theorem dX6_fillRaw_26 : decode cX6_fillRaw 26 = .ok (.getfield 46, 3) := by decide +kernel
theorem dX6_fillRaw_29 : decode cX6_fillRaw 29 = .ok (.iload_n 2, 1) := by decide +kernel
theorem dX6_fillRaw_30 : decode cX6_fillRaw 30 = .ok (.iconst 0, 1) := by decide +kernel
theorem dX6_fillRaw_31 : decode cX6_fillRaw 31 = .ok (.iload_n 3, 1) := by decide +kernel
theorem dX6_fillRaw_32 : decode cX6_fillRaw 32 = .ok (.invokestatic 175, 3) := by decide +kernel
theorem dX6_fillRaw_35 : decode cX6_fillRaw 35 = .ok (.bipush 16, 2) := by decide +kernel
theorem dX6_fillRaw_37 : decode cX6_fillRaw 37 = .ok (.invokestatic 250, 3) := by decide +kernel
theorem dX6_fillRaw_40 : decode cX6_fillRaw 40 = .ok (.iinc 3 1, 3) := by decide +kernel
theorem dX6_fillRaw_43 : decode cX6_fillRaw 43 = .ok (.goto (-41), 3) := by decide +kernel
theorem dX6_fillRaw_46 : decode cX6_fillRaw 46 = .ok (.iconst 1, 1) := by decide +kernel
theorem dX6_fillRaw_47 : decode cX6_fillRaw 47 = .ok (.istore_n 3, 1) := by decide +kernel
theorem dX6_fillRaw_48 : decode cX6_fillRaw 48 = .ok (.iload_n 3, 1) := by decide +kernel
theorem dX6_fillRaw_49 : decode cX6_fillRaw 49 = .ok (.iconst 3, 1) := by decide +kernel
theorem dX6_fillRaw_50 : decode cX6_fillRaw 50 = .ok (.if_icmp .ge 68, 3) := by decide +kernel
theorem dX6_fillRaw_53 : decode cX6_fillRaw 53 = .ok (.iconst 0, 1) := by decide +kernel
theorem dX6_fillRaw_54 : decode cX6_fillRaw 54 = .ok (.istore 4, 2) := by decide +kernel
theorem dX6_fillRaw_56 : decode cX6_fillRaw 56 = .ok (.iload 4, 2) := by decide +kernel
theorem dX6_fillRaw_58 : decode cX6_fillRaw 58 = .ok (.bipush 8, 2) := by decide +kernel
theorem dX6_fillRaw_60 : decode cX6_fillRaw 60 = .ok (.if_icmp .ge 52, 3) := by decide +kernel
theorem dX6_fillRaw_63 : decode cX6_fillRaw 63 = .ok (.aload_n 0, 1) := by decide +kernel
theorem dX6_fillRaw_64 : decode cX6_fillRaw 64 = .ok (.getfield 9, 3) := by decide +kernel
theorem dX6_fillRaw_67 : decode cX6_fillRaw 67 = .ok (.sipush 192, 3) := by decide +kernel
theorem dX6_fillRaw_70 : decode cX6_fillRaw 70 = .ok (.bipush 64, 2) := by decide +kernel
theorem dX6_fillRaw_72 : decode cX6_fillRaw 72 = .ok (.iload_n 3, 1) := by decide +kernel
theorem dX6_fillRaw_73 : decode cX6_fillRaw 73 = .ok (.imul, 1) := by decide +kernel
theorem dX6_fillRaw_74 : decode cX6_fillRaw 74 = .ok (.iadd, 1) := by decide +kernel
theorem dX6_fillRaw_75 : decode cX6_fillRaw 75 = .ok (.bipush 8, 2) := by decide +kernel
theorem dX6_fillRaw_77 : decode cX6_fillRaw 77 = .ok (.iload 4, 2) := by decide +kernel
theorem dX6_fillRaw_79 : decode cX6_fillRaw 79 = .ok (.imul, 1) := by decide +kernel
theorem dX6_fillRaw_80 : decode cX6_fillRaw 80 = .ok (.iadd, 1) := by decide +kernel
theorem dX6_fillRaw_81 : decode cX6_fillRaw 81 = .ok (.aload_n 1, 1) := by decide +kernel
theorem dX6_fillRaw_82 : decode cX6_fillRaw 82 = .ok (.getfield 46, 3) := by decide +kernel
theorem dX6_fillRaw_85 : decode cX6_fillRaw 85 = .ok (.getfield 121, 3) := by decide +kernel
theorem dX6_fillRaw_88 : decode cX6_fillRaw 88 = .ok (.iload_n 3, 1) := by decide +kernel
theorem dX6_fillRaw_89 : decode cX6_fillRaw 89 = .ok (.aaload, 1) := by decide +kernel
theorem dX6_fillRaw_90 : decode cX6_fillRaw 90 = .ok (.aload_n 1, 1) := by decide +kernel
theorem dX6_fillRaw_91 : decode cX6_fillRaw 91 = .ok (.getfield 46, 3) := by decide +kernel
theorem dX6_fillRaw_94 : decode cX6_fillRaw 94 = .ok (.iload_n 2, 1) := by decide +kernel
theorem dX6_fillRaw_95 : decode cX6_fillRaw 95 = .ok (.iconst 0, 1) := by decide +kernel
theorem dX6_fillRaw_96 : decode cX6_fillRaw 96 = .ok (.iload 4, 2) := by decide +kernel
theorem dX6_fillRaw_98 : decode cX6_fillRaw 98 = .ok (.invokestatic 206, 3) := by decide +kernel
theorem dX6_fillRaw_101 : decode cX6_fillRaw 101 = .ok (.bipush 8, 2) := by decide +kernel
theorem dX6_fillRaw_103 : decode cX6_fillRaw 103 = .ok (.invokestatic 250, 3) := by decide +kernel
theorem dX6_fillRaw_106 : decode cX6_fillRaw 106 = .ok (.iinc 4 1, 3) := by decide +kernel
theorem dX6_fillRaw_109 : decode cX6_fillRaw 109 = .ok (.goto (-53), 3) := by decide +kernel
theorem dX6_fillRaw_112 : decode cX6_fillRaw 112 = .ok (.iinc 3 1, 3) := by decide +kernel
theorem dX6_fillRaw_115 : decode cX6_fillRaw 115 = .ok (.goto (-67), 3) := by decide +kernel
theorem dX6_fillRaw_118 : decode cX6_fillRaw 118 = .ok (.return_, 1) := by decide +kernel
def FX6_fillRaw (G : GG) (M : DD) (a : Nat) (p0 : Option Nat) (p1 : Int32) : Option (DD) :=
  bnd (itr (fun (s2 : Int32 × DD) => ((if ((16 : Int32)) ≤ s2.1 then (some (.inr (s2.1, s2.2))) else
  (ltt ((((16 : Int32)) * s2.1)) fun x29 =>
  dr G 9 p0 fun b30 =>
  dr G 4 ((s2.2.2 b30 0)) fun b31 =>
  dr G 15 ((s2.2.2 b31 4)) fun b32 =>
  chk (¬ (((0 : Int32)) < 0 ∨ G.2.2 b32 ≤ ((0 : Int32)).toNatClampNeg)) <|
  bnd (FX6_lumaAt G s2.2 ((s2.2.2 b30 0)) p1 ((0 : Int32)) s2.1) fun y33 =>
  dr G 13 ((s2.2.2 a 0)) fun b34 =>
  dr G 13 ((s2.2.2 b32 ((0 : Int32)).toNatClampNeg)) fun b35 =>
  chk (¬ x29 < 0 ∧ ¬ y33.2 < 0 ∧ ¬ ((16 : Int32)) < 0 ∧ x29.toNatClampNeg + ((16 : Int32)).toNatClampNeg ≤ G.2.2 b34 ∧ y33.2.toNatClampNeg + ((16 : Int32)).toNatClampNeg ≤ G.2.2 b35) <|
  ltt (rI y33.1 b35 (va_cpy (y33.1.1 b34) (y33.1.1 b35) x29.toNatClampNeg y33.2.toNatClampNeg ((16 : Int32)).toNatClampNeg)) fun M36 =>
  ltt (s2.1 + (1 : Int32)) fun x37 =>
  some (.inl (x37, M36)))) : Option ((Int32 × DD) ⊕ (Int32 × DD)))) 1000000 ((0 : Int32), M)) fun (y1 : Int32 × DD) =>
  bnd (itr (fun (s5 : Int32 × DD) => ((if ((3 : Int32)) ≤ s5.1 then (some (.inr (s5.1, s5.2))) else
  (bnd (itr (fun (s10 : Int32 × DD) => ((if ((8 : Int32)) ≤ s10.1 then (some (.inr (s10.1, s10.2))) else
  (ltt ((((64 : Int32)) * s5.1)) fun x15 =>
  ltt ((((192 : Int32)) + x15)) fun x16 =>
  ltt ((((8 : Int32)) * s10.1)) fun x17 =>
  ltt ((x16 + x17)) fun x18 =>
  dr G 9 p0 fun b19 =>
  dr G 4 ((s10.2.2 b19 0)) fun b20 =>
  dr G 15 ((s10.2.2 b20 4)) fun b21 =>
  chk (¬ (s5.1 < 0 ∨ G.2.2 b21 ≤ s5.1.toNatClampNeg)) <|
  bnd (FX6_colourAt G s10.2 ((s10.2.2 b19 0)) p1 ((0 : Int32)) s10.1) fun y22 =>
  dr G 13 ((s10.2.2 a 0)) fun b23 =>
  dr G 13 ((s10.2.2 b21 s5.1.toNatClampNeg)) fun b24 =>
  chk (¬ x18 < 0 ∧ ¬ y22.2 < 0 ∧ ¬ ((8 : Int32)) < 0 ∧ x18.toNatClampNeg + ((8 : Int32)).toNatClampNeg ≤ G.2.2 b23 ∧ y22.2.toNatClampNeg + ((8 : Int32)).toNatClampNeg ≤ G.2.2 b24) <|
  ltt (rI y22.1 b24 (va_cpy (y22.1.1 b23) (y22.1.1 b24) x18.toNatClampNeg y22.2.toNatClampNeg ((8 : Int32)).toNatClampNeg)) fun M25 =>
  ltt (s10.1 + (1 : Int32)) fun x26 =>
  some (.inl (x26, M25)))) : Option ((Int32 × DD) ⊕ (Int32 × DD)))) 1000000 ((0 : Int32), s5.2)) fun (y9 : Int32 × DD) =>
  ltt (s5.1 + (1 : Int32)) fun x12 =>
  some (.inl (x12, y9.2)))) : Option ((Int32 × DD) ⊕ (Int32 × DD)))) 1000000 ((1 : Int32), y1.2)) fun (y4 : Int32 × DD) =>
  some y4.2
set_option maxHeartbeats 4000000 in
set_option maxRecDepth 100000 in
theorem kX6_fillRaw (l : Launch) (D : va_G) (ct : CT) (ad : Nat → Nat) (Z : Nat → Nat) (G : GG) (M : DD) (sz : Nat) (a : Nat) (p0 : Option Nat) (p1 : Int32) (y : DD) (hc : a < G.1) (hk : G.2.1 a = 6) (hF : FX6_fillRaw G M a p0 p1 = some y) : Met l yX6_fillRaw wuX6_fillRaw ({ frames := 1, cells := 0, slots := 0, locals := 80 }) (va_Pc [.ref (ad a), va_re ad p0, .int p1] (kB D ct ad Z G M sz)) (va_Qv (fun (_ : Unit) => True) (fun _ t => kE D ct ad G (wA ad G sz) y t) (wA ad G sz)) 0 0 (wA ad G sz) := by
  refine Met.ofW (cc := cX6_fillRaw) (maxL := 5) (ret := none) (by decide) rfl ?_
  intro p e s m args below meth c s₁ B hml hv
  obtain ⟨rfl, hsz, hP, hK, hD0, hZ, hN⟩ := hv
  have hx := B.exec
  have hb := B.bytes
  have hr := B.returns
  have hts := atoms_spec (ws := wuX6_fillRaw) B.pre
  have hown : s.vm.findClass RX6 = some m.cls := findClass_of_methodNamed B.named
  have hlocks := B.notSynchronized
  subst hsz
  have hD := wD_self (sz := s.heap.size) hD0
  have hA9 : ∀ q, s.heap.size ≤ q → wA ad G s.heap.size q := fun q h => Or.inr h
  generalize hAe : wA ad G s.heap.size = A at hD hA9 hZ ⊢
  have hS : va_S A s.heap s.heap [] := va_S.rf
  have hl := lv_entry ([.ref (ad a), va_re ad p0, .int p1]) (n := 5) (by cases p0 <;> exact Nat.le_of_ble_eq_true rfl)
  rw [lg_entry_eq]
  generalize (lg_sl ([.ref (ad a), va_re ad p0, .int p1]) ++ List.replicate (5 - (lg_sl ([.ref (ad a), va_re ad p0, .int p1])).length) Slot.unset).toArray = ls at hl ⊢
  have hl : lv_has ls 5 [(0, .ref (ad a)), (1, va_re ad p0), (2, .int p1)] := by have e9 : lv_args 0 [.ref (ad a), va_re ad p0, .int p1] = [(0, .ref (ad a)), (1, va_re ad p0), (2, .int p1)] := (by cases p0 <;> rfl); rw [e9] at hl; exact hl
  unfold FX6_fillRaw at hF
  refine lv_iconst (v := (0 : Int32)) hx hb dX6_fillRaw_0 (by decide) ?_
  refine lv_istore_n (lv' := [(3, .int (0 : Int32)), (0, .ref (ad a)), (1, va_re ad p0), (2, .int p1)]) hx hb dX6_fillRaw_1 rfl hl (by decide) rfl (fun ls hl => ?_)
  obtain ⟨y1, hy1, hF⟩ := bnd_some hF
  have K1 : ∀ (H : Heap) (locs : List Loc) (ls : Array Slot), va_P D classes (wld ct ad G y1.2) H → va_D A (wld ct ad G y1.2) → va_S A s.heap H locs → lv_has ls 5 [(3, .int y1.1), (0, .ref (ad a)), (1, va_re ad p0), (2, .int p1)] → W p l e (headSpec wuX6_fillRaw ({ frames := 1, cells := 0, slots := 0, locals := 80 })).room s m ([.ref (ad a), va_re ad p0, .int p1] : List Value).toArray below meth c H locs 0 0 (MQ below (va_Qv (fun (_ : Unit) => True) (fun _ t => kE D ct ad G A y t) A) ([.ref (ad a), va_re ad p0, .int p1] : List Value).toArray s 0 0 A) (F0 m 46 ls []) := by
    intro H locs ls hP hD hS hl
    refine lv_iconst (v := (1 : Int32)) hx hb dX6_fillRaw_46 (by decide) ?_
    refine lv_istore_n (lv' := [(3, .int (1 : Int32)), (0, .ref (ad a)), (1, va_re ad p0), (2, .int p1)]) hx hb dX6_fillRaw_47 rfl hl (by decide) rfl (fun ls hl => ?_)
    obtain ⟨y4, hy4, hF⟩ := bnd_some hF
    have K4 : ∀ (H : Heap) (locs : List Loc) (ls : Array Slot), va_P D classes (wld ct ad G y4.2) H → va_D A (wld ct ad G y4.2) → va_S A s.heap H locs → lv_has ls 5 [(3, .int y4.1), (0, .ref (ad a)), (1, va_re ad p0), (2, .int p1)] → W p l e (headSpec wuX6_fillRaw ({ frames := 1, cells := 0, slots := 0, locals := 80 })).room s m ([.ref (ad a), va_re ad p0, .int p1] : List Value).toArray below meth c H locs 0 0 (MQ below (va_Qv (fun (_ : Unit) => True) (fun _ t => kE D ct ad G A y t) A) ([.ref (ad a), va_re ad p0, .int p1] : List Value).toArray s 0 0 A) (F0 m 118 ls []) := by
      intro H locs ls hP hD hS hl
      obtain rfl := Option.some.inj hF
      exact W.vret hx hb hr (fun t ht hW => ⟨⟨(), rfl, trivial, ⟨by rw [ht]; exact hP, va_K.moved hW.alike hK, hD⟩⟩, hS.F ht⟩) hS.2.2 dX6_fillRaw_118
    clear hF
    refine itr_rule (fun (s5 : Int32 × DD) => ∀ (H : Heap) (locs : List Loc) (ls : Array Slot), va_P D classes (wld ct ad G s5.2) H → va_D A (wld ct ad G s5.2) → va_S A s.heap H locs → lv_has ls 5 [(3, .int s5.1), (0, .ref (ad a)), (1, va_re ad p0), (2, .int p1)] → W p l e (headSpec wuX6_fillRaw ({ frames := 1, cells := 0, slots := 0, locals := 80 })).room s m ([.ref (ad a), va_re ad p0, .int p1] : List Value).toArray below meth c H locs 0 0 (MQ below (va_Qv (fun (_ : Unit) => True) (fun _ t => kE D ct ad G A y t) A) ([.ref (ad a), va_re ad p0, .int p1] : List Value).toArray s 0 0 A) (F0 m 48 ls [])) ?_ _ _ hy4 _ _ _ hP hD hS (lv_sub hl [0, 1, 2, 3] rfl)
    rintro s5 ⟨z7, hF, hwz7⟩ H locs ls hP hD hS hl
    try dsimp only at hF
    refine lv_iload_n hx hb dX6_fillRaw_48 rfl (lv_at hl 0 rfl) ?_
    refine lv_iconst (v := (3 : Int32)) hx hb dX6_fillRaw_49 (by decide) ?_
    refine lv_icmp_ge (tgt := 118) hx hb dX6_fillRaw_50 (by decide) (fun c8 => ?_) (fun c8 => ?_)
    · rw [if_pos c8] at hF
      obtain rfl := Option.some.inj hF
      subst hwz7
      exact K4 _ _ _ hP hD hS (lv_sub hl [0, 1, 2, 3] rfl)
    · rw [if_neg c8] at hF
      refine lv_iconst (v := (0 : Int32)) hx hb dX6_fillRaw_53 (by decide) ?_
      refine lv_istore (lv' := [(4, .int (0 : Int32)), (3, .int s5.1), (0, .ref (ad a)), (1, va_re ad p0), (2, .int p1)]) hx hb dX6_fillRaw_54 hl (by decide) rfl (fun ls hl => ?_)
      obtain ⟨y9, hy9, hF⟩ := bnd_some hF
      have K9 : ∀ (H : Heap) (locs : List Loc) (ls : Array Slot), va_P D classes (wld ct ad G y9.2) H → va_D A (wld ct ad G y9.2) → va_S A s.heap H locs → lv_has ls 5 [(4, .int y9.1), (3, .int s5.1), (0, .ref (ad a)), (1, va_re ad p0), (2, .int p1)] → W p l e (headSpec wuX6_fillRaw ({ frames := 1, cells := 0, slots := 0, locals := 80 })).room s m ([.ref (ad a), va_re ad p0, .int p1] : List Value).toArray below meth c H locs 0 0 (MQ below (va_Qv (fun (_ : Unit) => True) (fun _ t => kE D ct ad G A y t) A) ([.ref (ad a), va_re ad p0, .int p1] : List Value).toArray s 0 0 A) (F0 m 112 ls []) := by
        intro H locs ls hP hD hS hl
        obtain ⟨x12, ex12, hF⟩ := ltt_some hF
        refine lv_iinc (v := x12) (lv' := [(3, .int x12), (4, .int y9.1), (0, .ref (ad a)), (1, va_re ad p0), (2, .int p1)]) hx hb dX6_fillRaw_112 hl (k := 1) rfl (by rw [ex12]; rfl) (by decide) rfl (fun ls hl => ?_)
        refine lv_goto (tgt := 48) hx hb dX6_fillRaw_115 (by decide) ?_
        obtain rfl := Option.some.inj hF
        exact hwz7 _ _ _ hP hD hS (lv_sub hl [0, 2, 3, 4] rfl)
      clear hF
      refine itr_rule (fun (s10 : Int32 × DD) => ∀ (H : Heap) (locs : List Loc) (ls : Array Slot), va_P D classes (wld ct ad G s10.2) H → va_D A (wld ct ad G s10.2) → va_S A s.heap H locs → lv_has ls 5 [(4, .int s10.1), (3, .int s5.1), (0, .ref (ad a)), (1, va_re ad p0), (2, .int p1)] → W p l e (headSpec wuX6_fillRaw ({ frames := 1, cells := 0, slots := 0, locals := 80 })).room s m ([.ref (ad a), va_re ad p0, .int p1] : List Value).toArray below meth c H locs 0 0 (MQ below (va_Qv (fun (_ : Unit) => True) (fun _ t => kE D ct ad G A y t) A) ([.ref (ad a), va_re ad p0, .int p1] : List Value).toArray s 0 0 A) (F0 m 56 ls [])) ?_ _ _ hy9 _ _ _ hP hD hS (lv_sub hl [0, 1, 2, 3, 4] rfl)
      rintro s10 ⟨z13, hF, hwz13⟩ H locs ls hP hD hS hl
      try dsimp only at hF
      refine lv_iload hx hb dX6_fillRaw_56 (lv_at hl 0 rfl) ?_
      refine lv_bipush (v := (8 : Int32)) hx hb dX6_fillRaw_58 (by decide) ?_
      refine lv_icmp_ge (tgt := 112) hx hb dX6_fillRaw_60 (by decide) (fun c14 => ?_) (fun c14 => ?_)
      · rw [if_pos c14] at hF
        obtain rfl := Option.some.inj hF
        subst hwz13
        exact K9 _ _ _ hP hD hS (lv_sub hl [0, 1, 2, 3, 4] rfl)
      · rw [if_neg c14] at hF
        refine lv_aload_n hx hb dX6_fillRaw_63 rfl (lv_at hl 2 rfl) ?_
        refine va_get (D := D) (ci := 6) (v := va_re ad (s10.2.2 a 0)) (C := RX6) (T := TX6) (N := 14) hx hb hts (mus hf_X6) hown hK hP a (wld_o ct ad G s10.2 hc hk (by decide)) rfl 0 (by decide) (hts (.fieldLink RX6 9 "VideoSuite$Samples" "guess" "[I") (mu mw_533)) (fun _ h9 => h9) rfl dX6_fillRaw_64 ?_
        refine lv_sipush (v := (192 : Int32)) hx hb dX6_fillRaw_67 (by decide) ?_
        refine lv_bipush (v := (64 : Int32)) hx hb dX6_fillRaw_70 (by decide) ?_
        refine lv_iload_n hx hb dX6_fillRaw_72 rfl (lv_at hl 1 rfl) ?_
        refine lv_imul hx hb dX6_fillRaw_73 ?_
        obtain ⟨x15, ex15, hF⟩ := ltt_some hF
        refine lv_topi (fun zx15 ezx15 => ?_)
        obtain rfl : x15 = zx15 := ex15.trans ezx15.symm
        refine lv_iadd hx hb dX6_fillRaw_74 ?_
        obtain ⟨x16, ex16, hF⟩ := ltt_some hF
        refine lv_topi (fun zx16 ezx16 => ?_)
        obtain rfl : x16 = zx16 := ex16.trans ezx16.symm
        refine lv_bipush (v := (8 : Int32)) hx hb dX6_fillRaw_75 (by decide) ?_
        refine lv_iload hx hb dX6_fillRaw_77 (lv_at hl 0 rfl) ?_
        refine lv_imul hx hb dX6_fillRaw_79 ?_
        obtain ⟨x17, ex17, hF⟩ := ltt_some hF
        refine lv_topi (fun zx17 ezx17 => ?_)
        obtain rfl : x17 = zx17 := ex17.trans ezx17.symm
        refine lv_iadd hx hb dX6_fillRaw_80 ?_
        obtain ⟨x18, ex18, hF⟩ := ltt_some hF
        refine lv_topi (fun zx18 ezx18 => ?_)
        obtain rfl : x18 = zx18 := ex18.trans ezx18.symm
        refine lv_aloadq_n hx hb dX6_fillRaw_81 rfl (lv_at hl 3 rfl) ?_
        obtain ⟨b19, ho19, hc19, hk19, hF⟩ := dr_some hF
        refine W_st (st' := [.ref (ad b19), .int x18, va_re ad (s10.2.2 a 0)]) (by rw [va_some ho19]) ?_
        refine va_get (D := D) (ci := 9) (v := va_re ad (s10.2.2 b19 0)) (C := RX9) (T := TX9) (N := 20) hx hb hts (mus hf_X9) hown hK hP b19 (wld_o ct ad G s10.2 hc19 hk19 (by decide)) rfl 0 (by decide) (hts (.fieldLink RX6 46 "VideoSuite$Work" "pic" "LVideoSuite$Picture;") (mu mw_421)) (fun _ h9 => h9) rfl dX6_fillRaw_82 ?_
        obtain ⟨b20, ho20, hc20, hk20, hF⟩ := dr_some hF
        refine W_st (st' := [.ref (ad b20), .int x18, va_re ad (s10.2.2 a 0)]) (by rw [va_some ho20]) ?_
        refine va_get (D := D) (ci := 4) (v := va_re ad (s10.2.2 b20 4)) (C := RX4) (T := TX4) (N := 18) hx hb hts (mus hf_X4) hown hK hP b20 (wld_o ct ad G s10.2 hc20 hk20 (by decide)) rfl 4 (by decide) (hts (.fieldLink RX6 121 "VideoSuite$Picture" "plane" "[[I") (mu mw_1433)) (fun _ h9 => h9) rfl dX6_fillRaw_85 ?_
        refine lv_iload_n hx hb dX6_fillRaw_88 rfl (lv_at hl 1 rfl) ?_
        obtain ⟨b21, ho21, hc21, hk21, hF⟩ := dr_some hF
        refine W_st (st' := [.int s5.1, .ref (ad b21), .int x18, va_re ad (s10.2.2 a 0)]) (by rw [va_some ho21]) ?_
        obtain ⟨hvc, hF⟩ := chk_some hF
        refine ld_g hx hb hK hP hc21 hk21 hvc dX6_fillRaw_89 ?_
        refine lv_aloadq_n hx hb dX6_fillRaw_90 rfl (lv_at hl 3 rfl) ?_
        refine W_st (st' := [.ref (ad b19), va_re ad (s10.2.2 b21 s5.1.toNatClampNeg), .int x18, va_re ad (s10.2.2 a 0)]) (by rw [va_some ho19]) ?_
        refine va_get (D := D) (ci := 9) (v := va_re ad (s10.2.2 b19 0)) (C := RX9) (T := TX9) (N := 20) hx hb hts (mus hf_X9) hown hK hP b19 (wld_o ct ad G s10.2 hc19 hk19 (by decide)) rfl 0 (by decide) (hts (.fieldLink RX6 46 "VideoSuite$Work" "pic" "LVideoSuite$Picture;") (mu mw_421)) (fun _ h9 => h9) rfl dX6_fillRaw_91 ?_
        refine lv_iload_n hx hb dX6_fillRaw_94 rfl (lv_at hl 4 rfl) ?_
        refine lv_iconst (v := (0 : Int32)) hx hb dX6_fillRaw_95 (by decide) ?_
        refine lv_iload hx hb dX6_fillRaw_96 (lv_at hl 0 rfl) ?_
        obtain ⟨y22, hy22, hF⟩ := bnd_some hF
        have hf9 := wA_in hD hA9 hS
        refine va_calli (va_runS (As := [va_re ad (s10.2.2 b19 0), .int p1, .int (0 : Int32), .int s10.1]) (rest := [va_re ad (s10.2.2 b21 s5.1.toNatClampNeg), .int x18, va_re ad (s10.2.2 a 0)]) ⟨hx, hb, hml, hown, hts⟩ (kX6_colourAt l D ct ad Z G s10.2 H.size ((s10.2.2 b19 0)) p1 ((0 : Int32)) s10.1 y22 hy22) (va_cwS 4 hts gX6_fillRaw_X6_colourAt rfl rfl rfl (by decide +kernel) ⟨Nat.le_of_ble_eq_true rfl, Nat.le_of_ble_eq_true rfl⟩) ⟨fun a U g mk q => by obtain ⟨q0, q1, qP, qK, qD, qZ, qN⟩ := q; exact ⟨q0, q1, qP, va_K.moved (u := U) (U := U.calling g mk a) (Vm.Alike.refl U.vm) qK, qD, sF.moved (u := U) (U := U.calling g mk a) (Vm.Alike.refl U.vm) qZ, nF.same rfl qN⟩, fun U hU hW => ⟨rfl, by rw [hU], by rw [hU]; exact hP, va_K.moved hW.alike hK, hD.weaken (fun _ _ _ _ => trivial), by rw [hU]; exact ((hZ.kept hS.2.1).narrow hf9).moved hW.alike, hN.warm hW⟩⟩ rfl rfl hl.1 rfl (lv_room (by simp only [List.map, va_re_cat]; exact Nat.le_of_ble_eq_true rfl)) dX6_fillRaw_98 ⟨(Nat.zero_le _), (Nat.zero_le _)⟩) hS (fun q _ h => hf9 q h) hf9 (fun r u t H locs ht hvm hw hB hz1 hk1 hS => ?_)
        obtain ⟨hP, hK9, hD9⟩ := hB
        rw [ht] at hP
        try dsimp only at hw
        subst hw
        have hD := hD9.weaken (fun _ q _ h => hf9 q.1 h)
        refine lv_bipush (v := (8 : Int32)) hx hb dX6_fillRaw_101 (by decide) ?_
        obtain ⟨b23, ho23, hc23, hk23, hF⟩ := dr_some hF
        refine W_st (st' := [.int (8 : Int32), .int y22.2, va_re ad (s10.2.2 b21 s5.1.toNatClampNeg), .int x18, .ref (ad b23)]) (by rw [va_some ho23]) ?_
        obtain ⟨b24, ho24, hc24, hk24, hF⟩ := dr_some hF
        refine W_st (st' := [.int (8 : Int32), .int y22.2, .ref (ad b24), .int x18, .ref (ad b23)]) (by rw [va_some ho24]) ?_
        obtain ⟨hv9, hF⟩ := chk_some hF
        refine va_copyi (ty := .int) hx hb (hml.trans hl.1.symm) hown (hts (.methodLink RX6 250 arraycopyName) (mu mw_1984)) (hts (.native arraycopyName) (mu mw_1093)) (hts (.static arraycopyName) (mu mw_1092)) (hts (.initialized "java/lang/System") (mu mw_181)) hK hP hD hS b23 b24 1 1 (wld_i ct ad G y22.1 hc23 hk23) (wld_i ct ad G y22.1 hc24 hk24) rfl rfl rfl hv9.1 hv9.2.1 hv9.2.2.1 hv9.2.2.2.1 hv9.2.2.2.2 (fun _ _ => rfl) (Nat.le_of_ble_eq_true rfl) (by decide +kernel) dX6_fillRaw_103 (fun H locs hP hD hS => ?_)
        obtain ⟨M25, eM25, hF⟩ := ltt_some hF
        rw [set_ri ct ad G y22.1 hc24 hk24, ← eM25] at hP hD
        obtain ⟨x26, ex26, hF⟩ := ltt_some hF
        refine lv_iinc (v := x26) (lv' := [(4, .int x26), (3, .int s5.1), (0, .ref (ad a)), (1, va_re ad p0), (2, .int p1)]) hx hb dX6_fillRaw_106 hl (k := 0) rfl (by rw [ex26]; rfl) (by decide) rfl (fun ls hl => ?_)
        refine lv_goto (tgt := 56) hx hb dX6_fillRaw_109 (by decide) ?_
        obtain rfl := Option.some.inj hF
        exact hwz13 _ _ _ hP hD hS (lv_sub hl [0, 1, 2, 3, 4] rfl)
  clear hF
  refine itr_rule (fun (s2 : Int32 × DD) => ∀ (H : Heap) (locs : List Loc) (ls : Array Slot), va_P D classes (wld ct ad G s2.2) H → va_D A (wld ct ad G s2.2) → va_S A s.heap H locs → lv_has ls 5 [(3, .int s2.1), (0, .ref (ad a)), (1, va_re ad p0), (2, .int p1)] → W p l e (headSpec wuX6_fillRaw ({ frames := 1, cells := 0, slots := 0, locals := 80 })).room s m ([.ref (ad a), va_re ad p0, .int p1] : List Value).toArray below meth c H locs 0 0 (MQ below (va_Qv (fun (_ : Unit) => True) (fun _ t => kE D ct ad G A y t) A) ([.ref (ad a), va_re ad p0, .int p1] : List Value).toArray s 0 0 A) (F0 m 2 ls [])) ?_ _ _ hy1 _ _ _ hP hD hS (lv_sub hl [0, 1, 2, 3] rfl)
  rintro s2 ⟨z27, hF, hwz27⟩ H locs ls hP hD hS hl
  try dsimp only at hF
  refine lv_iload_n hx hb dX6_fillRaw_2 rfl (lv_at hl 0 rfl) ?_
  refine lv_bipush (v := (16 : Int32)) hx hb dX6_fillRaw_3 (by decide) ?_
  refine lv_icmp_ge (tgt := 46) hx hb dX6_fillRaw_5 (by decide) (fun c28 => ?_) (fun c28 => ?_)
  · rw [if_pos c28] at hF
    obtain rfl := Option.some.inj hF
    subst hwz27
    exact K1 _ _ _ hP hD hS (lv_sub hl [0, 1, 2, 3] rfl)
  · rw [if_neg c28] at hF
    refine lv_aload_n hx hb dX6_fillRaw_8 rfl (lv_at hl 1 rfl) ?_
    refine va_get (D := D) (ci := 6) (v := va_re ad (s2.2.2 a 0)) (C := RX6) (T := TX6) (N := 14) hx hb hts (mus hf_X6) hown hK hP a (wld_o ct ad G s2.2 hc hk (by decide)) rfl 0 (by decide) (hts (.fieldLink RX6 9 "VideoSuite$Samples" "guess" "[I") (mu mw_533)) (fun _ h9 => h9) rfl dX6_fillRaw_9 ?_
    refine lv_bipush (v := (16 : Int32)) hx hb dX6_fillRaw_12 (by decide) ?_
    refine lv_iload_n hx hb dX6_fillRaw_14 rfl (lv_at hl 0 rfl) ?_
    refine lv_imul hx hb dX6_fillRaw_15 ?_
    obtain ⟨x29, ex29, hF⟩ := ltt_some hF
    refine lv_topi (fun zx29 ezx29 => ?_)
    obtain rfl : x29 = zx29 := ex29.trans ezx29.symm
    refine lv_aloadq_n hx hb dX6_fillRaw_16 rfl (lv_at hl 2 rfl) ?_
    obtain ⟨b30, ho30, hc30, hk30, hF⟩ := dr_some hF
    refine W_st (st' := [.ref (ad b30), .int x29, va_re ad (s2.2.2 a 0)]) (by rw [va_some ho30]) ?_
    refine va_get (D := D) (ci := 9) (v := va_re ad (s2.2.2 b30 0)) (C := RX9) (T := TX9) (N := 20) hx hb hts (mus hf_X9) hown hK hP b30 (wld_o ct ad G s2.2 hc30 hk30 (by decide)) rfl 0 (by decide) (hts (.fieldLink RX6 46 "VideoSuite$Work" "pic" "LVideoSuite$Picture;") (mu mw_421)) (fun _ h9 => h9) rfl dX6_fillRaw_17 ?_
    obtain ⟨b31, ho31, hc31, hk31, hF⟩ := dr_some hF
    refine W_st (st' := [.ref (ad b31), .int x29, va_re ad (s2.2.2 a 0)]) (by rw [va_some ho31]) ?_
    refine va_get (D := D) (ci := 4) (v := va_re ad (s2.2.2 b31 4)) (C := RX4) (T := TX4) (N := 18) hx hb hts (mus hf_X4) hown hK hP b31 (wld_o ct ad G s2.2 hc31 hk31 (by decide)) rfl 4 (by decide) (hts (.fieldLink RX6 121 "VideoSuite$Picture" "plane" "[[I") (mu mw_1433)) (fun _ h9 => h9) rfl dX6_fillRaw_20 ?_
    refine lv_iconst (v := (0 : Int32)) hx hb dX6_fillRaw_23 (by decide) ?_
    obtain ⟨b32, ho32, hc32, hk32, hF⟩ := dr_some hF
    refine W_st (st' := [.int (0 : Int32), .ref (ad b32), .int x29, va_re ad (s2.2.2 a 0)]) (by rw [va_some ho32]) ?_
    obtain ⟨hvc, hF⟩ := chk_some hF
    refine ld_g hx hb hK hP hc32 hk32 hvc dX6_fillRaw_24 ?_
    refine lv_aloadq_n hx hb dX6_fillRaw_25 rfl (lv_at hl 2 rfl) ?_
    refine W_st (st' := [.ref (ad b30), va_re ad (s2.2.2 b32 ((0 : Int32)).toNatClampNeg), .int x29, va_re ad (s2.2.2 a 0)]) (by rw [va_some ho30]) ?_
    refine va_get (D := D) (ci := 9) (v := va_re ad (s2.2.2 b30 0)) (C := RX9) (T := TX9) (N := 20) hx hb hts (mus hf_X9) hown hK hP b30 (wld_o ct ad G s2.2 hc30 hk30 (by decide)) rfl 0 (by decide) (hts (.fieldLink RX6 46 "VideoSuite$Work" "pic" "LVideoSuite$Picture;") (mu mw_421)) (fun _ h9 => h9) rfl dX6_fillRaw_26 ?_
    refine lv_iload_n hx hb dX6_fillRaw_29 rfl (lv_at hl 3 rfl) ?_
    refine lv_iconst (v := (0 : Int32)) hx hb dX6_fillRaw_30 (by decide) ?_
    refine lv_iload_n hx hb dX6_fillRaw_31 rfl (lv_at hl 0 rfl) ?_
    obtain ⟨y33, hy33, hF⟩ := bnd_some hF
    have hf9 := wA_in hD hA9 hS
    refine va_calli (va_runS (As := [va_re ad (s2.2.2 b30 0), .int p1, .int (0 : Int32), .int s2.1]) (rest := [va_re ad (s2.2.2 b32 ((0 : Int32)).toNatClampNeg), .int x29, va_re ad (s2.2.2 a 0)]) ⟨hx, hb, hml, hown, hts⟩ (kX6_lumaAt l D ct ad Z G s2.2 H.size ((s2.2.2 b30 0)) p1 ((0 : Int32)) s2.1 y33 hy33) (va_cwS 4 hts gX6_fillRaw_X6_lumaAt rfl rfl rfl (by decide +kernel) ⟨Nat.le_of_ble_eq_true rfl, Nat.le_of_ble_eq_true rfl⟩) ⟨fun a U g mk q => by obtain ⟨q0, q1, qP, qK, qD, qZ, qN⟩ := q; exact ⟨q0, q1, qP, va_K.moved (u := U) (U := U.calling g mk a) (Vm.Alike.refl U.vm) qK, qD, sF.moved (u := U) (U := U.calling g mk a) (Vm.Alike.refl U.vm) qZ, nF.same rfl qN⟩, fun U hU hW => ⟨rfl, by rw [hU], by rw [hU]; exact hP, va_K.moved hW.alike hK, hD.weaken (fun _ _ _ _ => trivial), by rw [hU]; exact ((hZ.kept hS.2.1).narrow hf9).moved hW.alike, hN.warm hW⟩⟩ rfl rfl hl.1 rfl (lv_room (by simp only [List.map, va_re_cat]; exact Nat.le_of_ble_eq_true rfl)) dX6_fillRaw_32 ⟨(Nat.zero_le _), (Nat.zero_le _)⟩) hS (fun q _ h => hf9 q h) hf9 (fun r u t H locs ht hvm hw hB hz1 hk1 hS => ?_)
    obtain ⟨hP, hK9, hD9⟩ := hB
    rw [ht] at hP
    try dsimp only at hw
    subst hw
    have hD := hD9.weaken (fun _ q _ h => hf9 q.1 h)
    refine lv_bipush (v := (16 : Int32)) hx hb dX6_fillRaw_35 (by decide) ?_
    obtain ⟨b34, ho34, hc34, hk34, hF⟩ := dr_some hF
    refine W_st (st' := [.int (16 : Int32), .int y33.2, va_re ad (s2.2.2 b32 ((0 : Int32)).toNatClampNeg), .int x29, .ref (ad b34)]) (by rw [va_some ho34]) ?_
    obtain ⟨b35, ho35, hc35, hk35, hF⟩ := dr_some hF
    refine W_st (st' := [.int (16 : Int32), .int y33.2, .ref (ad b35), .int x29, .ref (ad b34)]) (by rw [va_some ho35]) ?_
    obtain ⟨hv9, hF⟩ := chk_some hF
    refine va_copyi (ty := .int) hx hb (hml.trans hl.1.symm) hown (hts (.methodLink RX6 250 arraycopyName) (mu mw_1984)) (hts (.native arraycopyName) (mu mw_1093)) (hts (.static arraycopyName) (mu mw_1092)) (hts (.initialized "java/lang/System") (mu mw_181)) hK hP hD hS b34 b35 1 1 (wld_i ct ad G y33.1 hc34 hk34) (wld_i ct ad G y33.1 hc35 hk35) rfl rfl rfl hv9.1 hv9.2.1 hv9.2.2.1 hv9.2.2.2.1 hv9.2.2.2.2 (fun _ _ => rfl) (Nat.le_of_ble_eq_true rfl) (by decide +kernel) dX6_fillRaw_37 (fun H locs hP hD hS => ?_)
    obtain ⟨M36, eM36, hF⟩ := ltt_some hF
    rw [set_ri ct ad G y33.1 hc35 hk35, ← eM36] at hP hD
    obtain ⟨x37, ex37, hF⟩ := ltt_some hF
    refine lv_iinc (v := x37) (lv' := [(3, .int x37), (0, .ref (ad a)), (1, va_re ad p0), (2, .int p1)]) hx hb dX6_fillRaw_40 hl (k := 0) rfl (by rw [ex37]; rfl) (by decide) rfl (fun ls hl => ?_)
    refine lv_goto (tgt := 2) hx hb dX6_fillRaw_43 (by decide) ?_
    obtain rfl := Option.some.inj hF
    exact hwz27 _ _ _ hP hD hS (lv_sub hl [0, 1, 2, 3] rfl)
set_option maxRecDepth 20000 in
theorem gX6_fillSixteen_X9_levelAt : GoodIn wuX6_fillSixteen (va_wsS RX6 237 yX9_levelAt wuX9_levelAt) := gu_S mw_2080 mw_1789 mw_171 mw_1790
set_option maxRecDepth 20000 in
set_option maxRecDepth 20000 in
theorem gX6_fillSixteen_X6_turnEven : GoodIn wuX6_fillSixteen (wsV RX6 247 RX6 yX6_turnEven wuX6_turnEven) := gu_V mw_2085 mw_2087 mw_81 mw_172 mw_2088
set_option maxRecDepth 20000 in
set_option maxRecDepth 20000 in
theorem gX6_fillSixteen_X9_pieceX : GoodIn wuX6_fillSixteen (va_wsS RX6 76 yX9_pieceX wuX9_pieceX) := gu_S mw_2014 mw_949 mw_171 mw_950
set_option maxRecDepth 20000 in
set_option maxRecDepth 20000 in
theorem gX6_fillSixteen_X9_pieceY : GoodIn wuX6_fillSixteen (va_wsS RX6 80 yX9_pieceY wuX9_pieceY) := gu_S mw_2015 mw_952 mw_171 mw_953
set_option maxRecDepth 20000 in
set_option maxRecDepth 20000 in
theorem gX6_fillSixteen_X6_unfold : GoodIn wuX6_fillSixteen (wsV RX6 240 RX6 yX6_unfold wuX6_unfold) := gu_V mw_2089 mw_2091 mw_82 mw_172 mw_2092
set_option maxRecDepth 20000 in
set_option maxRecDepth 20000 in
theorem gX6_fillSixteen_X6_normAt : GoodIn wuX6_fillSixteen (va_wsS RX6 227 yX6_normAt wuX6_normAt) := gu_S mw_2096 mw_2097 mw_172 mw_2098
set_option maxRecDepth 20000 in
set_option maxRecDepth 20000 in
theorem gX6_fillSixteen_X6_lumaAt : GoodIn wuX6_fillSixteen (va_wsS RX6 175 yX6_lumaAt wuX6_lumaAt) := gu_S mw_1981 mw_1982 mw_172 mw_1983
set_option maxRecDepth 20000 in
set_option maxRecDepth 20000 in
theorem gX6_fillSixteen_X6_fillPiece : GoodIn wuX6_fillSixteen (wsV RX6 244 RX6 yX6_fillPiece wuX6_fillPiece) := gu_V mw_2099 mw_2101 mw_83 mw_172 mw_2102
theorem dX6_fillSixteen_0 : decode cX6_fillSixteen 0 = .ok (.iload_n 2, 1) := by decide +kernel
theorem dX6_fillSixteen_1 : decode cX6_fillSixteen 1 = .ok (.bipush 16, 2) := by decide +kernel
theorem dX6_fillSixteen_3 : decode cX6_fillSixteen 3 = .ok (.invokestatic 237, 3) := by decide +kernel
theorem dX6_fillSixteen_6 : decode cX6_fillSixteen 6 = .ok (.istore 4, 2) := by decide +kernel
theorem dX6_fillSixteen_8 : decode cX6_fillSixteen 8 = .ok (.iconst 0, 1) := by decide +kernel
theorem dX6_fillSixteen_9 : decode cX6_fillSixteen 9 = .ok (.istore 5, 2) := by decide +kernel
theorem dX6_fillSixteen_11 : decode cX6_fillSixteen 11 = .ok (.iload 5, 2) := by decide +kernel
theorem dX6_fillSixteen_13 : decode cX6_fillSixteen 13 = .ok (.bipush 16, 2) := by decide +kernel
theorem dX6_fillSixteen_15 : decode cX6_fillSixteen 15 = .ok (.if_icmp .ge 39, 3) := by decide +kernel
theorem dX6_fillSixteen_18 : decode cX6_fillSixteen 18 = .ok (.aload_n 0, 1) := by decide +kernel
theorem dX6_fillSixteen_19 : decode cX6_fillSixteen 19 = .ok (.getfield 33, 3) := by decide +kernel
theorem dX6_fillSixteen_22 : decode cX6_fillSixteen 22 = .ok (.iconst 4, 1) := by decide +kernel
theorem dX6_fillSixteen_23 : decode cX6_fillSixteen 23 = .ok (.getstatic 221, 3) := by decide +kernel
theorem dX6_fillSixteen_26 : decode cX6_fillSixteen 26 = .ok (.iload 5, 2) := by decide +kernel
theorem dX6_fillSixteen_28 : decode cX6_fillSixteen 28 = .ok (.iaload, 1) := by decide +kernel
theorem dX6_fillSixteen_29 : decode cX6_fillSixteen 29 = .ok (.imul, 1) := by decide +kernel
theorem dX6_fillSixteen_30 : decode cX6_fillSixteen 30 = .ok (.getstatic 218, 3) := by decide +kernel
theorem dX6_fillSixteen_33 : decode cX6_fillSixteen 33 = .ok (.iload 5, 2) := by decide +kernel
theorem dX6_fillSixteen_35 : decode cX6_fillSixteen 35 = .ok (.iaload, 1) := by decide +kernel
theorem dX6_fillSixteen_36 : decode cX6_fillSixteen 36 = .ok (.iadd, 1) := by decide +kernel
theorem dX6_fillSixteen_37 : decode cX6_fillSixteen 37 = .ok (.aload_n 1, 1) := by decide +kernel
theorem dX6_fillSixteen_38 : decode cX6_fillSixteen 38 = .ok (.getfield 234, 3) := by decide +kernel
theorem dX6_fillSixteen_41 : decode cX6_fillSixteen 41 = .ok (.iload 4, 2) := by decide +kernel
theorem dX6_fillSixteen_43 : decode cX6_fillSixteen 43 = .ok (.iload 5, 2) := by decide +kernel
theorem dX6_fillSixteen_45 : decode cX6_fillSixteen 45 = .ok (.iadd, 1) := by decide +kernel
theorem dX6_fillSixteen_46 : decode cX6_fillSixteen 46 = .ok (.iaload, 1) := by decide +kernel
theorem dX6_fillSixteen_47 : decode cX6_fillSixteen 47 = .ok (.iastore, 1) := by decide +kernel
theorem dX6_fillSixteen_48 : decode cX6_fillSixteen 48 = .ok (.iinc 5 1, 3) := by decide +kernel
theorem dX6_fillSixteen_51 : decode cX6_fillSixteen 51 = .ok (.goto (-40), 3) := by decide +kernel
theorem dX6_fillSixteen_54 : decode cX6_fillSixteen 54 = .ok (.aload_n 0, 1) := by decide +kernel
theorem dX6_fillSixteen_55 : decode cX6_fillSixteen 55 = .ok (.invokevirtual 247, 3) := by decide +kernel
theorem dX6_fillSixteen_58 : decode cX6_fillSixteen 58 = .ok (.iconst 0, 1) := by decide +kernel
theorem dX6_fillSixteen_59 : decode cX6_fillSixteen 59 = .ok (.istore 5, 2) := by decide +kernel
theorem dX6_fillSixteen_61 : decode cX6_fillSixteen 61 = .ok (.iload 5, 2) := by decide +kernel
theorem dX6_fillSixteen_63 : decode cX6_fillSixteen 63 = .ok (.bipush 16, 2) := by decide +kernel
theorem dX6_fillSixteen_65 : decode cX6_fillSixteen 65 = .ok (.if_icmp .ge 122, 3) := by decide +kernel
theorem dX6_fillSixteen_68 : decode cX6_fillSixteen 68 = .ok (.iload 5, 2) := by decide +kernel
theorem dX6_fillSixteen_70 : decode cX6_fillSixteen 70 = .ok (.invokestatic 76, 3) := by decide +kernel
theorem dX6_fillSixteen_73 : decode cX6_fillSixteen 73 = .ok (.istore 6, 2) := by decide +kernel
theorem dX6_fillSixteen_75 : decode cX6_fillSixteen 75 = .ok (.iload 5, 2) := by decide +kernel
theorem dX6_fillSixteen_77 : decode cX6_fillSixteen 77 = .ok (.invokestatic 80, 3) := by decide +kernel
theorem dX6_fillSixteen_80 : decode cX6_fillSixteen 80 = .ok (.istore 7, 2) := by decide +kernel
theorem dX6_fillSixteen_82 : decode cX6_fillSixteen 82 = .ok (.aload_n 0, 1) := by decide +kernel
theorem dX6_fillSixteen_83 : decode cX6_fillSixteen 83 = .ok (.aload_n 1, 1) := by decide +kernel
theorem dX6_fillSixteen_84 : decode cX6_fillSixteen 84 = .ok (.getfield 234, 3) := by decide +kernel
theorem dX6_fillSixteen_87 : decode cX6_fillSixteen 87 = .ok (.iload_n 2, 1) := by decide +kernel
theorem dX6_fillSixteen_88 : decode cX6_fillSixteen 88 = .ok (.iload 5, 2) := by decide +kernel
theorem dX6_fillSixteen_90 : decode cX6_fillSixteen 90 = .ok (.invokestatic 237, 3) := by decide +kernel
theorem dX6_fillSixteen_93 : decode cX6_fillSixteen 93 = .ok (.iconst 1, 1) := by decide +kernel
theorem dX6_fillSixteen_94 : decode cX6_fillSixteen 94 = .ok (.iload_n 3, 1) := by decide +kernel
theorem dX6_fillSixteen_95 : decode cX6_fillSixteen 95 = .ok (.invokevirtual 240, 3) := by decide +kernel
theorem dX6_fillSixteen_98 : decode cX6_fillSixteen 98 = .ok (.aload_n 0, 1) := by decide +kernel
theorem dX6_fillSixteen_99 : decode cX6_fillSixteen 99 = .ok (.getfield 30, 3) := by decide +kernel
theorem dX6_fillSixteen_102 : decode cX6_fillSixteen 102 = .ok (.iconst 0, 1) := by decide +kernel
theorem dX6_fillSixteen_103 : decode cX6_fillSixteen 103 = .ok (.aload_n 0, 1) := by decide +kernel
theorem dX6_fillSixteen_104 : decode cX6_fillSixteen 104 = .ok (.getfield 33, 3) := by decide +kernel
theorem dX6_fillSixteen_107 : decode cX6_fillSixteen 107 = .ok (.iload 7, 2) := by decide +kernel
theorem dX6_fillSixteen_109 : decode cX6_fillSixteen 109 = .ok (.iload 6, 2) := by decide +kernel
theorem dX6_fillSixteen_111 : decode cX6_fillSixteen 111 = .ok (.iconst 4, 1) := by decide +kernel
theorem dX6_fillSixteen_112 : decode cX6_fillSixteen 112 = .ok (.idiv, 1) := by decide +kernel
theorem dX6_fillSixteen_113 : decode cX6_fillSixteen 113 = .ok (.iadd, 1) := by decide +kernel
theorem dX6_fillSixteen_114 : decode cX6_fillSixteen 114 = .ok (.iaload, 1) := by decide +kernel
theorem dX6_fillSixteen_115 : decode cX6_fillSixteen 115 = .ok (.getstatic 224, 3) := by decide +kernel
theorem dX6_fillSixteen_118 : decode cX6_fillSixteen 118 = .ok (.iload_n 3, 1) := by decide +kernel
theorem dX6_fillSixteen_119 : decode cX6_fillSixteen 119 = .ok (.iconst 0, 1) := by decide +kernel
theorem dX6_fillSixteen_120 : decode cX6_fillSixteen 120 = .ok (.iconst 0, 1) := by decide +kernel
theorem dX6_fillSixteen_121 : decode cX6_fillSixteen 121 = .ok (.invokestatic 227, 3) := by decide +kernel
theorem dX6_fillSixteen_124 : decode cX6_fillSixteen 124 = .ok (.iaload, 1) := by decide +kernel
theorem dX6_fillSixteen_125 : decode cX6_fillSixteen 125 = .ok (.imul, 1) := by decide +kernel
theorem dX6_fillSixteen_126 : decode cX6_fillSixteen 126 = .ok (.iload_n 3, 1) := by decide +kernel
theorem dX6_fillSixteen_127 : decode cX6_fillSixteen 127 = .ok (.bipush 6, 2) := by decide +kernel
theorem dX6_fillSixteen_129 : decode cX6_fillSixteen 129 = .ok (.idiv, 1) := by decide +kernel
theorem dX6_fillSixteen_130 : decode cX6_fillSixteen 130 = .ok (.ishl, 1) := by decide +kernel
theorem dX6_fillSixteen_131 : decode cX6_fillSixteen 131 = .ok (.iconst 2, 1) := by decide +kernel
theorem dX6_fillSixteen_132 : decode cX6_fillSixteen 132 = .ok (.iadd, 1) := by decide +kernel
theorem dX6_fillSixteen_133 : decode cX6_fillSixteen 133 = .ok (.iconst 2, 1) := by decide +kernel
theorem dX6_fillSixteen_134 : decode cX6_fillSixteen 134 = .ok (.ishr, 1) := by decide +kernel
theorem dX6_fillSixteen_135 : decode cX6_fillSixteen 135 = .ok (.iastore, 1) := by decide +kernel
theorem dX6_fillSixteen_136 : decode cX6_fillSixteen 136 = .ok (.aload_n 0, 1) := by decide +kernel
theorem dX6_fillSixteen_137 : decode cX6_fillSixteen 137 = .ok (.aload_n 1, 1) := by decide +kernel
theorem dX6_fillSixteen_138 : decode cX6_fillSixteen 138 = .ok (.getfield 46, 3) := by decide +kernel
theorem dX6_fillSixteen_141 : decode cX6_fillSixteen 141 = .ok (.getfield 121, 3) := by decide +kernel
theorem dX6_fillSixteen_144 : decode cX6_fillSixteen 144 = .ok (.iconst 0, 1) := by decide +kernel
theorem dX6_fillSixteen_145 : decode cX6_fillSixteen 145 = .ok (.aaload, 1) := by decide +kernel
theorem dX6_fillSixteen_146 : decode cX6_fillSixteen 146 = .ok (.aload_n 1, 1) := by decide +kernel
theorem dX6_fillSixteen_147 : decode cX6_fillSixteen 147 = .ok (.getfield 46, 3) := by decide +kernel
theorem dX6_fillSixteen_150 : decode cX6_fillSixteen 150 = .ok (.iload_n 2, 1) := by decide +kernel
theorem dX6_fillSixteen_151 : decode cX6_fillSixteen 151 = .ok (.iload 6, 2) := by decide +kernel
theorem dX6_fillSixteen_153 : decode cX6_fillSixteen 153 = .ok (.iload 7, 2) := by decide +kernel
theorem dX6_fillSixteen_155 : decode cX6_fillSixteen 155 = .ok (.invokestatic 175, 3) := by decide +kernel
theorem dX6_fillSixteen_158 : decode cX6_fillSixteen 158 = .ok (.bipush 16, 2) := by decide +kernel
theorem dX6_fillSixteen_160 : decode cX6_fillSixteen 160 = .ok (.aload_n 1, 1) := by decide +kernel
theorem dX6_fillSixteen_161 : decode cX6_fillSixteen 161 = .ok (.getfield 46, 3) := by decide +kernel
theorem dX6_fillSixteen_164 : decode cX6_fillSixteen 164 = .ok (.getfield 83, 3) := by decide +kernel
theorem dX6_fillSixteen_167 : decode cX6_fillSixteen 167 = .ok (.imul, 1) := by decide +kernel
theorem dX6_fillSixteen_168 : decode cX6_fillSixteen 168 = .ok (.bipush 16, 2) := by decide +kernel
theorem dX6_fillSixteen_170 : decode cX6_fillSixteen 170 = .ok (.iload 7, 2) := by decide +kernel
theorem dX6_fillSixteen_172 : decode cX6_fillSixteen 172 = .ok (.imul, 1) := by decide +kernel
theorem dX6_fillSixteen_173 : decode cX6_fillSixteen 173 = .ok (.iload 6, 2) := by decide +kernel
theorem dX6_fillSixteen_175 : decode cX6_fillSixteen 175 = .ok (.iadd, 1) := by decide +kernel
theorem dX6_fillSixteen_176 : decode cX6_fillSixteen 176 = .ok (.bipush 16, 2) := by decide +kernel
theorem dX6_fillSixteen_178 : decode cX6_fillSixteen 178 = .ok (.invokevirtual 244, 3) := by decide +kernel
theorem dX6_fillSixteen_181 : decode cX6_fillSixteen 181 = .ok (.iinc 5 1, 3) := by decide +kernel
theorem dX6_fillSixteen_184 : decode cX6_fillSixteen 184 = .ok (.goto (-123), 3) := by decide +kernel
theorem dX6_fillSixteen_187 : decode cX6_fillSixteen 187 = .ok (.return_, 1) := by decide +kernel
def FX6_fillSixteen (G : GG) (M : DD) (a : Nat) (p0 : Option Nat) (p1 : Int32) (p2 : Int32) : Option (DD) :=
  bnd (FX9_levelAt G M p1 ((16 : Int32))) fun y1 =>
  bnd (itr (fun (s3 : Int32 × DD) => ((if ((16 : Int32)) ≤ s3.1 then (some (.inr (s3.1, s3.2))) else
  (chk (¬ (s3.1 < 0 ∨ 16 ≤ s3.1.toNatClampNeg)) <|
  ltt ((sT 15).getD s3.1.toNatClampNeg 0) fun x41 =>
  ltt ((((4 : Int32)) * x41)) fun x42 =>
  chk (¬ (s3.1 < 0 ∨ 16 ≤ s3.1.toNatClampNeg)) <|
  ltt ((sT 14).getD s3.1.toNatClampNeg 0) fun x43 =>
  ltt ((x42 + x43)) fun x44 =>
  dr G 9 p0 fun b45 =>
  ltt ((y1.2 + s3.1)) fun x46 =>
  dr G 13 ((s3.2.2 b45 9)) fun b47 =>
  chk (¬ (x46 < 0 ∨ G.2.2 b47 ≤ x46.toNatClampNeg)) <|
  ltt (s3.2.1 b47 x46.toNatClampNeg) fun x48 =>
  dr G 13 ((s3.2.2 a 7)) fun b49 =>
  chk (¬ (x44 < 0 ∨ G.2.2 b49 ≤ x44.toNatClampNeg)) <|
  ltt (uI s3.2 b49 x44.toNatClampNeg x48) fun M50 =>
  ltt (s3.1 + (1 : Int32)) fun x51 =>
  some (.inl (x51, M50)))) : Option ((Int32 × DD) ⊕ (Int32 × DD)))) 1000000 ((0 : Int32), y1.1)) fun (y2 : Int32 × DD) =>
  bnd (FX6_turnEven G y2.2 a) fun y5 =>
  bnd (itr (fun (s7 : Int32 × DD) => ((if ((16 : Int32)) ≤ s7.1 then (some (.inr (s7.1, s7.2))) else
  (bnd (FX9_pieceX G s7.2 s7.1) fun y11 =>
  bnd (FX9_pieceY G y11.1 s7.1) fun y12 =>
  dr G 9 p0 fun b13 =>
  bnd (FX9_levelAt G y12.1 p1 s7.1) fun y14 =>
  bnd (FX6_unfold G y14.1 a ((y12.1.2 b13 9)) y14.2 ((1 : Int32)) p2) fun y15 =>
  ltt (y11.2 / ((4 : Int32))) fun x16 =>
  ltt ((y12.2 + x16)) fun x17 =>
  dr G 13 ((y15.2 a 7)) fun b18 =>
  chk (¬ (x17 < 0 ∨ G.2.2 b18 ≤ x17.toNatClampNeg)) <|
  ltt (y15.1 b18 x17.toNatClampNeg) fun x19 =>
  bnd (FX6_normAt G y15 p2 ((0 : Int32)) ((0 : Int32))) fun y20 =>
  chk (¬ (y20.2 < 0 ∨ 18 ≤ y20.2.toNatClampNeg)) <|
  ltt ((sT 13).getD y20.2.toNatClampNeg 0) fun x21 =>
  ltt ((x19 * x21)) fun x22 =>
  ltt (p2 / ((6 : Int32))) fun x23 =>
  ltt ((x22 <<< (x23 &&& 31))) fun x24 =>
  ltt ((x24 + ((2 : Int32)))) fun x25 =>
  ltt ((x25 >>> (((2 : Int32)) &&& 31))) fun x26 =>
  dr G 13 ((y15.2 a 6)) fun b27 =>
  chk (¬ (((0 : Int32)) < 0 ∨ G.2.2 b27 ≤ ((0 : Int32)).toNatClampNeg)) <|
  ltt (uI y20.1 b27 ((0 : Int32)).toNatClampNeg x26) fun M28 =>
  dr G 4 ((M28.2 b13 0)) fun b29 =>
  dr G 15 ((M28.2 b29 4)) fun b30 =>
  chk (¬ (((0 : Int32)) < 0 ∨ G.2.2 b30 ≤ ((0 : Int32)).toNatClampNeg)) <|
  bnd (FX6_lumaAt G M28 ((M28.2 b13 0)) p1 y11.2 y12.2) fun y31 =>
  dr G 4 ((y31.1.2 b13 0)) fun b32 =>
  ltt (y31.1.1 b32 1) fun x33 =>
  ltt ((((16 : Int32)) * x33)) fun x34 =>
  ltt ((((16 : Int32)) * y12.2)) fun x35 =>
  ltt ((x35 + y11.2)) fun x36 =>
  bnd (FX6_fillPiece G y31.1 a ((M28.2 b30 ((0 : Int32)).toNatClampNeg)) y31.2 x34 x36 ((16 : Int32))) fun y37 =>
  ltt (s7.1 + (1 : Int32)) fun x38 =>
  some (.inl (x38, y37)))) : Option ((Int32 × DD) ⊕ (Int32 × DD)))) 1000000 ((0 : Int32), y5)) fun (y6 : Int32 × DD) =>
  some y6.2
set_option maxHeartbeats 4000000 in
set_option maxRecDepth 100000 in
theorem kX6_fillSixteen (l : Launch) (D : va_G) (ct : CT) (ad : Nat → Nat) (Z : Nat → Nat) (G : GG) (M : DD) (sz : Nat) (a : Nat) (p0 : Option Nat) (p1 : Int32) (p2 : Int32) (y : DD) (hc : a < G.1) (hk : G.2.1 a = 6) (hF : FX6_fillSixteen G M a p0 p1 p2 = some y) : Met l yX6_fillSixteen wuX6_fillSixteen ({ frames := 2, cells := 0, slots := 0, locals := 55 }) (va_Pc [.ref (ad a), va_re ad p0, .int p1, .int p2] (kB D ct ad Z G M sz)) (va_Qv (fun (_ : Unit) => True) (fun _ t => kE D ct ad G (wA ad G sz) y t) (wA ad G sz)) 0 0 (wA ad G sz) := by
  refine Met.ofW (cc := cX6_fillSixteen) (maxL := 8) (ret := none) (by decide) rfl ?_
  intro p e s m args below meth c s₁ B hml hv
  obtain ⟨rfl, hsz, hP, hK, hD0, hZ, hN⟩ := hv
  have hx := B.exec
  have hb := B.bytes
  have hr := B.returns
  have hts := atoms_spec (ws := wuX6_fillSixteen) B.pre
  have hown : s.vm.findClass RX6 = some m.cls := findClass_of_methodNamed B.named
  have hlocks := B.notSynchronized
  subst hsz
  have hD := wD_self (sz := s.heap.size) hD0
  have hA9 : ∀ q, s.heap.size ≤ q → wA ad G s.heap.size q := fun q h => Or.inr h
  generalize hAe : wA ad G s.heap.size = A at hD hA9 hZ ⊢
  have hS : va_S A s.heap s.heap [] := va_S.rf
  have hl := lv_entry ([.ref (ad a), va_re ad p0, .int p1, .int p2]) (n := 8) (by cases p0 <;> exact Nat.le_of_ble_eq_true rfl)
  rw [lg_entry_eq]
  generalize (lg_sl ([.ref (ad a), va_re ad p0, .int p1, .int p2]) ++ List.replicate (8 - (lg_sl ([.ref (ad a), va_re ad p0, .int p1, .int p2])).length) Slot.unset).toArray = ls at hl ⊢
  have hl : lv_has ls 8 [(0, .ref (ad a)), (1, va_re ad p0), (2, .int p1), (3, .int p2)] := by have e9 : lv_args 0 [.ref (ad a), va_re ad p0, .int p1, .int p2] = [(0, .ref (ad a)), (1, va_re ad p0), (2, .int p1), (3, .int p2)] := (by cases p0 <;> rfl); rw [e9] at hl; exact hl
  unfold FX6_fillSixteen at hF
  refine lv_iload_n hx hb dX6_fillSixteen_0 rfl (lv_at hl 2 rfl) ?_
  refine lv_bipush (v := (16 : Int32)) hx hb dX6_fillSixteen_1 (by decide) ?_
  obtain ⟨y1, hy1, hF⟩ := bnd_some hF
  have hf9 := wA_in hD hA9 hS
  refine va_calli (va_runS (As := [.int p1, .int (16 : Int32)]) (rest := []) ⟨hx, hb, hml, hown, hts⟩ (kX9_levelAt l D ct ad Z G M s.heap.size p1 ((16 : Int32)) y1 hy1) (va_cwS 2 hts gX6_fillSixteen_X9_levelAt rfl rfl rfl (by decide +kernel) ⟨Nat.le_of_ble_eq_true rfl, Nat.le_of_ble_eq_true rfl⟩) ⟨fun a U g mk q => by obtain ⟨q0, q1, qP, qK, qD, qZ, qN⟩ := q; exact ⟨q0, q1, qP, va_K.moved (u := U) (U := U.calling g mk a) (Vm.Alike.refl U.vm) qK, qD, sF.moved (u := U) (U := U.calling g mk a) (Vm.Alike.refl U.vm) qZ, nF.same rfl qN⟩, fun U hU hW => ⟨rfl, by rw [hU], by rw [hU]; exact hP, va_K.moved hW.alike hK, hD.weaken (fun _ _ _ _ => trivial), by rw [hU]; exact ((hZ.kept hS.2.1).narrow hf9).moved hW.alike, hN.warm hW⟩⟩ rfl rfl hl.1 rfl (lv_room (Nat.le_of_ble_eq_true rfl)) dX6_fillSixteen_3 ⟨(Nat.zero_le _), (Nat.zero_le _)⟩) hS (fun q _ h => hf9 q h) hf9 (fun r u t H locs ht hvm hw hB hz1 hk1 hS => ?_)
  obtain ⟨hP, hK9, hD9⟩ := hB
  rw [ht] at hP
  try dsimp only at hw
  subst hw
  have hD := hD9.weaken (fun _ q _ h => hf9 q.1 h)
  refine lv_istore (lv' := [(4, .int y1.2), (0, .ref (ad a)), (1, va_re ad p0), (2, .int p1), (3, .int p2)]) hx hb dX6_fillSixteen_6 hl (by decide) rfl (fun ls hl => ?_)
  refine lv_iconst (v := (0 : Int32)) hx hb dX6_fillSixteen_8 (by decide) ?_
  refine lv_istore (lv' := [(5, .int (0 : Int32)), (4, .int y1.2), (0, .ref (ad a)), (1, va_re ad p0), (2, .int p1), (3, .int p2)]) hx hb dX6_fillSixteen_9 hl (by decide) rfl (fun ls hl => ?_)
  obtain ⟨y2, hy2, hF⟩ := bnd_some hF
  have K2 : ∀ (H : Heap) (locs : List Loc) (ls : Array Slot), va_P D classes (wld ct ad G y2.2) H → va_D A (wld ct ad G y2.2) → va_S A s.heap H locs → lv_has ls 8 [(5, .int y2.1), (4, .int y1.2), (0, .ref (ad a)), (1, va_re ad p0), (2, .int p1), (3, .int p2)] → W p l e (headSpec wuX6_fillSixteen ({ frames := 2, cells := 0, slots := 0, locals := 55 })).room s m ([.ref (ad a), va_re ad p0, .int p1, .int p2] : List Value).toArray below meth c H locs 0 0 (MQ below (va_Qv (fun (_ : Unit) => True) (fun _ t => kE D ct ad G A y t) A) ([.ref (ad a), va_re ad p0, .int p1, .int p2] : List Value).toArray s 0 0 A) (F0 m 54 ls []) := by
    intro H locs ls hP hD hS hl
    refine lv_aload_n hx hb dX6_fillSixteen_54 rfl (lv_at hl 2 rfl) ?_
    obtain ⟨y5, hy5, hF⟩ := bnd_some hF
    have hf9 := wA_in hD hA9 hS
    refine va_callv (va_runV (As := []) (rest := []) ⟨hx, hb, hml, hown, hts⟩ (kX6_turnEven l D ct ad Z G y2.2 H.size a y5 hc hk hy5) (cwV 0 hts gX6_fillSixteen_X6_turnEven rfl rfl rfl (by decide +kernel) ⟨Nat.le_of_ble_eq_true rfl, Nat.le_of_ble_eq_true rfl⟩) ⟨fun a U g mk q => by obtain ⟨q0, q1, qP, qK, qD, qZ, qN⟩ := q; exact ⟨q0, q1, qP, va_K.moved (u := U) (U := U.calling g mk a) (Vm.Alike.refl U.vm) qK, qD, sF.moved (u := U) (U := U.calling g mk a) (Vm.Alike.refl U.vm) qZ, nF.same rfl qN⟩, va_recv hK hP (ci := 6) (q0 := a) rfl (wld_o ct ad G y2.2 hc hk (by decide)), fun U hU hW => ⟨rfl, by rw [hU], by rw [hU]; exact hP, va_K.moved hW.alike hK, hD.weaken (fun _ _ _ _ => trivial), by rw [hU]; exact ((hZ.kept hS.2.1).narrow hf9).moved hW.alike, hN.warm hW⟩⟩ rfl rfl hl.1 rfl (lv_room (Nat.le_of_ble_eq_true rfl)) dX6_fillSixteen_55 ⟨(Nat.zero_le _), (Nat.zero_le _)⟩) hS (fun q _ h => hf9 q h) hf9 (fun u t H locs ht hvm hw hB hz1 hk1 hS => ?_)
    obtain ⟨hP, hK9, hD9⟩ := hB
    rw [ht] at hP
    have hD := hD9.weaken (fun _ q _ h => hf9 q.1 h)
    refine lv_iconst (v := (0 : Int32)) hx hb dX6_fillSixteen_58 (by decide) ?_
    refine lv_istore (lv' := [(5, .int (0 : Int32)), (4, .int y1.2), (0, .ref (ad a)), (1, va_re ad p0), (2, .int p1), (3, .int p2)]) hx hb dX6_fillSixteen_59 hl (by decide) rfl (fun ls hl => ?_)
    obtain ⟨y6, hy6, hF⟩ := bnd_some hF
    have K6 : ∀ (H : Heap) (locs : List Loc) (ls : Array Slot), va_P D classes (wld ct ad G y6.2) H → va_D A (wld ct ad G y6.2) → va_S A s.heap H locs → lv_has ls 8 [(5, .int y6.1), (4, .int y1.2), (0, .ref (ad a)), (1, va_re ad p0), (2, .int p1), (3, .int p2)] → W p l e (headSpec wuX6_fillSixteen ({ frames := 2, cells := 0, slots := 0, locals := 55 })).room s m ([.ref (ad a), va_re ad p0, .int p1, .int p2] : List Value).toArray below meth c H locs 0 0 (MQ below (va_Qv (fun (_ : Unit) => True) (fun _ t => kE D ct ad G A y t) A) ([.ref (ad a), va_re ad p0, .int p1, .int p2] : List Value).toArray s 0 0 A) (F0 m 187 ls []) := by
      intro H locs ls hP hD hS hl
      obtain rfl := Option.some.inj hF
      exact W.vret hx hb hr (fun t ht hW => ⟨⟨(), rfl, trivial, ⟨by rw [ht]; exact hP, va_K.moved hW.alike hK, hD⟩⟩, hS.F ht⟩) hS.2.2 dX6_fillSixteen_187
    clear hF
    refine itr_rule (fun (s7 : Int32 × DD) => ∀ (H : Heap) (locs : List Loc) (ls : Array Slot), va_P D classes (wld ct ad G s7.2) H → va_D A (wld ct ad G s7.2) → va_S A s.heap H locs → lv_has ls 8 [(5, .int s7.1), (4, .int y1.2), (0, .ref (ad a)), (1, va_re ad p0), (2, .int p1), (3, .int p2)] → W p l e (headSpec wuX6_fillSixteen ({ frames := 2, cells := 0, slots := 0, locals := 55 })).room s m ([.ref (ad a), va_re ad p0, .int p1, .int p2] : List Value).toArray below meth c H locs 0 0 (MQ below (va_Qv (fun (_ : Unit) => True) (fun _ t => kE D ct ad G A y t) A) ([.ref (ad a), va_re ad p0, .int p1, .int p2] : List Value).toArray s 0 0 A) (F0 m 61 ls [])) ?_ _ _ hy6 _ _ _ hP hD hS (lv_sub hl [0, 1, 2, 3, 4, 5] rfl)
    rintro s7 ⟨z9, hF, hwz9⟩ H locs ls hP hD hS hl
    try dsimp only at hF
    refine lv_iload hx hb dX6_fillSixteen_61 (lv_at hl 0 rfl) ?_
    refine lv_bipush (v := (16 : Int32)) hx hb dX6_fillSixteen_63 (by decide) ?_
    refine lv_icmp_ge (tgt := 187) hx hb dX6_fillSixteen_65 (by decide) (fun c10 => ?_) (fun c10 => ?_)
    · rw [if_pos c10] at hF
      obtain rfl := Option.some.inj hF
      subst hwz9
      exact K6 _ _ _ hP hD hS (lv_sub hl [0, 1, 2, 3, 4, 5] rfl)
    · rw [if_neg c10] at hF
      refine lv_iload hx hb dX6_fillSixteen_68 (lv_at hl 0 rfl) ?_
      obtain ⟨y11, hy11, hF⟩ := bnd_some hF
      have hf9 := wA_in hD hA9 hS
      refine va_calli (va_runS (As := [.int s7.1]) (rest := []) ⟨hx, hb, hml, hown, hts⟩ (kX9_pieceX l D ct ad Z G s7.2 H.size s7.1 y11 hy11) (va_cwS 1 hts gX6_fillSixteen_X9_pieceX rfl rfl rfl (by decide +kernel) ⟨Nat.le_of_ble_eq_true rfl, Nat.le_of_ble_eq_true rfl⟩) ⟨fun a U g mk q => by obtain ⟨q0, q1, qP, qK, qD, qZ, qN⟩ := q; exact ⟨q0, q1, qP, va_K.moved (u := U) (U := U.calling g mk a) (Vm.Alike.refl U.vm) qK, qD, sF.moved (u := U) (U := U.calling g mk a) (Vm.Alike.refl U.vm) qZ, nF.same rfl qN⟩, fun U hU hW => ⟨rfl, by rw [hU], by rw [hU]; exact hP, va_K.moved hW.alike hK, hD.weaken (fun _ _ _ _ => trivial), by rw [hU]; exact ((hZ.kept hS.2.1).narrow hf9).moved hW.alike, hN.warm hW⟩⟩ rfl rfl hl.1 rfl (lv_room (Nat.le_of_ble_eq_true rfl)) dX6_fillSixteen_70 ⟨(Nat.zero_le _), (Nat.zero_le _)⟩) hS (fun q _ h => hf9 q h) hf9 (fun r u t H locs ht hvm hw hB hz1 hk1 hS => ?_)
      obtain ⟨hP, hK9, hD9⟩ := hB
      rw [ht] at hP
      try dsimp only at hw
      subst hw
      have hD := hD9.weaken (fun _ q _ h => hf9 q.1 h)
      refine lv_istore (lv' := [(6, .int y11.2), (5, .int s7.1), (4, .int y1.2), (0, .ref (ad a)), (1, va_re ad p0), (2, .int p1), (3, .int p2)]) hx hb dX6_fillSixteen_73 hl (by decide) rfl (fun ls hl => ?_)
      refine lv_iload hx hb dX6_fillSixteen_75 (lv_at hl 1 rfl) ?_
      obtain ⟨y12, hy12, hF⟩ := bnd_some hF
      have hf9 := wA_in hD hA9 hS
      refine va_calli (va_runS (As := [.int s7.1]) (rest := []) ⟨hx, hb, hml, hown, hts⟩ (kX9_pieceY l D ct ad Z G y11.1 H.size s7.1 y12 hy12) (va_cwS 1 hts gX6_fillSixteen_X9_pieceY rfl rfl rfl (by decide +kernel) ⟨Nat.le_of_ble_eq_true rfl, Nat.le_of_ble_eq_true rfl⟩) ⟨fun a U g mk q => by obtain ⟨q0, q1, qP, qK, qD, qZ, qN⟩ := q; exact ⟨q0, q1, qP, va_K.moved (u := U) (U := U.calling g mk a) (Vm.Alike.refl U.vm) qK, qD, sF.moved (u := U) (U := U.calling g mk a) (Vm.Alike.refl U.vm) qZ, nF.same rfl qN⟩, fun U hU hW => ⟨rfl, by rw [hU], by rw [hU]; exact hP, va_K.moved hW.alike hK, hD.weaken (fun _ _ _ _ => trivial), by rw [hU]; exact ((hZ.kept hS.2.1).narrow hf9).moved hW.alike, hN.warm hW⟩⟩ rfl rfl hl.1 rfl (lv_room (Nat.le_of_ble_eq_true rfl)) dX6_fillSixteen_77 ⟨(Nat.zero_le _), (Nat.zero_le _)⟩) hS (fun q _ h => hf9 q h) hf9 (fun r u t H locs ht hvm hw hB hz1 hk1 hS => ?_)
      obtain ⟨hP, hK9, hD9⟩ := hB
      rw [ht] at hP
      try dsimp only at hw
      subst hw
      have hD := hD9.weaken (fun _ q _ h => hf9 q.1 h)
      refine lv_istore (lv' := [(7, .int y12.2), (6, .int y11.2), (5, .int s7.1), (4, .int y1.2), (0, .ref (ad a)), (1, va_re ad p0), (2, .int p1), (3, .int p2)]) hx hb dX6_fillSixteen_80 hl (by decide) rfl (fun ls hl => ?_)
      refine lv_aload_n hx hb dX6_fillSixteen_82 rfl (lv_at hl 4 rfl) ?_
      refine lv_aloadq_n hx hb dX6_fillSixteen_83 rfl (lv_at hl 5 rfl) ?_
      obtain ⟨b13, ho13, hc13, hk13, hF⟩ := dr_some hF
      refine W_st (st' := [.ref (ad b13), .ref (ad a)]) (by rw [va_some ho13]) ?_
      refine va_get (D := D) (ci := 9) (v := va_re ad (y12.1.2 b13 9)) (C := RX9) (T := TX9) (N := 20) hx hb hts (mus hf_X9) hown hK hP b13 (wld_o ct ad G y12.1 hc13 hk13 (by decide)) rfl 9 (by decide) (hts (.fieldLink RX6 234 "VideoSuite$Work" "level" "[I") (mu mw_456)) (fun _ h9 => h9) rfl dX6_fillSixteen_84 ?_
      refine lv_iload_n hx hb dX6_fillSixteen_87 rfl (lv_at hl 6 rfl) ?_
      refine lv_iload hx hb dX6_fillSixteen_88 (lv_at hl 2 rfl) ?_
      obtain ⟨y14, hy14, hF⟩ := bnd_some hF
      have hf9 := wA_in hD hA9 hS
      refine va_calli (va_runS (As := [.int p1, .int s7.1]) (rest := [va_re ad (y12.1.2 b13 9), .ref (ad a)]) ⟨hx, hb, hml, hown, hts⟩ (kX9_levelAt l D ct ad Z G y12.1 H.size p1 s7.1 y14 hy14) (va_cwS 2 hts gX6_fillSixteen_X9_levelAt rfl rfl rfl (by decide +kernel) ⟨Nat.le_of_ble_eq_true rfl, Nat.le_of_ble_eq_true rfl⟩) ⟨fun a U g mk q => by obtain ⟨q0, q1, qP, qK, qD, qZ, qN⟩ := q; exact ⟨q0, q1, qP, va_K.moved (u := U) (U := U.calling g mk a) (Vm.Alike.refl U.vm) qK, qD, sF.moved (u := U) (U := U.calling g mk a) (Vm.Alike.refl U.vm) qZ, nF.same rfl qN⟩, fun U hU hW => ⟨rfl, by rw [hU], by rw [hU]; exact hP, va_K.moved hW.alike hK, hD.weaken (fun _ _ _ _ => trivial), by rw [hU]; exact ((hZ.kept hS.2.1).narrow hf9).moved hW.alike, hN.warm hW⟩⟩ rfl rfl hl.1 rfl (lv_room (by simp only [List.map, va_re_cat]; exact Nat.le_of_ble_eq_true rfl)) dX6_fillSixteen_90 ⟨(Nat.zero_le _), (Nat.zero_le _)⟩) hS (fun q _ h => hf9 q h) hf9 (fun r u t H locs ht hvm hw hB hz1 hk1 hS => ?_)
      obtain ⟨hP, hK9, hD9⟩ := hB
      rw [ht] at hP
      try dsimp only at hw
      subst hw
      have hD := hD9.weaken (fun _ q _ h => hf9 q.1 h)
      refine lv_iconst (v := (1 : Int32)) hx hb dX6_fillSixteen_93 (by decide) ?_
      refine lv_iload_n hx hb dX6_fillSixteen_94 rfl (lv_at hl 7 rfl) ?_
      obtain ⟨y15, hy15, hF⟩ := bnd_some hF
      have hf9 := wA_in hD hA9 hS
      refine va_callv (va_runV (As := [va_re ad (y12.1.2 b13 9), .int y14.2, .int (1 : Int32), .int p2]) (rest := []) ⟨hx, hb, hml, hown, hts⟩ (kX6_unfold l D ct ad Z G y14.1 H.size a ((y12.1.2 b13 9)) y14.2 ((1 : Int32)) p2 y15 hc hk hy15) (cwV 4 hts gX6_fillSixteen_X6_unfold rfl rfl rfl (by decide +kernel) ⟨Nat.le_of_ble_eq_true rfl, Nat.le_of_ble_eq_true rfl⟩) ⟨fun a U g mk q => by obtain ⟨q0, q1, qP, qK, qD, qZ, qN⟩ := q; exact ⟨q0, q1, qP, va_K.moved (u := U) (U := U.calling g mk a) (Vm.Alike.refl U.vm) qK, qD, sF.moved (u := U) (U := U.calling g mk a) (Vm.Alike.refl U.vm) qZ, nF.same rfl qN⟩, va_recv hK hP (ci := 6) (q0 := a) rfl (wld_o ct ad G y14.1 hc hk (by decide)), fun U hU hW => ⟨rfl, by rw [hU], by rw [hU]; exact hP, va_K.moved hW.alike hK, hD.weaken (fun _ _ _ _ => trivial), by rw [hU]; exact ((hZ.kept hS.2.1).narrow hf9).moved hW.alike, hN.warm hW⟩⟩ rfl rfl hl.1 rfl (lv_room (Nat.le_of_ble_eq_true rfl)) dX6_fillSixteen_95 ⟨(Nat.zero_le _), (Nat.zero_le _)⟩) hS (fun q _ h => hf9 q h) hf9 (fun u t H locs ht hvm hw hB hz1 hk1 hS => ?_)
      obtain ⟨hP, hK9, hD9⟩ := hB
      rw [ht] at hP
      have hD := hD9.weaken (fun _ q _ h => hf9 q.1 h)
      refine lv_aload_n hx hb dX6_fillSixteen_98 rfl (lv_at hl 4 rfl) ?_
      refine va_get (D := D) (ci := 6) (v := va_re ad (y15.2 a 6)) (C := RX6) (T := TX6) (N := 14) hx hb hts (mus hf_X6) hown hK hP a (wld_o ct ad G y15 hc hk (by decide)) rfl 6 (by decide) (hts (.fieldLink RX6 30 "VideoSuite$Samples" "rest" "[I") (mu mw_542)) (fun _ h9 => h9) rfl dX6_fillSixteen_99 ?_
      refine lv_iconst (v := (0 : Int32)) hx hb dX6_fillSixteen_102 (by decide) ?_
      refine lv_aload_n hx hb dX6_fillSixteen_103 rfl (lv_at hl 4 rfl) ?_
      refine va_get (D := D) (ci := 6) (v := va_re ad (y15.2 a 7)) (C := RX6) (T := TX6) (N := 14) hx hb hts (mus hf_X6) hown hK hP a (wld_o ct ad G y15 hc hk (by decide)) rfl 7 (by decide) (hts (.fieldLink RX6 33 "VideoSuite$Samples" "even" "[I") (mu mw_543)) (fun _ h9 => h9) rfl dX6_fillSixteen_104 ?_
      refine lv_iload hx hb dX6_fillSixteen_107 (lv_at hl 0 rfl) ?_
      refine lv_iload hx hb dX6_fillSixteen_109 (lv_at hl 1 rfl) ?_
      refine lv_iconst (v := (4 : Int32)) hx hb dX6_fillSixteen_111 (by decide) ?_
      refine lv_idiv hx hb dX6_fillSixteen_112 (by decide) ?_
      obtain ⟨x16, ex16, hF⟩ := ltt_some hF
      refine lv_topi (fun zx16 ezx16 => ?_)
      obtain rfl : x16 = zx16 := ex16.trans ezx16.symm
      refine lv_iadd hx hb dX6_fillSixteen_113 ?_
      obtain ⟨x17, ex17, hF⟩ := ltt_some hF
      refine lv_topi (fun zx17 ezx17 => ?_)
      obtain rfl : x17 = zx17 := ex17.trans ezx17.symm
      obtain ⟨b18, ho18, hc18, hk18, hF⟩ := dr_some hF
      refine W_st (st' := [.int x17, .ref (ad b18), .int (0 : Int32), va_re ad (y15.2 a 6)]) (by rw [va_some ho18]) ?_
      obtain ⟨hvc, hF⟩ := chk_some hF
      refine va_iald hx hb hK hP b18 1 (wld_i ct ad G y15 hc18 hk18) rfl hvc dX6_fillSixteen_114 ?_
      obtain ⟨x19, ex19, hF⟩ := ltt_some hF
      refine lv_topi (fun zx19 ezx19 => ?_)
      obtain rfl : x19 = zx19 := ex19.trans ezx19.symm
      refine va_gets hx hb (hZ.1 13 (by decide)).1 hS hown (hts (.fieldLink RX6 224 "VideoSuite$Samples" "NORM" "[I") (mu mw_2094)) (fun _ h => h) dX6_fillSixteen_115 ?_
      refine lv_iload_n hx hb dX6_fillSixteen_118 rfl (lv_at hl 7 rfl) ?_
      refine lv_iconst (v := (0 : Int32)) hx hb dX6_fillSixteen_119 (by decide) ?_
      refine lv_iconst (v := (0 : Int32)) hx hb dX6_fillSixteen_120 (by decide) ?_
      obtain ⟨y20, hy20, hF⟩ := bnd_some hF
      have hf9 := wA_in hD hA9 hS
      refine va_calli (va_runS (As := [.int p2, .int (0 : Int32), .int (0 : Int32)]) (rest := [.ref (Z 13), .int x19, .int (0 : Int32), va_re ad (y15.2 a 6)]) ⟨hx, hb, hml, hown, hts⟩ (kX6_normAt l D ct ad Z G y15 H.size p2 ((0 : Int32)) ((0 : Int32)) y20 hy20) (va_cwS 3 hts gX6_fillSixteen_X6_normAt rfl rfl rfl (by decide +kernel) ⟨Nat.le_of_ble_eq_true rfl, Nat.le_of_ble_eq_true rfl⟩) ⟨fun a U g mk q => by obtain ⟨q0, q1, qP, qK, qD, qZ, qN⟩ := q; exact ⟨q0, q1, qP, va_K.moved (u := U) (U := U.calling g mk a) (Vm.Alike.refl U.vm) qK, qD, sF.moved (u := U) (U := U.calling g mk a) (Vm.Alike.refl U.vm) qZ, nF.same rfl qN⟩, fun U hU hW => ⟨rfl, by rw [hU], by rw [hU]; exact hP, va_K.moved hW.alike hK, hD.weaken (fun _ _ _ _ => trivial), by rw [hU]; exact ((hZ.kept hS.2.1).narrow hf9).moved hW.alike, hN.warm hW⟩⟩ rfl rfl hl.1 rfl (lv_room (by simp only [List.map, va_re_cat]; exact Nat.le_of_ble_eq_true rfl)) dX6_fillSixteen_121 ⟨(Nat.zero_le _), (Nat.zero_le _)⟩) hS (fun q _ h => hf9 q h) hf9 (fun r u t H locs ht hvm hw hB hz1 hk1 hS => ?_)
      obtain ⟨hP, hK9, hD9⟩ := hB
      rw [ht] at hP
      try dsimp only at hw
      subst hw
      have hD := hD9.weaken (fun _ q _ h => hf9 q.1 h)
      obtain ⟨hvc, hF⟩ := chk_some hF
      refine va_ti (v := .int ((sT 13).getD y20.2.toNatClampNeg 0)) hx hb (hZ.1 13 (by decide)).2 hS hvc rfl dX6_fillSixteen_124 ?_
      obtain ⟨x21, ex21, hF⟩ := ltt_some hF
      refine lv_topi (fun zx21 ezx21 => ?_)
      obtain rfl : x21 = zx21 := ex21.trans ezx21.symm
      refine lv_imul hx hb dX6_fillSixteen_125 ?_
      obtain ⟨x22, ex22, hF⟩ := ltt_some hF
      refine lv_topi (fun zx22 ezx22 => ?_)
      obtain rfl : x22 = zx22 := ex22.trans ezx22.symm
      refine lv_iload_n hx hb dX6_fillSixteen_126 rfl (lv_at hl 7 rfl) ?_
      refine lv_bipush (v := (6 : Int32)) hx hb dX6_fillSixteen_127 (by decide) ?_
      refine lv_idiv hx hb dX6_fillSixteen_129 (by decide) ?_
      obtain ⟨x23, ex23, hF⟩ := ltt_some hF
      refine lv_topi (fun zx23 ezx23 => ?_)
      obtain rfl : x23 = zx23 := ex23.trans ezx23.symm
      refine lv_ishl hx hb dX6_fillSixteen_130 ?_
      obtain ⟨x24, ex24, hF⟩ := ltt_some hF
      refine lv_topi (fun zx24 ezx24 => ?_)
      obtain rfl : x24 = zx24 := ex24.trans ezx24.symm
      refine lv_iconst (v := (2 : Int32)) hx hb dX6_fillSixteen_131 (by decide) ?_
      refine lv_iadd hx hb dX6_fillSixteen_132 ?_
      obtain ⟨x25, ex25, hF⟩ := ltt_some hF
      refine lv_topi (fun zx25 ezx25 => ?_)
      obtain rfl : x25 = zx25 := ex25.trans ezx25.symm
      refine lv_iconst (v := (2 : Int32)) hx hb dX6_fillSixteen_133 (by decide) ?_
      refine lv_ishr hx hb dX6_fillSixteen_134 ?_
      obtain ⟨x26, ex26, hF⟩ := ltt_some hF
      refine lv_topi (fun zx26 ezx26 => ?_)
      obtain rfl : x26 = zx26 := ex26.trans ezx26.symm
      obtain ⟨b27, ho27, hc27, hk27, hF⟩ := dr_some hF
      refine W_st (st' := [.int x26, .int (0 : Int32), .ref (ad b27)]) (by rw [va_some ho27]) ?_
      obtain ⟨hvc, hF⟩ := chk_some hF
      refine va_iast hx hb hK hP hD hS b27 1 (wld_i ct ad G y20.1 hc27 hk27) rfl hvc dX6_fillSixteen_135 (fun H locs hP hD hS => ?_)
      obtain ⟨M28, eM28, hF⟩ := ltt_some hF
      rw [set_i ct ad G y20.1 hc27 hk27, ← eM28] at hP hD
      refine lv_aload_n hx hb dX6_fillSixteen_136 rfl (lv_at hl 4 rfl) ?_
      refine lv_aloadq_n hx hb dX6_fillSixteen_137 rfl (lv_at hl 5 rfl) ?_
      refine W_st (st' := [.ref (ad b13), .ref (ad a)]) (by rw [va_some ho13]) ?_
      refine va_get (D := D) (ci := 9) (v := va_re ad (M28.2 b13 0)) (C := RX9) (T := TX9) (N := 20) hx hb hts (mus hf_X9) hown hK hP b13 (wld_o ct ad G M28 hc13 hk13 (by decide)) rfl 0 (by decide) (hts (.fieldLink RX6 46 "VideoSuite$Work" "pic" "LVideoSuite$Picture;") (mu mw_421)) (fun _ h9 => h9) rfl dX6_fillSixteen_138 ?_
      obtain ⟨b29, ho29, hc29, hk29, hF⟩ := dr_some hF
      refine W_st (st' := [.ref (ad b29), .ref (ad a)]) (by rw [va_some ho29]) ?_
      refine va_get (D := D) (ci := 4) (v := va_re ad (M28.2 b29 4)) (C := RX4) (T := TX4) (N := 18) hx hb hts (mus hf_X4) hown hK hP b29 (wld_o ct ad G M28 hc29 hk29 (by decide)) rfl 4 (by decide) (hts (.fieldLink RX6 121 "VideoSuite$Picture" "plane" "[[I") (mu mw_1433)) (fun _ h9 => h9) rfl dX6_fillSixteen_141 ?_
      refine lv_iconst (v := (0 : Int32)) hx hb dX6_fillSixteen_144 (by decide) ?_
      obtain ⟨b30, ho30, hc30, hk30, hF⟩ := dr_some hF
      refine W_st (st' := [.int (0 : Int32), .ref (ad b30), .ref (ad a)]) (by rw [va_some ho30]) ?_
      obtain ⟨hvc, hF⟩ := chk_some hF
      refine ld_g hx hb hK hP hc30 hk30 hvc dX6_fillSixteen_145 ?_
      refine lv_aloadq_n hx hb dX6_fillSixteen_146 rfl (lv_at hl 5 rfl) ?_
      refine W_st (st' := [.ref (ad b13), va_re ad (M28.2 b30 ((0 : Int32)).toNatClampNeg), .ref (ad a)]) (by rw [va_some ho13]) ?_
      refine va_get (D := D) (ci := 9) (v := va_re ad (M28.2 b13 0)) (C := RX9) (T := TX9) (N := 20) hx hb hts (mus hf_X9) hown hK hP b13 (wld_o ct ad G M28 hc13 hk13 (by decide)) rfl 0 (by decide) (hts (.fieldLink RX6 46 "VideoSuite$Work" "pic" "LVideoSuite$Picture;") (mu mw_421)) (fun _ h9 => h9) rfl dX6_fillSixteen_147 ?_
      refine lv_iload_n hx hb dX6_fillSixteen_150 rfl (lv_at hl 6 rfl) ?_
      refine lv_iload hx hb dX6_fillSixteen_151 (lv_at hl 1 rfl) ?_
      refine lv_iload hx hb dX6_fillSixteen_153 (lv_at hl 0 rfl) ?_
      obtain ⟨y31, hy31, hF⟩ := bnd_some hF
      have hf9 := wA_in hD hA9 hS
      refine va_calli (va_runS (As := [va_re ad (M28.2 b13 0), .int p1, .int y11.2, .int y12.2]) (rest := [va_re ad (M28.2 b30 ((0 : Int32)).toNatClampNeg), .ref (ad a)]) ⟨hx, hb, hml, hown, hts⟩ (kX6_lumaAt l D ct ad Z G M28 H.size ((M28.2 b13 0)) p1 y11.2 y12.2 y31 hy31) (va_cwS 4 hts gX6_fillSixteen_X6_lumaAt rfl rfl rfl (by decide +kernel) ⟨Nat.le_of_ble_eq_true rfl, Nat.le_of_ble_eq_true rfl⟩) ⟨fun a U g mk q => by obtain ⟨q0, q1, qP, qK, qD, qZ, qN⟩ := q; exact ⟨q0, q1, qP, va_K.moved (u := U) (U := U.calling g mk a) (Vm.Alike.refl U.vm) qK, qD, sF.moved (u := U) (U := U.calling g mk a) (Vm.Alike.refl U.vm) qZ, nF.same rfl qN⟩, fun U hU hW => ⟨rfl, by rw [hU], by rw [hU]; exact hP, va_K.moved hW.alike hK, hD.weaken (fun _ _ _ _ => trivial), by rw [hU]; exact ((hZ.kept hS.2.1).narrow hf9).moved hW.alike, hN.warm hW⟩⟩ rfl rfl hl.1 rfl (lv_room (by simp only [List.map, va_re_cat]; exact Nat.le_of_ble_eq_true rfl)) dX6_fillSixteen_155 ⟨(Nat.zero_le _), (Nat.zero_le _)⟩) hS (fun q _ h => hf9 q h) hf9 (fun r u t H locs ht hvm hw hB hz1 hk1 hS => ?_)
      obtain ⟨hP, hK9, hD9⟩ := hB
      rw [ht] at hP
      try dsimp only at hw
      subst hw
      have hD := hD9.weaken (fun _ q _ h => hf9 q.1 h)
      refine lv_bipush (v := (16 : Int32)) hx hb dX6_fillSixteen_158 (by decide) ?_
      refine lv_aloadq_n hx hb dX6_fillSixteen_160 rfl (lv_at hl 5 rfl) ?_
      refine W_st (st' := [.ref (ad b13), .int (16 : Int32), .int y31.2, va_re ad (M28.2 b30 ((0 : Int32)).toNatClampNeg), .ref (ad a)]) (by rw [va_some ho13]) ?_
      refine va_get (D := D) (ci := 9) (v := va_re ad (y31.1.2 b13 0)) (C := RX9) (T := TX9) (N := 20) hx hb hts (mus hf_X9) hown hK hP b13 (wld_o ct ad G y31.1 hc13 hk13 (by decide)) rfl 0 (by decide) (hts (.fieldLink RX6 46 "VideoSuite$Work" "pic" "LVideoSuite$Picture;") (mu mw_421)) (fun _ h9 => h9) rfl dX6_fillSixteen_161 ?_
      obtain ⟨b32, ho32, hc32, hk32, hF⟩ := dr_some hF
      refine W_st (st' := [.ref (ad b32), .int (16 : Int32), .int y31.2, va_re ad (M28.2 b30 ((0 : Int32)).toNatClampNeg), .ref (ad a)]) (by rw [va_some ho32]) ?_
      refine va_get (D := D) (ci := 4) (v := .int (y31.1.1 b32 1)) (C := RX4) (T := TX4) (N := 18) hx hb hts (mus hf_X4) hown hK hP b32 (wld_o ct ad G y31.1 hc32 hk32 (by decide)) rfl 1 (by decide) (hts (.fieldLink RX6 83 "VideoSuite$Picture" "width" "I") (mu mw_1422)) (fun _ h9 => h9) rfl dX6_fillSixteen_164 ?_
      obtain ⟨x33, ex33, hF⟩ := ltt_some hF
      refine lv_topi (fun zx33 ezx33 => ?_)
      obtain rfl : x33 = zx33 := ex33.trans ezx33.symm
      refine lv_imul hx hb dX6_fillSixteen_167 ?_
      obtain ⟨x34, ex34, hF⟩ := ltt_some hF
      refine lv_topi (fun zx34 ezx34 => ?_)
      obtain rfl : x34 = zx34 := ex34.trans ezx34.symm
      refine lv_bipush (v := (16 : Int32)) hx hb dX6_fillSixteen_168 (by decide) ?_
      refine lv_iload hx hb dX6_fillSixteen_170 (lv_at hl 0 rfl) ?_
      refine lv_imul hx hb dX6_fillSixteen_172 ?_
      obtain ⟨x35, ex35, hF⟩ := ltt_some hF
      refine lv_topi (fun zx35 ezx35 => ?_)
      obtain rfl : x35 = zx35 := ex35.trans ezx35.symm
      refine lv_iload hx hb dX6_fillSixteen_173 (lv_at hl 1 rfl) ?_
      refine lv_iadd hx hb dX6_fillSixteen_175 ?_
      obtain ⟨x36, ex36, hF⟩ := ltt_some hF
      refine lv_topi (fun zx36 ezx36 => ?_)
      obtain rfl : x36 = zx36 := ex36.trans ezx36.symm
      refine lv_bipush (v := (16 : Int32)) hx hb dX6_fillSixteen_176 (by decide) ?_
      obtain ⟨y37, hy37, hF⟩ := bnd_some hF
      have hf9 := wA_in hD hA9 hS
      refine va_callv (va_runV (As := [va_re ad (M28.2 b30 ((0 : Int32)).toNatClampNeg), .int y31.2, .int x34, .int x36, .int (16 : Int32)]) (rest := []) ⟨hx, hb, hml, hown, hts⟩ (kX6_fillPiece l D ct ad Z G y31.1 H.size a ((M28.2 b30 ((0 : Int32)).toNatClampNeg)) y31.2 x34 x36 ((16 : Int32)) y37 hc hk hy37) (cwV 5 hts gX6_fillSixteen_X6_fillPiece rfl rfl rfl (by decide +kernel) ⟨Nat.le_of_ble_eq_true rfl, Nat.le_of_ble_eq_true rfl⟩) ⟨fun a U g mk q => by obtain ⟨q0, q1, qP, qK, qD, qZ, qN⟩ := q; exact ⟨q0, q1, qP, va_K.moved (u := U) (U := U.calling g mk a) (Vm.Alike.refl U.vm) qK, qD, sF.moved (u := U) (U := U.calling g mk a) (Vm.Alike.refl U.vm) qZ, nF.same rfl qN⟩, va_recv hK hP (ci := 6) (q0 := a) rfl (wld_o ct ad G y31.1 hc hk (by decide)), fun U hU hW => ⟨rfl, by rw [hU], by rw [hU]; exact hP, va_K.moved hW.alike hK, hD.weaken (fun _ _ _ _ => trivial), by rw [hU]; exact ((hZ.kept hS.2.1).narrow hf9).moved hW.alike, hN.warm hW⟩⟩ rfl rfl hl.1 rfl (lv_room (Nat.le_of_ble_eq_true rfl)) dX6_fillSixteen_178 ⟨(Nat.zero_le _), (Nat.zero_le _)⟩) hS (fun q _ h => hf9 q h) hf9 (fun u t H locs ht hvm hw hB hz1 hk1 hS => ?_)
      obtain ⟨hP, hK9, hD9⟩ := hB
      rw [ht] at hP
      have hD := hD9.weaken (fun _ q _ h => hf9 q.1 h)
      obtain ⟨x38, ex38, hF⟩ := ltt_some hF
      refine lv_iinc (v := x38) (lv' := [(5, .int x38), (7, .int y12.2), (6, .int y11.2), (4, .int y1.2), (0, .ref (ad a)), (1, va_re ad p0), (2, .int p1), (3, .int p2)]) hx hb dX6_fillSixteen_181 hl (k := 2) rfl (by rw [ex38]; rfl) (by decide) rfl (fun ls hl => ?_)
      refine lv_goto (tgt := 61) hx hb dX6_fillSixteen_184 (by decide) ?_
      obtain rfl := Option.some.inj hF
      exact hwz9 _ _ _ hP hD hS (lv_sub hl [0, 3, 4, 5, 6, 7] rfl)
  clear hF
  refine itr_rule (fun (s3 : Int32 × DD) => ∀ (H : Heap) (locs : List Loc) (ls : Array Slot), va_P D classes (wld ct ad G s3.2) H → va_D A (wld ct ad G s3.2) → va_S A s.heap H locs → lv_has ls 8 [(5, .int s3.1), (4, .int y1.2), (0, .ref (ad a)), (1, va_re ad p0), (2, .int p1), (3, .int p2)] → W p l e (headSpec wuX6_fillSixteen ({ frames := 2, cells := 0, slots := 0, locals := 55 })).room s m ([.ref (ad a), va_re ad p0, .int p1, .int p2] : List Value).toArray below meth c H locs 0 0 (MQ below (va_Qv (fun (_ : Unit) => True) (fun _ t => kE D ct ad G A y t) A) ([.ref (ad a), va_re ad p0, .int p1, .int p2] : List Value).toArray s 0 0 A) (F0 m 11 ls [])) ?_ _ _ hy2 _ _ _ hP hD hS (lv_sub hl [0, 1, 2, 3, 4, 5] rfl)
  rintro s3 ⟨z39, hF, hwz39⟩ H locs ls hP hD hS hl
  try dsimp only at hF
  refine lv_iload hx hb dX6_fillSixteen_11 (lv_at hl 0 rfl) ?_
  refine lv_bipush (v := (16 : Int32)) hx hb dX6_fillSixteen_13 (by decide) ?_
  refine lv_icmp_ge (tgt := 54) hx hb dX6_fillSixteen_15 (by decide) (fun c40 => ?_) (fun c40 => ?_)
  · rw [if_pos c40] at hF
    obtain rfl := Option.some.inj hF
    subst hwz39
    exact K2 _ _ _ hP hD hS (lv_sub hl [0, 1, 2, 3, 4, 5] rfl)
  · rw [if_neg c40] at hF
    refine lv_aload_n hx hb dX6_fillSixteen_18 rfl (lv_at hl 2 rfl) ?_
    refine va_get (D := D) (ci := 6) (v := va_re ad (s3.2.2 a 7)) (C := RX6) (T := TX6) (N := 14) hx hb hts (mus hf_X6) hown hK hP a (wld_o ct ad G s3.2 hc hk (by decide)) rfl 7 (by decide) (hts (.fieldLink RX6 33 "VideoSuite$Samples" "even" "[I") (mu mw_543)) (fun _ h9 => h9) rfl dX6_fillSixteen_19 ?_
    refine lv_iconst (v := (4 : Int32)) hx hb dX6_fillSixteen_22 (by decide) ?_
    refine va_gets hx hb (hZ.1 15 (by decide)).1 hS hown (hts (.fieldLink RX6 221 "VideoSuite$Samples" "SCAN_Y" "[I") (mu mw_2081)) (fun _ h => h) dX6_fillSixteen_23 ?_
    refine lv_iload hx hb dX6_fillSixteen_26 (lv_at hl 0 rfl) ?_
    obtain ⟨hvc, hF⟩ := chk_some hF
    refine va_ti (v := .int ((sT 15).getD s3.1.toNatClampNeg 0)) hx hb (hZ.1 15 (by decide)).2 hS hvc rfl dX6_fillSixteen_28 ?_
    obtain ⟨x41, ex41, hF⟩ := ltt_some hF
    refine lv_topi (fun zx41 ezx41 => ?_)
    obtain rfl : x41 = zx41 := ex41.trans ezx41.symm
    refine lv_imul hx hb dX6_fillSixteen_29 ?_
    obtain ⟨x42, ex42, hF⟩ := ltt_some hF
    refine lv_topi (fun zx42 ezx42 => ?_)
    obtain rfl : x42 = zx42 := ex42.trans ezx42.symm
    refine va_gets hx hb (hZ.1 14 (by decide)).1 hS hown (hts (.fieldLink RX6 218 "VideoSuite$Samples" "SCAN_X" "[I") (mu mw_2083)) (fun _ h => h) dX6_fillSixteen_30 ?_
    refine lv_iload hx hb dX6_fillSixteen_33 (lv_at hl 0 rfl) ?_
    obtain ⟨hvc, hF⟩ := chk_some hF
    refine va_ti (v := .int ((sT 14).getD s3.1.toNatClampNeg 0)) hx hb (hZ.1 14 (by decide)).2 hS hvc rfl dX6_fillSixteen_35 ?_
    obtain ⟨x43, ex43, hF⟩ := ltt_some hF
    refine lv_topi (fun zx43 ezx43 => ?_)
    obtain rfl : x43 = zx43 := ex43.trans ezx43.symm
    refine lv_iadd hx hb dX6_fillSixteen_36 ?_
    obtain ⟨x44, ex44, hF⟩ := ltt_some hF
    refine lv_topi (fun zx44 ezx44 => ?_)
    obtain rfl : x44 = zx44 := ex44.trans ezx44.symm
    refine lv_aloadq_n hx hb dX6_fillSixteen_37 rfl (lv_at hl 3 rfl) ?_
    obtain ⟨b45, ho45, hc45, hk45, hF⟩ := dr_some hF
    refine W_st (st' := [.ref (ad b45), .int x44, va_re ad (s3.2.2 a 7)]) (by rw [va_some ho45]) ?_
    refine va_get (D := D) (ci := 9) (v := va_re ad (s3.2.2 b45 9)) (C := RX9) (T := TX9) (N := 20) hx hb hts (mus hf_X9) hown hK hP b45 (wld_o ct ad G s3.2 hc45 hk45 (by decide)) rfl 9 (by decide) (hts (.fieldLink RX6 234 "VideoSuite$Work" "level" "[I") (mu mw_456)) (fun _ h9 => h9) rfl dX6_fillSixteen_38 ?_
    refine lv_iload hx hb dX6_fillSixteen_41 (lv_at hl 1 rfl) ?_
    refine lv_iload hx hb dX6_fillSixteen_43 (lv_at hl 0 rfl) ?_
    refine lv_iadd hx hb dX6_fillSixteen_45 ?_
    obtain ⟨x46, ex46, hF⟩ := ltt_some hF
    refine lv_topi (fun zx46 ezx46 => ?_)
    obtain rfl : x46 = zx46 := ex46.trans ezx46.symm
    obtain ⟨b47, ho47, hc47, hk47, hF⟩ := dr_some hF
    refine W_st (st' := [.int x46, .ref (ad b47), .int x44, va_re ad (s3.2.2 a 7)]) (by rw [va_some ho47]) ?_
    obtain ⟨hvc, hF⟩ := chk_some hF
    refine va_iald hx hb hK hP b47 1 (wld_i ct ad G s3.2 hc47 hk47) rfl hvc dX6_fillSixteen_46 ?_
    obtain ⟨x48, ex48, hF⟩ := ltt_some hF
    refine lv_topi (fun zx48 ezx48 => ?_)
    obtain rfl : x48 = zx48 := ex48.trans ezx48.symm
    obtain ⟨b49, ho49, hc49, hk49, hF⟩ := dr_some hF
    refine W_st (st' := [.int x48, .int x44, .ref (ad b49)]) (by rw [va_some ho49]) ?_
    obtain ⟨hvc, hF⟩ := chk_some hF
    refine va_iast hx hb hK hP hD hS b49 1 (wld_i ct ad G s3.2 hc49 hk49) rfl hvc dX6_fillSixteen_47 (fun H locs hP hD hS => ?_)
    obtain ⟨M50, eM50, hF⟩ := ltt_some hF
    rw [set_i ct ad G s3.2 hc49 hk49, ← eM50] at hP hD
    obtain ⟨x51, ex51, hF⟩ := ltt_some hF
    refine lv_iinc (v := x51) (lv' := [(5, .int x51), (4, .int y1.2), (0, .ref (ad a)), (1, va_re ad p0), (2, .int p1), (3, .int p2)]) hx hb dX6_fillSixteen_48 hl (k := 0) rfl (by rw [ex51]; rfl) (by decide) rfl (fun ls hl => ?_)
    refine lv_goto (tgt := 11) hx hb dX6_fillSixteen_51 (by decide) ?_
    obtain rfl := Option.some.inj hF
    exact hwz39 _ _ _ hP hD hS (lv_sub hl [0, 1, 2, 3, 4, 5] rfl)
set_option maxRecDepth 20000 in
theorem gX6_measure_X6_normAt : GoodIn wuX6_measure (va_wsS RX6 227 yX6_normAt wuX6_normAt) := gu_S mw_2096 mw_2097 mw_172 mw_2098
set_option maxRecDepth 20000 in
set_option maxRecDepth 20000 in
theorem gX6_measure_X6_roundingOf : GoodIn wuX6_measure (va_wsS RX6 262 yX6_roundingOf wuX6_roundingOf) := gu_S mw_2595 mw_2596 mw_172 mw_2597
set_option maxRecDepth 20000 in
set_option maxRecDepth 20000 in
theorem gX6_measure_X6_measured : GoodIn wuX6_measure (va_wsS RX6 266 yX6_measured wuX6_measured) := gu_S mw_2598 mw_2599 mw_172 mw_2600
theorem dX6_measure_0 : decode cX6_measure 0 = .ok (.iconst 0, 1) := by decide +kernel
theorem dX6_measure_1 : decode cX6_measure 1 = .ok (.istore 6, 2) := by decide +kernel
theorem dX6_measure_3 : decode cX6_measure 3 = .ok (.iload_n 3, 1) := by decide +kernel
theorem dX6_measure_4 : decode cX6_measure 4 = .ok (.istore 7, 2) := by decide +kernel
theorem dX6_measure_6 : decode cX6_measure 6 = .ok (.iload 7, 2) := by decide +kernel
theorem dX6_measure_8 : decode cX6_measure 8 = .ok (.bipush 16, 2) := by decide +kernel
theorem dX6_measure_10 : decode cX6_measure 10 = .ok (.if_icmp .ge 93, 3) := by decide +kernel
theorem dX6_measure_13 : decode cX6_measure 13 = .ok (.getstatic 218, 3) := by decide +kernel
theorem dX6_measure_16 : decode cX6_measure 16 = .ok (.iload 7, 2) := by decide +kernel
theorem dX6_measure_18 : decode cX6_measure 18 = .ok (.iaload, 1) := by decide +kernel
theorem dX6_measure_19 : decode cX6_measure 19 = .ok (.istore 8, 2) := by decide +kernel
theorem dX6_measure_21 : decode cX6_measure 21 = .ok (.getstatic 221, 3) := by decide +kernel
theorem dX6_measure_24 : decode cX6_measure 24 = .ok (.iload 7, 2) := by decide +kernel
theorem dX6_measure_26 : decode cX6_measure 26 = .ok (.iaload, 1) := by decide +kernel
theorem dX6_measure_27 : decode cX6_measure 27 = .ok (.istore 9, 2) := by decide +kernel
theorem dX6_measure_29 : decode cX6_measure 29 = .ok (.aload_n 0, 1) := by decide +kernel
theorem dX6_measure_30 : decode cX6_measure 30 = .ok (.getfield 30, 3) := by decide +kernel
theorem dX6_measure_33 : decode cX6_measure 33 = .ok (.iconst 4, 1) := by decide +kernel
theorem dX6_measure_34 : decode cX6_measure 34 = .ok (.iload 9, 2) := by decide +kernel
theorem dX6_measure_36 : decode cX6_measure 36 = .ok (.imul, 1) := by decide +kernel
theorem dX6_measure_37 : decode cX6_measure 37 = .ok (.iload 8, 2) := by decide +kernel
theorem dX6_measure_39 : decode cX6_measure 39 = .ok (.iadd, 1) := by decide +kernel
theorem dX6_measure_40 : decode cX6_measure 40 = .ok (.iaload, 1) := by decide +kernel
theorem dX6_measure_41 : decode cX6_measure 41 = .ok (.getstatic 259, 3) := by decide +kernel
theorem dX6_measure_44 : decode cX6_measure 44 = .ok (.iload 4, 2) := by decide +kernel
theorem dX6_measure_46 : decode cX6_measure 46 = .ok (.iload 8, 2) := by decide +kernel
theorem dX6_measure_48 : decode cX6_measure 48 = .ok (.iload 9, 2) := by decide +kernel
theorem dX6_measure_50 : decode cX6_measure 50 = .ok (.invokestatic 227, 3) := by decide +kernel
theorem dX6_measure_53 : decode cX6_measure 53 = .ok (.iaload, 1) := by decide +kernel
theorem dX6_measure_54 : decode cX6_measure 54 = .ok (.iload 4, 2) := by decide +kernel
theorem dX6_measure_56 : decode cX6_measure 56 = .ok (.iload 5, 2) := by decide +kernel
theorem dX6_measure_58 : decode cX6_measure 58 = .ok (.invokestatic 262, 3) := by decide +kernel
theorem dX6_measure_61 : decode cX6_measure 61 = .ok (.bipush 15, 2) := by decide +kernel
theorem dX6_measure_63 : decode cX6_measure 63 = .ok (.iload 4, 2) := by decide +kernel
theorem dX6_measure_65 : decode cX6_measure 65 = .ok (.bipush 6, 2) := by decide +kernel
theorem dX6_measure_67 : decode cX6_measure 67 = .ok (.idiv, 1) := by decide +kernel
theorem dX6_measure_68 : decode cX6_measure 68 = .ok (.iadd, 1) := by decide +kernel
theorem dX6_measure_69 : decode cX6_measure 69 = .ok (.invokestatic 266, 3) := by decide +kernel
theorem dX6_measure_72 : decode cX6_measure 72 = .ok (.istore 10, 2) := by decide +kernel
theorem dX6_measure_74 : decode cX6_measure 74 = .ok (.aload_n 1, 1) := by decide +kernel
theorem dX6_measure_75 : decode cX6_measure 75 = .ok (.iload_n 2, 1) := by decide +kernel
theorem dX6_measure_76 : decode cX6_measure 76 = .ok (.iload 7, 2) := by decide +kernel
theorem dX6_measure_78 : decode cX6_measure 78 = .ok (.iadd, 1) := by decide +kernel
theorem dX6_measure_79 : decode cX6_measure 79 = .ok (.iload 10, 2) := by decide +kernel
theorem dX6_measure_81 : decode cX6_measure 81 = .ok (.iastore, 1) := by decide +kernel
theorem dX6_measure_82 : decode cX6_measure 82 = .ok (.iload 6, 2) := by decide +kernel
theorem dX6_measure_84 : decode cX6_measure 84 = .ok (.iload 10, 2) := by decide +kernel
theorem dX6_measure_86 : decode cX6_measure 86 = .ok (.ifCond .eq 7, 3) := by decide +kernel
theorem dX6_measure_89 : decode cX6_measure 89 = .ok (.iconst 1, 1) := by decide +kernel
theorem dX6_measure_90 : decode cX6_measure 90 = .ok (.goto 4, 3) := by decide +kernel
theorem dX6_measure_93 : decode cX6_measure 93 = .ok (.iconst 0, 1) := by decide +kernel
theorem dX6_measure_94 : decode cX6_measure 94 = .ok (.iadd, 1) := by decide +kernel
theorem dX6_measure_95 : decode cX6_measure 95 = .ok (.istore 6, 2) := by decide +kernel
theorem dX6_measure_97 : decode cX6_measure 97 = .ok (.iinc 7 1, 3) := by decide +kernel
theorem dX6_measure_100 : decode cX6_measure 100 = .ok (.goto (-94), 3) := by decide +kernel
theorem dX6_measure_103 : decode cX6_measure 103 = .ok (.iload 6, 2) := by decide +kernel
theorem dX6_measure_105 : decode cX6_measure 105 = .ok (.ireturn, 1) := by decide +kernel
def FX6_measure (G : GG) (M : DD) (a : Nat) (p0 : Option Nat) (p1 : Int32) (p2 : Int32) (p3 : Int32) (p4 : Int32) : Option (DD × Int32) :=
  bnd (itr (fun (s2 : Int32 × Int32 × DD) => ((if ((16 : Int32)) ≤ s2.2.1 then (some (.inr (s2.1, s2.2.1, s2.2.2))) else
  (chk (¬ (s2.2.1 < 0 ∨ 16 ≤ s2.2.1.toNatClampNeg)) <|
  ltt ((sT 14).getD s2.2.1.toNatClampNeg 0) fun x6 =>
  chk (¬ (s2.2.1 < 0 ∨ 16 ≤ s2.2.1.toNatClampNeg)) <|
  ltt ((sT 15).getD s2.2.1.toNatClampNeg 0) fun x7 =>
  ltt ((((4 : Int32)) * x7)) fun x8 =>
  ltt ((x8 + x6)) fun x9 =>
  dr G 13 ((s2.2.2.2 a 6)) fun b10 =>
  chk (¬ (x9 < 0 ∨ G.2.2 b10 ≤ x9.toNatClampNeg)) <|
  ltt (s2.2.2.1 b10 x9.toNatClampNeg) fun x11 =>
  bnd (FX6_normAt G s2.2.2 p3 x6 x7) fun y12 =>
  chk (¬ (y12.2 < 0 ∨ 18 ≤ y12.2.toNatClampNeg)) <|
  ltt ((sT 12).getD y12.2.toNatClampNeg 0) fun x13 =>
  bnd (FX6_roundingOf G y12.1 p3 p4) fun y14 =>
  ltt (p3 / ((6 : Int32))) fun x15 =>
  ltt ((((15 : Int32)) + x15)) fun x16 =>
  bnd (FX6_measured G y14.1 x11 x13 y14.2 x16) fun y17 =>
  ltt ((p1 + s2.2.1)) fun x18 =>
  dr G 13 p0 fun b19 =>
  chk (¬ (x18 < 0 ∨ G.2.2 b19 ≤ x18.toNatClampNeg)) <|
  ltt (uI y17.1 b19 x18.toNatClampNeg y17.2) fun M20 =>
  bnd (if y17.2 = ((0 : Int32)) then (some ((0 : Int32))) else
  (some ((1 : Int32)))) fun (y21 : Int32) =>
  ltt ((s2.1 + y21)) fun x22 =>
  ltt (s2.2.1 + (1 : Int32)) fun x23 =>
  some (.inl (x22, x23, M20)))) : Option ((Int32 × Int32 × DD) ⊕ (Int32 × Int32 × DD)))) 1000000 ((0 : Int32), p2, M)) fun (y1 : Int32 × Int32 × DD) =>
  some (y1.2.2, y1.1)
set_option maxHeartbeats 4000000 in
set_option maxRecDepth 100000 in
theorem kX6_measure (l : Launch) (D : va_G) (ct : CT) (ad : Nat → Nat) (Z : Nat → Nat) (G : GG) (M : DD) (sz : Nat) (a : Nat) (p0 : Option Nat) (p1 : Int32) (p2 : Int32) (p3 : Int32) (p4 : Int32) (y : DD × Int32) (hc : a < G.1) (hk : G.2.1 a = 6) (hF : FX6_measure G M a p0 p1 p2 p3 p4 = some y) : Met l yX6_measure wuX6_measure ({ frames := 1, cells := 0, slots := 0, locals := 24 }) (va_Pc [.ref (ad a), va_re ad p0, .int p1, .int p2, .int p3, .int p4] (kB D ct ad Z G M sz)) (va_Qi (fun (q : Int32) (_ : Unit) => q = y.2) (fun _ t => kE D ct ad G (wA ad G sz) y.1 t) (wA ad G sz)) 0 0 (wA ad G sz) := by
  refine Met.ofW (cc := cX6_measure) (maxL := 11) (ret := (some .int)) (by decide) rfl ?_
  intro p e s m args below meth c s₁ B hml hv
  obtain ⟨rfl, hsz, hP, hK, hD0, hZ, hN⟩ := hv
  have hx := B.exec
  have hb := B.bytes
  have hr := B.returns
  have hts := atoms_spec (ws := wuX6_measure) B.pre
  have hown : s.vm.findClass RX6 = some m.cls := findClass_of_methodNamed B.named
  have hlocks := B.notSynchronized
  subst hsz
  have hD := wD_self (sz := s.heap.size) hD0
  have hA9 : ∀ q, s.heap.size ≤ q → wA ad G s.heap.size q := fun q h => Or.inr h
  generalize hAe : wA ad G s.heap.size = A at hD hA9 hZ ⊢
  have hS : va_S A s.heap s.heap [] := va_S.rf
  have hl := lv_entry ([.ref (ad a), va_re ad p0, .int p1, .int p2, .int p3, .int p4]) (n := 11) (by cases p0 <;> exact Nat.le_of_ble_eq_true rfl)
  rw [lg_entry_eq]
  generalize (lg_sl ([.ref (ad a), va_re ad p0, .int p1, .int p2, .int p3, .int p4]) ++ List.replicate (11 - (lg_sl ([.ref (ad a), va_re ad p0, .int p1, .int p2, .int p3, .int p4])).length) Slot.unset).toArray = ls at hl ⊢
  have hl : lv_has ls 11 [(0, .ref (ad a)), (1, va_re ad p0), (2, .int p1), (3, .int p2), (4, .int p3), (5, .int p4)] := by have e9 : lv_args 0 [.ref (ad a), va_re ad p0, .int p1, .int p2, .int p3, .int p4] = [(0, .ref (ad a)), (1, va_re ad p0), (2, .int p1), (3, .int p2), (4, .int p3), (5, .int p4)] := (by cases p0 <;> rfl); rw [e9] at hl; exact hl
  unfold FX6_measure at hF
  refine lv_iconst (v := (0 : Int32)) hx hb dX6_measure_0 (by decide) ?_
  refine lv_istore (lv' := [(6, .int (0 : Int32)), (0, .ref (ad a)), (1, va_re ad p0), (2, .int p1), (3, .int p2), (4, .int p3), (5, .int p4)]) hx hb dX6_measure_1 hl (by decide) rfl (fun ls hl => ?_)
  refine lv_iload_n hx hb dX6_measure_3 rfl (lv_at hl 4 rfl) ?_
  refine lv_istore (lv' := [(7, .int p2), (6, .int (0 : Int32)), (0, .ref (ad a)), (1, va_re ad p0), (2, .int p1), (3, .int p2), (4, .int p3), (5, .int p4)]) hx hb dX6_measure_4 hl (by decide) rfl (fun ls hl => ?_)
  obtain ⟨y1, hy1, hF⟩ := bnd_some hF
  have K1 : ∀ (H : Heap) (locs : List Loc) (ls : Array Slot), va_P D classes (wld ct ad G y1.2.2) H → va_D A (wld ct ad G y1.2.2) → va_S A s.heap H locs → lv_has ls 11 [(7, .int y1.2.1), (6, .int y1.1), (0, .ref (ad a)), (1, va_re ad p0), (2, .int p1), (3, .int p2), (4, .int p3), (5, .int p4)] → W p l e (headSpec wuX6_measure ({ frames := 1, cells := 0, slots := 0, locals := 24 })).room s m ([.ref (ad a), va_re ad p0, .int p1, .int p2, .int p3, .int p4] : List Value).toArray below meth c H locs 0 0 (MQ below (va_Qi (fun (q : Int32) (_ : Unit) => q = y.2) (fun _ t => kE D ct ad G A y.1 t) A) ([.ref (ad a), va_re ad p0, .int p1, .int p2, .int p3, .int p4] : List Value).toArray s 0 0 A) (F0 m 103 ls []) := by
    intro H locs ls hP hD hS hl
    refine lv_iload hx hb dX6_measure_103 (lv_at hl 1 rfl) ?_
    obtain rfl := Option.some.inj hF
    exact W.iret (v := y1.1) hx hb hr (fun t ht hW => ⟨⟨_, (), rfl, rfl, ⟨by rw [ht]; exact hP, va_K.moved hW.alike hK, hD⟩⟩, hS.F ht⟩) hS.2.2 dX6_measure_105
  clear hF
  refine itr_rule (fun (s2 : Int32 × Int32 × DD) => ∀ (H : Heap) (locs : List Loc) (ls : Array Slot), va_P D classes (wld ct ad G s2.2.2) H → va_D A (wld ct ad G s2.2.2) → va_S A s.heap H locs → lv_has ls 11 [(7, .int s2.2.1), (6, .int s2.1), (0, .ref (ad a)), (1, va_re ad p0), (2, .int p1), (3, .int p2), (4, .int p3), (5, .int p4)] → W p l e (headSpec wuX6_measure ({ frames := 1, cells := 0, slots := 0, locals := 24 })).room s m ([.ref (ad a), va_re ad p0, .int p1, .int p2, .int p3, .int p4] : List Value).toArray below meth c H locs 0 0 (MQ below (va_Qi (fun (q : Int32) (_ : Unit) => q = y.2) (fun _ t => kE D ct ad G A y.1 t) A) ([.ref (ad a), va_re ad p0, .int p1, .int p2, .int p3, .int p4] : List Value).toArray s 0 0 A) (F0 m 6 ls [])) ?_ _ _ hy1 _ _ _ hP hD hS (lv_sub hl [0, 1, 2, 3, 4, 5, 6, 7] rfl)
  rintro s2 ⟨z4, hF, hwz4⟩ H locs ls hP hD hS hl
  try dsimp only at hF
  refine lv_iload hx hb dX6_measure_6 (lv_at hl 0 rfl) ?_
  refine lv_bipush (v := (16 : Int32)) hx hb dX6_measure_8 (by decide) ?_
  refine lv_icmp_ge (tgt := 103) hx hb dX6_measure_10 (by decide) (fun c5 => ?_) (fun c5 => ?_)
  · rw [if_pos c5] at hF
    obtain rfl := Option.some.inj hF
    subst hwz4
    exact K1 _ _ _ hP hD hS (lv_sub hl [0, 1, 2, 3, 4, 5, 6, 7] rfl)
  · rw [if_neg c5] at hF
    refine va_gets hx hb (hZ.1 14 (by decide)).1 hS hown (hts (.fieldLink RX6 218 "VideoSuite$Samples" "SCAN_X" "[I") (mu mw_2083)) (fun _ h => h) dX6_measure_13 ?_
    refine lv_iload hx hb dX6_measure_16 (lv_at hl 0 rfl) ?_
    obtain ⟨hvc, hF⟩ := chk_some hF
    refine va_ti (v := .int ((sT 14).getD s2.2.1.toNatClampNeg 0)) hx hb (hZ.1 14 (by decide)).2 hS hvc rfl dX6_measure_18 ?_
    obtain ⟨x6, ex6, hF⟩ := ltt_some hF
    refine lv_topi (fun zx6 ezx6 => ?_)
    obtain rfl : x6 = zx6 := ex6.trans ezx6.symm
    refine lv_istore (lv' := [(8, .int x6), (7, .int s2.2.1), (6, .int s2.1), (0, .ref (ad a)), (1, va_re ad p0), (2, .int p1), (3, .int p2), (4, .int p3), (5, .int p4)]) hx hb dX6_measure_19 hl (by decide) rfl (fun ls hl => ?_)
    refine va_gets hx hb (hZ.1 15 (by decide)).1 hS hown (hts (.fieldLink RX6 221 "VideoSuite$Samples" "SCAN_Y" "[I") (mu mw_2081)) (fun _ h => h) dX6_measure_21 ?_
    refine lv_iload hx hb dX6_measure_24 (lv_at hl 1 rfl) ?_
    obtain ⟨hvc, hF⟩ := chk_some hF
    refine va_ti (v := .int ((sT 15).getD s2.2.1.toNatClampNeg 0)) hx hb (hZ.1 15 (by decide)).2 hS hvc rfl dX6_measure_26 ?_
    obtain ⟨x7, ex7, hF⟩ := ltt_some hF
    refine lv_topi (fun zx7 ezx7 => ?_)
    obtain rfl : x7 = zx7 := ex7.trans ezx7.symm
    refine lv_istore (lv' := [(9, .int x7), (8, .int x6), (7, .int s2.2.1), (6, .int s2.1), (0, .ref (ad a)), (1, va_re ad p0), (2, .int p1), (3, .int p2), (4, .int p3), (5, .int p4)]) hx hb dX6_measure_27 hl (by decide) rfl (fun ls hl => ?_)
    refine lv_aload_n hx hb dX6_measure_29 rfl (lv_at hl 4 rfl) ?_
    refine va_get (D := D) (ci := 6) (v := va_re ad (s2.2.2.2 a 6)) (C := RX6) (T := TX6) (N := 14) hx hb hts (mus hf_X6) hown hK hP a (wld_o ct ad G s2.2.2 hc hk (by decide)) rfl 6 (by decide) (hts (.fieldLink RX6 30 "VideoSuite$Samples" "rest" "[I") (mu mw_542)) (fun _ h9 => h9) rfl dX6_measure_30 ?_
    refine lv_iconst (v := (4 : Int32)) hx hb dX6_measure_33 (by decide) ?_
    refine lv_iload hx hb dX6_measure_34 (lv_at hl 0 rfl) ?_
    refine lv_imul hx hb dX6_measure_36 ?_
    obtain ⟨x8, ex8, hF⟩ := ltt_some hF
    refine lv_topi (fun zx8 ezx8 => ?_)
    obtain rfl : x8 = zx8 := ex8.trans ezx8.symm
    refine lv_iload hx hb dX6_measure_37 (lv_at hl 1 rfl) ?_
    refine lv_iadd hx hb dX6_measure_39 ?_
    obtain ⟨x9, ex9, hF⟩ := ltt_some hF
    refine lv_topi (fun zx9 ezx9 => ?_)
    obtain rfl : x9 = zx9 := ex9.trans ezx9.symm
    obtain ⟨b10, ho10, hc10, hk10, hF⟩ := dr_some hF
    refine W_st (st' := [.int x9, .ref (ad b10)]) (by rw [va_some ho10]) ?_
    obtain ⟨hvc, hF⟩ := chk_some hF
    refine va_iald hx hb hK hP b10 1 (wld_i ct ad G s2.2.2 hc10 hk10) rfl hvc dX6_measure_40 ?_
    obtain ⟨x11, ex11, hF⟩ := ltt_some hF
    refine lv_topi (fun zx11 ezx11 => ?_)
    obtain rfl : x11 = zx11 := ex11.trans ezx11.symm
    refine va_gets hx hb (hZ.1 12 (by decide)).1 hS hown (hts (.fieldLink RX6 259 "VideoSuite$Samples" "MEASURE" "[I") (mu mw_2593)) (fun _ h => h) dX6_measure_41 ?_
    refine lv_iload hx hb dX6_measure_44 (lv_at hl 8 rfl) ?_
    refine lv_iload hx hb dX6_measure_46 (lv_at hl 1 rfl) ?_
    refine lv_iload hx hb dX6_measure_48 (lv_at hl 0 rfl) ?_
    obtain ⟨y12, hy12, hF⟩ := bnd_some hF
    have hf9 := wA_in hD hA9 hS
    refine va_calli (va_runS (As := [.int p3, .int x6, .int x7]) (rest := [.ref (Z 12), .int x11]) ⟨hx, hb, hml, hown, hts⟩ (kX6_normAt l D ct ad Z G s2.2.2 H.size p3 x6 x7 y12 hy12) (va_cwS 3 hts gX6_measure_X6_normAt rfl rfl rfl (by decide +kernel) ⟨Nat.le_of_ble_eq_true rfl, Nat.le_of_ble_eq_true rfl⟩) ⟨fun a U g mk q => by obtain ⟨q0, q1, qP, qK, qD, qZ, qN⟩ := q; exact ⟨q0, q1, qP, va_K.moved (u := U) (U := U.calling g mk a) (Vm.Alike.refl U.vm) qK, qD, sF.moved (u := U) (U := U.calling g mk a) (Vm.Alike.refl U.vm) qZ, nF.same rfl qN⟩, fun U hU hW => ⟨rfl, by rw [hU], by rw [hU]; exact hP, va_K.moved hW.alike hK, hD.weaken (fun _ _ _ _ => trivial), by rw [hU]; exact ((hZ.kept hS.2.1).narrow hf9).moved hW.alike, hN.warm hW⟩⟩ rfl rfl hl.1 rfl (lv_room (Nat.le_of_ble_eq_true rfl)) dX6_measure_50 ⟨(Nat.zero_le _), (Nat.zero_le _)⟩) hS (fun q _ h => hf9 q h) hf9 (fun r u t H locs ht hvm hw hB hz1 hk1 hS => ?_)
    obtain ⟨hP, hK9, hD9⟩ := hB
    rw [ht] at hP
    try dsimp only at hw
    subst hw
    have hD := hD9.weaken (fun _ q _ h => hf9 q.1 h)
    obtain ⟨hvc, hF⟩ := chk_some hF
    refine va_ti (v := .int ((sT 12).getD y12.2.toNatClampNeg 0)) hx hb (hZ.1 12 (by decide)).2 hS hvc rfl dX6_measure_53 ?_
    obtain ⟨x13, ex13, hF⟩ := ltt_some hF
    refine lv_topi (fun zx13 ezx13 => ?_)
    obtain rfl : x13 = zx13 := ex13.trans ezx13.symm
    refine lv_iload hx hb dX6_measure_54 (lv_at hl 8 rfl) ?_
    refine lv_iload hx hb dX6_measure_56 (lv_at hl 9 rfl) ?_
    obtain ⟨y14, hy14, hF⟩ := bnd_some hF
    have hf9 := wA_in hD hA9 hS
    refine va_calli (va_runS (As := [.int p3, .int p4]) (rest := [.int x13, .int x11]) ⟨hx, hb, hml, hown, hts⟩ (kX6_roundingOf l D ct ad Z G y12.1 H.size p3 p4 y14 hy14) (va_cwS 2 hts gX6_measure_X6_roundingOf rfl rfl rfl (by decide +kernel) ⟨Nat.le_of_ble_eq_true rfl, Nat.le_of_ble_eq_true rfl⟩) ⟨fun a U g mk q => by obtain ⟨q0, q1, qP, qK, qD, qZ, qN⟩ := q; exact ⟨q0, q1, qP, va_K.moved (u := U) (U := U.calling g mk a) (Vm.Alike.refl U.vm) qK, qD, sF.moved (u := U) (U := U.calling g mk a) (Vm.Alike.refl U.vm) qZ, nF.same rfl qN⟩, fun U hU hW => ⟨rfl, by rw [hU], by rw [hU]; exact hP, va_K.moved hW.alike hK, hD.weaken (fun _ _ _ _ => trivial), by rw [hU]; exact ((hZ.kept hS.2.1).narrow hf9).moved hW.alike, hN.warm hW⟩⟩ rfl rfl hl.1 rfl (lv_room (Nat.le_of_ble_eq_true rfl)) dX6_measure_58 ⟨(Nat.zero_le _), (Nat.zero_le _)⟩) hS (fun q _ h => hf9 q h) hf9 (fun r u t H locs ht hvm hw hB hz1 hk1 hS => ?_)
    obtain ⟨hP, hK9, hD9⟩ := hB
    rw [ht] at hP
    try dsimp only at hw
    subst hw
    have hD := hD9.weaken (fun _ q _ h => hf9 q.1 h)
    refine lv_bipush (v := (15 : Int32)) hx hb dX6_measure_61 (by decide) ?_
    refine lv_iload hx hb dX6_measure_63 (lv_at hl 8 rfl) ?_
    refine lv_bipush (v := (6 : Int32)) hx hb dX6_measure_65 (by decide) ?_
    refine lv_idiv hx hb dX6_measure_67 (by decide) ?_
    obtain ⟨x15, ex15, hF⟩ := ltt_some hF
    refine lv_topi (fun zx15 ezx15 => ?_)
    obtain rfl : x15 = zx15 := ex15.trans ezx15.symm
    refine lv_iadd hx hb dX6_measure_68 ?_
    obtain ⟨x16, ex16, hF⟩ := ltt_some hF
    refine lv_topi (fun zx16 ezx16 => ?_)
    obtain rfl : x16 = zx16 := ex16.trans ezx16.symm
    obtain ⟨y17, hy17, hF⟩ := bnd_some hF
    have hf9 := wA_in hD hA9 hS
    refine va_calli (va_runS (As := [.int x11, .int x13, .int y14.2, .int x16]) (rest := []) ⟨hx, hb, hml, hown, hts⟩ (kX6_measured l D ct ad Z G y14.1 H.size x11 x13 y14.2 x16 y17 hy17) (va_cwS 4 hts gX6_measure_X6_measured rfl rfl rfl (by decide +kernel) ⟨Nat.le_of_ble_eq_true rfl, Nat.le_of_ble_eq_true rfl⟩) ⟨fun a U g mk q => by obtain ⟨q0, q1, qP, qK, qD, qZ, qN⟩ := q; exact ⟨q0, q1, qP, va_K.moved (u := U) (U := U.calling g mk a) (Vm.Alike.refl U.vm) qK, qD, sF.moved (u := U) (U := U.calling g mk a) (Vm.Alike.refl U.vm) qZ, nF.same rfl qN⟩, fun U hU hW => ⟨rfl, by rw [hU], by rw [hU]; exact hP, va_K.moved hW.alike hK, hD.weaken (fun _ _ _ _ => trivial), by rw [hU]; exact ((hZ.kept hS.2.1).narrow hf9).moved hW.alike, hN.warm hW⟩⟩ rfl rfl hl.1 rfl (lv_room (Nat.le_of_ble_eq_true rfl)) dX6_measure_69 ⟨(Nat.zero_le _), (Nat.zero_le _)⟩) hS (fun q _ h => hf9 q h) hf9 (fun r u t H locs ht hvm hw hB hz1 hk1 hS => ?_)
    obtain ⟨hP, hK9, hD9⟩ := hB
    rw [ht] at hP
    try dsimp only at hw
    subst hw
    have hD := hD9.weaken (fun _ q _ h => hf9 q.1 h)
    refine lv_istore (lv' := [(10, .int y17.2), (9, .int x7), (8, .int x6), (7, .int s2.2.1), (6, .int s2.1), (0, .ref (ad a)), (1, va_re ad p0), (2, .int p1), (3, .int p2), (4, .int p3), (5, .int p4)]) hx hb dX6_measure_72 hl (by decide) rfl (fun ls hl => ?_)
    refine lv_aloadq_n hx hb dX6_measure_74 rfl (lv_at hl 6 rfl) ?_
    refine lv_iload_n hx hb dX6_measure_75 rfl (lv_at hl 7 rfl) ?_
    refine lv_iload hx hb dX6_measure_76 (lv_at hl 3 rfl) ?_
    refine lv_iadd hx hb dX6_measure_78 ?_
    obtain ⟨x18, ex18, hF⟩ := ltt_some hF
    refine lv_topi (fun zx18 ezx18 => ?_)
    obtain rfl : x18 = zx18 := ex18.trans ezx18.symm
    refine lv_iload hx hb dX6_measure_79 (lv_at hl 0 rfl) ?_
    obtain ⟨b19, ho19, hc19, hk19, hF⟩ := dr_some hF
    refine W_st (st' := [.int y17.2, .int x18, .ref (ad b19)]) (by rw [va_some ho19]) ?_
    obtain ⟨hvc, hF⟩ := chk_some hF
    refine va_iast hx hb hK hP hD hS b19 1 (wld_i ct ad G y17.1 hc19 hk19) rfl hvc dX6_measure_81 (fun H locs hP hD hS => ?_)
    obtain ⟨M20, eM20, hF⟩ := ltt_some hF
    rw [set_i ct ad G y17.1 hc19 hk19, ← eM20] at hP hD
    refine lv_iload hx hb dX6_measure_82 (lv_at hl 4 rfl) ?_
    refine lv_iload hx hb dX6_measure_84 (lv_at hl 0 rfl) ?_
    obtain ⟨y21, hy21, hF⟩ := bnd_some hF
    have J21 : ∀ (H : Heap) (locs : List Loc) (ls : Array Slot), va_P D classes (wld ct ad G M20) H → va_D A (wld ct ad G M20) → va_S A s.heap H locs → lv_has ls 11 [(10, .int y17.2), (9, .int x7), (8, .int x6), (7, .int s2.2.1), (6, .int s2.1), (0, .ref (ad a)), (1, va_re ad p0), (2, .int p1), (3, .int p2), (4, .int p3), (5, .int p4)] → W p l e (headSpec wuX6_measure ({ frames := 1, cells := 0, slots := 0, locals := 24 })).room s m ([.ref (ad a), va_re ad p0, .int p1, .int p2, .int p3, .int p4] : List Value).toArray below meth c H locs 0 0 (MQ below (va_Qi (fun (q : Int32) (_ : Unit) => q = y.2) (fun _ t => kE D ct ad G A y.1 t) A) ([.ref (ad a), va_re ad p0, .int p1, .int p2, .int p3, .int p4] : List Value).toArray s 0 0 A) (F0 m 94 ls [.int y21, .int s2.1]) := by
      intro H locs ls hP hD hS hl
      refine lv_iadd hx hb dX6_measure_94 ?_
      obtain ⟨x22, ex22, hF⟩ := ltt_some hF
      refine lv_topi (fun zx22 ezx22 => ?_)
      obtain rfl : x22 = zx22 := ex22.trans ezx22.symm
      refine lv_istore (lv' := [(6, .int x22), (10, .int y17.2), (9, .int x7), (8, .int x6), (7, .int s2.2.1), (0, .ref (ad a)), (1, va_re ad p0), (2, .int p1), (3, .int p2), (4, .int p3), (5, .int p4)]) hx hb dX6_measure_95 hl (by decide) rfl (fun ls hl => ?_)
      obtain ⟨x23, ex23, hF⟩ := ltt_some hF
      refine lv_iinc (v := x23) (lv' := [(7, .int x23), (6, .int x22), (10, .int y17.2), (9, .int x7), (8, .int x6), (0, .ref (ad a)), (1, va_re ad p0), (2, .int p1), (3, .int p2), (4, .int p3), (5, .int p4)]) hx hb dX6_measure_97 hl (k := 4) rfl (by rw [ex23]; rfl) (by decide) rfl (fun ls hl => ?_)
      refine lv_goto (tgt := 6) hx hb dX6_measure_100 (by decide) ?_
      obtain rfl := Option.some.inj hF
      exact hwz4 _ _ _ hP hD hS (lv_sub hl [0, 1, 5, 6, 7, 8, 9, 10] rfl)
    clear hF
    have hF := hy21
    clear hy21
    refine lv_if_eq (tgt := 93) hx hb dX6_measure_86 (by decide) (fun c24 => ?_) (fun c24 => ?_)
    · rw [if_pos c24] at hF
      refine lv_iconst (v := (0 : Int32)) hx hb dX6_measure_93 (by decide) ?_
      obtain rfl := Option.some.inj hF
      exact J21 _ _ _ hP hD hS (lv_sub hl [0, 1, 2, 3, 4, 5, 6, 7, 8, 9, 10] rfl)
    · rw [if_neg c24] at hF
      refine lv_iconst (v := (1 : Int32)) hx hb dX6_measure_89 (by decide) ?_
      refine lv_goto (tgt := 94) hx hb dX6_measure_90 (by decide) ?_
      obtain rfl := Option.some.inj hF
      exact J21 _ _ _ hP hD hS (lv_sub hl [0, 1, 2, 3, 4, 5, 6, 7, 8, 9, 10] rfl)
set_option maxRecDepth 20000 in
theorem gX6_measureColours_X6_turnFour : GoodIn wuX6_measureColours (wsV RX6 256 RX6 yX6_turnFour wuX6_turnFour) := gu_V mw_2143 mw_2145 mw_90 mw_172 mw_2146
set_option maxRecDepth 20000 in
set_option maxRecDepth 20000 in
theorem gX6_measureColours_X9_levelAt : GoodIn wuX6_measureColours (va_wsS RX6 237 yX9_levelAt wuX9_levelAt) := gu_S mw_2080 mw_1789 mw_171 mw_1790
set_option maxRecDepth 20000 in
set_option maxRecDepth 20000 in
theorem gX6_measureColours_X6_normAt : GoodIn wuX6_measureColours (va_wsS RX6 227 yX6_normAt wuX6_normAt) := gu_S mw_2096 mw_2097 mw_172 mw_2098
set_option maxRecDepth 20000 in
set_option maxRecDepth 20000 in
theorem gX6_measureColours_X6_roundingOf : GoodIn wuX6_measureColours (va_wsS RX6 262 yX6_roundingOf wuX6_roundingOf) := gu_S mw_2595 mw_2596 mw_172 mw_2597
set_option maxRecDepth 20000 in
set_option maxRecDepth 20000 in
theorem gX6_measureColours_X6_measured : GoodIn wuX6_measureColours (va_wsS RX6 266 yX6_measured wuX6_measured) := gu_S mw_2598 mw_2599 mw_172 mw_2600
set_option maxRecDepth 20000 in
theorem gX6_measureColours_X6_colourAt : GoodIn wuX6_measureColours (va_wsS RX6 206 yX6_colourAt wuX6_colourAt) := gu_S mw_1985 mw_1986 mw_172 mw_1987
set_option maxRecDepth 20000 in
set_option maxRecDepth 20000 in
theorem gX6_measureColours_X6_turn : GoodIn wuX6_measureColours (wsV RX6 270 RX6 yX6_turn wuX6_turn) := gu_V mw_2585 mw_2587 mw_139 mw_172 mw_2588
set_option maxRecDepth 20000 in
set_option maxRecDepth 20000 in
theorem gX6_measureColours_X6_measure : GoodIn wuX6_measureColours (wsV RX6 273 RX6 yX6_measure wuX6_measure) := gu_V mw_2589 mw_2591 mw_140 mw_172 mw_2592
set_option maxRecDepth 20000 in
theorem dX6_measureColours_0 : decode cX6_measureColours 0 = .ok (.iconst 0, 1) := by decide +kernel
theorem dX6_measureColours_1 : decode cX6_measureColours 1 = .ok (.istore 6, 2) := by decide +kernel
theorem dX6_measureColours_3 : decode cX6_measureColours 3 = .ok (.iconst 1, 1) := by decide +kernel
theorem dX6_measureColours_4 : decode cX6_measureColours 4 = .ok (.istore 7, 2) := by decide +kernel
theorem dX6_measureColours_6 : decode cX6_measureColours 6 = .ok (.iload 7, 2) := by decide +kernel
theorem dX6_measureColours_8 : decode cX6_measureColours 8 = .ok (.iconst 3, 1) := by decide +kernel
theorem dX6_measureColours_9 : decode cX6_measureColours 9 = .ok (.if_icmp .ge 267, 3) := by decide +kernel
theorem dX6_measureColours_12 : decode cX6_measureColours 12 = .ok (.iconst 0, 1) := by decide +kernel
theorem dX6_measureColours_13 : decode cX6_measureColours 13 = .ok (.istore 8, 2) := by decide +kernel
theorem dX6_measureColours_15 : decode cX6_measureColours 15 = .ok (.iload 8, 2) := by decide +kernel
theorem dX6_measureColours_17 : decode cX6_measureColours 17 = .ok (.iconst 4, 1) := by decide +kernel
theorem dX6_measureColours_18 : decode cX6_measureColours 18 = .ok (.if_icmp .ge 152, 3) := by decide +kernel
theorem dX6_measureColours_21 : decode cX6_measureColours 21 = .ok (.iload 8, 2) := by decide +kernel
theorem dX6_measureColours_23 : decode cX6_measureColours 23 = .ok (.iconst 2, 1) := by decide +kernel
theorem dX6_measureColours_24 : decode cX6_measureColours 24 = .ok (.irem, 1) := by decide +kernel
theorem dX6_measureColours_25 : decode cX6_measureColours 25 = .ok (.iconst 4, 1) := by decide +kernel
theorem dX6_measureColours_26 : decode cX6_measureColours 26 = .ok (.imul, 1) := by decide +kernel
theorem dX6_measureColours_27 : decode cX6_measureColours 27 = .ok (.istore 9, 2) := by decide +kernel
theorem dX6_measureColours_29 : decode cX6_measureColours 29 = .ok (.iload 8, 2) := by decide +kernel
theorem dX6_measureColours_31 : decode cX6_measureColours 31 = .ok (.iconst 2, 1) := by decide +kernel
theorem dX6_measureColours_32 : decode cX6_measureColours 32 = .ok (.idiv, 1) := by decide +kernel
theorem dX6_measureColours_33 : decode cX6_measureColours 33 = .ok (.iconst 4, 1) := by decide +kernel
theorem dX6_measureColours_34 : decode cX6_measureColours 34 = .ok (.imul, 1) := by decide +kernel
theorem dX6_measureColours_35 : decode cX6_measureColours 35 = .ok (.istore 10, 2) := by decide +kernel
theorem dX6_measureColours_37 : decode cX6_measureColours 37 = .ok (.aload_n 0, 1) := by decide +kernel
theorem dX6_measureColours_38 : decode cX6_measureColours 38 = .ok (.aload_n 2, 1) := by decide +kernel
theorem dX6_measureColours_39 : decode cX6_measureColours 39 = .ok (.iload 7, 2) := by decide +kernel
theorem dX6_measureColours_41 : decode cX6_measureColours 41 = .ok (.aaload, 1) := by decide +kernel
theorem dX6_measureColours_42 : decode cX6_measureColours 42 = .ok (.aload_n 1, 1) := by decide +kernel
theorem dX6_measureColours_43 : decode cX6_measureColours 43 = .ok (.getfield 46, 3) := by decide +kernel
theorem dX6_measureColours_46 : decode cX6_measureColours 46 = .ok (.iload_n 3, 1) := by decide +kernel
theorem dX6_measureColours_47 : decode cX6_measureColours 47 = .ok (.iload 9, 2) := by decide +kernel
theorem dX6_measureColours_49 : decode cX6_measureColours 49 = .ok (.iload 10, 2) := by decide +kernel
theorem dX6_measureColours_51 : decode cX6_measureColours 51 = .ok (.invokestatic 206, 3) := by decide +kernel
theorem dX6_measureColours_54 : decode cX6_measureColours 54 = .ok (.bipush 8, 2) := by decide +kernel
theorem dX6_measureColours_56 : decode cX6_measureColours 56 = .ok (.aload_n 1, 1) := by decide +kernel
theorem dX6_measureColours_57 : decode cX6_measureColours 57 = .ok (.getfield 46, 3) := by decide +kernel
theorem dX6_measureColours_60 : decode cX6_measureColours 60 = .ok (.getfield 83, 3) := by decide +kernel
theorem dX6_measureColours_63 : decode cX6_measureColours 63 = .ok (.imul, 1) := by decide +kernel
theorem dX6_measureColours_64 : decode cX6_measureColours 64 = .ok (.sipush 192, 3) := by decide +kernel
theorem dX6_measureColours_67 : decode cX6_measureColours 67 = .ok (.bipush 64, 2) := by decide +kernel
theorem dX6_measureColours_69 : decode cX6_measureColours 69 = .ok (.iload 7, 2) := by decide +kernel
theorem dX6_measureColours_71 : decode cX6_measureColours 71 = .ok (.imul, 1) := by decide +kernel
theorem dX6_measureColours_72 : decode cX6_measureColours 72 = .ok (.iadd, 1) := by decide +kernel
theorem dX6_measureColours_73 : decode cX6_measureColours 73 = .ok (.bipush 8, 2) := by decide +kernel
theorem dX6_measureColours_75 : decode cX6_measureColours 75 = .ok (.iload 10, 2) := by decide +kernel
theorem dX6_measureColours_77 : decode cX6_measureColours 77 = .ok (.imul, 1) := by decide +kernel
theorem dX6_measureColours_78 : decode cX6_measureColours 78 = .ok (.iadd, 1) := by decide +kernel
theorem dX6_measureColours_79 : decode cX6_measureColours 79 = .ok (.iload 9, 2) := by decide +kernel
theorem dX6_measureColours_81 : decode cX6_measureColours 81 = .ok (.iadd, 1) := by decide +kernel
theorem dX6_measureColours_82 : decode cX6_measureColours 82 = .ok (.bipush 8, 2) := by decide +kernel
theorem dX6_measureColours_84 : decode cX6_measureColours 84 = .ok (.invokevirtual 270, 3) := by decide +kernel
theorem dX6_measureColours_87 : decode cX6_measureColours 87 = .ok (.aload_n 0, 1) := by decide +kernel
theorem dX6_measureColours_88 : decode cX6_measureColours 88 = .ok (.getfield 33, 3) := by decide +kernel
theorem dX6_measureColours_91 : decode cX6_measureColours 91 = .ok (.iload 8, 2) := by decide +kernel
theorem dX6_measureColours_93 : decode cX6_measureColours 93 = .ok (.aload_n 0, 1) := by decide +kernel
theorem dX6_measureColours_94 : decode cX6_measureColours 94 = .ok (.getfield 30, 3) := by decide +kernel
theorem dX6_measureColours_97 : decode cX6_measureColours 97 = .ok (.iconst 0, 1) := by decide +kernel
theorem dX6_measureColours_98 : decode cX6_measureColours 98 = .ok (.iaload, 1) := by decide +kernel
theorem dX6_measureColours_99 : decode cX6_measureColours 99 = .ok (.iastore, 1) := by decide +kernel
theorem dX6_measureColours_100 : decode cX6_measureColours 100 = .ok (.aload_n 0, 1) := by decide +kernel
theorem dX6_measureColours_101 : decode cX6_measureColours 101 = .ok (.aload_n 1, 1) := by decide +kernel
theorem dX6_measureColours_102 : decode cX6_measureColours 102 = .ok (.getfield 234, 3) := by decide +kernel
theorem dX6_measureColours_105 : decode cX6_measureColours 105 = .ok (.iload_n 3, 1) := by decide +kernel
theorem dX6_measureColours_106 : decode cX6_measureColours 106 = .ok (.bipush 15, 2) := by decide +kernel
theorem dX6_measureColours_108 : decode cX6_measureColours 108 = .ok (.iconst 4, 1) := by decide +kernel
theorem dX6_measureColours_109 : decode cX6_measureColours 109 = .ok (.iload 7, 2) := by decide +kernel
theorem dX6_measureColours_111 : decode cX6_measureColours 111 = .ok (.imul, 1) := by decide +kernel
theorem dX6_measureColours_112 : decode cX6_measureColours 112 = .ok (.iadd, 1) := by decide +kernel
theorem dX6_measureColours_113 : decode cX6_measureColours 113 = .ok (.iload 8, 2) := by decide +kernel
theorem dX6_measureColours_115 : decode cX6_measureColours 115 = .ok (.iadd, 1) := by decide +kernel
theorem dX6_measureColours_116 : decode cX6_measureColours 116 = .ok (.invokestatic 237, 3) := by decide +kernel
theorem dX6_measureColours_119 : decode cX6_measureColours 119 = .ok (.iconst 1, 1) := by decide +kernel
theorem dX6_measureColours_120 : decode cX6_measureColours 120 = .ok (.iload 4, 2) := by decide +kernel
theorem dX6_measureColours_122 : decode cX6_measureColours 122 = .ok (.iload 5, 2) := by decide +kernel
theorem dX6_measureColours_124 : decode cX6_measureColours 124 = .ok (.invokevirtual 273, 3) := by decide +kernel
theorem dX6_measureColours_127 : decode cX6_measureColours 127 = .ok (.istore 11, 2) := by decide +kernel
theorem dX6_measureColours_129 : decode cX6_measureColours 129 = .ok (.aload_n 1, 1) := by decide +kernel
theorem dX6_measureColours_130 : decode cX6_measureColours 130 = .ok (.getfield 277, 3) := by decide +kernel
theorem dX6_measureColours_133 : decode cX6_measureColours 133 = .ok (.bipush 24, 2) := by decide +kernel
theorem dX6_measureColours_135 : decode cX6_measureColours 135 = .ok (.iload_n 3, 1) := by decide +kernel
theorem dX6_measureColours_136 : decode cX6_measureColours 136 = .ok (.imul, 1) := by decide +kernel
theorem dX6_measureColours_137 : decode cX6_measureColours 137 = .ok (.bipush 12, 2) := by decide +kernel
theorem dX6_measureColours_139 : decode cX6_measureColours 139 = .ok (.iadd, 1) := by decide +kernel
theorem dX6_measureColours_140 : decode cX6_measureColours 140 = .ok (.iconst 4, 1) := by decide +kernel
theorem dX6_measureColours_141 : decode cX6_measureColours 141 = .ok (.iload 7, 2) := by decide +kernel
theorem dX6_measureColours_143 : decode cX6_measureColours 143 = .ok (.imul, 1) := by decide +kernel
theorem dX6_measureColours_144 : decode cX6_measureColours 144 = .ok (.iadd, 1) := by decide +kernel
theorem dX6_measureColours_145 : decode cX6_measureColours 145 = .ok (.iload 8, 2) := by decide +kernel
theorem dX6_measureColours_147 : decode cX6_measureColours 147 = .ok (.iadd, 1) := by decide +kernel
theorem dX6_measureColours_148 : decode cX6_measureColours 148 = .ok (.iload 11, 2) := by decide +kernel
theorem dX6_measureColours_150 : decode cX6_measureColours 150 = .ok (.iastore, 1) := by decide +kernel
theorem dX6_measureColours_151 : decode cX6_measureColours 151 = .ok (.iload 11, 2) := by decide +kernel
theorem dX6_measureColours_153 : decode cX6_measureColours 153 = .ok (.ifCond .le 7, 3) := by decide +kernel
theorem dX6_measureColours_156 : decode cX6_measureColours 156 = .ok (.iconst 2, 1) := by decide +kernel
theorem dX6_measureColours_157 : decode cX6_measureColours 157 = .ok (.goto 5, 3) := by decide +kernel
theorem dX6_measureColours_160 : decode cX6_measureColours 160 = .ok (.iload 6, 2) := by decide +kernel
theorem dX6_measureColours_162 : decode cX6_measureColours 162 = .ok (.istore 6, 2) := by decide +kernel
theorem dX6_measureColours_164 : decode cX6_measureColours 164 = .ok (.iinc 8 1, 3) := by decide +kernel
theorem dX6_measureColours_167 : decode cX6_measureColours 167 = .ok (.goto (-152), 3) := by decide +kernel
theorem dX6_measureColours_170 : decode cX6_measureColours 170 = .ok (.aload_n 0, 1) := by decide +kernel
theorem dX6_measureColours_171 : decode cX6_measureColours 171 = .ok (.invokevirtual 256, 3) := by decide +kernel
theorem dX6_measureColours_174 : decode cX6_measureColours 174 = .ok (.iload_n 3, 1) := by decide +kernel
theorem dX6_measureColours_175 : decode cX6_measureColours 175 = .ok (.bipush 16, 2) := by decide +kernel
theorem dX6_measureColours_177 : decode cX6_measureColours 177 = .ok (.iload 7, 2) := by decide +kernel
theorem dX6_measureColours_179 : decode cX6_measureColours 179 = .ok (.iadd, 1) := by decide +kernel
theorem dX6_measureColours_180 : decode cX6_measureColours 180 = .ok (.invokestatic 237, 3) := by decide +kernel
theorem dX6_measureColours_183 : decode cX6_measureColours 183 = .ok (.istore 8, 2) := by decide +kernel
theorem dX6_measureColours_185 : decode cX6_measureColours 185 = .ok (.iconst 0, 1) := by decide +kernel
theorem dX6_measureColours_186 : decode cX6_measureColours 186 = .ok (.istore 9, 2) := by decide +kernel
theorem dX6_measureColours_188 : decode cX6_measureColours 188 = .ok (.iload 9, 2) := by decide +kernel
theorem dX6_measureColours_190 : decode cX6_measureColours 190 = .ok (.iconst 4, 1) := by decide +kernel
theorem dX6_measureColours_191 : decode cX6_measureColours 191 = .ok (.if_icmp .ge 79, 3) := by decide +kernel
theorem dX6_measureColours_194 : decode cX6_measureColours 194 = .ok (.aload_n 0, 1) := by decide +kernel
theorem dX6_measureColours_195 : decode cX6_measureColours 195 = .ok (.getfield 33, 3) := by decide +kernel
theorem dX6_measureColours_198 : decode cX6_measureColours 198 = .ok (.iload 9, 2) := by decide +kernel
theorem dX6_measureColours_200 : decode cX6_measureColours 200 = .ok (.iaload, 1) := by decide +kernel
theorem dX6_measureColours_201 : decode cX6_measureColours 201 = .ok (.getstatic 259, 3) := by decide +kernel
theorem dX6_measureColours_204 : decode cX6_measureColours 204 = .ok (.iload 4, 2) := by decide +kernel
theorem dX6_measureColours_206 : decode cX6_measureColours 206 = .ok (.iconst 0, 1) := by decide +kernel
theorem dX6_measureColours_207 : decode cX6_measureColours 207 = .ok (.iconst 0, 1) := by decide +kernel
theorem dX6_measureColours_208 : decode cX6_measureColours 208 = .ok (.invokestatic 227, 3) := by decide +kernel
theorem dX6_measureColours_211 : decode cX6_measureColours 211 = .ok (.iaload, 1) := by decide +kernel
theorem dX6_measureColours_212 : decode cX6_measureColours 212 = .ok (.iconst 2, 1) := by decide +kernel
theorem dX6_measureColours_213 : decode cX6_measureColours 213 = .ok (.iload 4, 2) := by decide +kernel
theorem dX6_measureColours_215 : decode cX6_measureColours 215 = .ok (.iload 5, 2) := by decide +kernel
theorem dX6_measureColours_217 : decode cX6_measureColours 217 = .ok (.invokestatic 262, 3) := by decide +kernel
theorem dX6_measureColours_220 : decode cX6_measureColours 220 = .ok (.imul, 1) := by decide +kernel
theorem dX6_measureColours_221 : decode cX6_measureColours 221 = .ok (.bipush 16, 2) := by decide +kernel
theorem dX6_measureColours_223 : decode cX6_measureColours 223 = .ok (.iload 4, 2) := by decide +kernel
theorem dX6_measureColours_225 : decode cX6_measureColours 225 = .ok (.bipush 6, 2) := by decide +kernel
theorem dX6_measureColours_227 : decode cX6_measureColours 227 = .ok (.idiv, 1) := by decide +kernel
theorem dX6_measureColours_228 : decode cX6_measureColours 228 = .ok (.iadd, 1) := by decide +kernel
theorem dX6_measureColours_229 : decode cX6_measureColours 229 = .ok (.invokestatic 266, 3) := by decide +kernel
theorem dX6_measureColours_232 : decode cX6_measureColours 232 = .ok (.istore 10, 2) := by decide +kernel
theorem dX6_measureColours_234 : decode cX6_measureColours 234 = .ok (.aload_n 1, 1) := by decide +kernel
theorem dX6_measureColours_235 : decode cX6_measureColours 235 = .ok (.getfield 234, 3) := by decide +kernel
theorem dX6_measureColours_238 : decode cX6_measureColours 238 = .ok (.iload 8, 2) := by decide +kernel
theorem dX6_measureColours_240 : decode cX6_measureColours 240 = .ok (.iload 9, 2) := by decide +kernel
theorem dX6_measureColours_242 : decode cX6_measureColours 242 = .ok (.iadd, 1) := by decide +kernel
theorem dX6_measureColours_243 : decode cX6_measureColours 243 = .ok (.iload 10, 2) := by decide +kernel
theorem dX6_measureColours_245 : decode cX6_measureColours 245 = .ok (.iastore, 1) := by decide +kernel
theorem dX6_measureColours_246 : decode cX6_measureColours 246 = .ok (.iload 10, 2) := by decide +kernel
theorem dX6_measureColours_248 : decode cX6_measureColours 248 = .ok (.ifCond .eq 12, 3) := by decide +kernel
theorem dX6_measureColours_251 : decode cX6_measureColours 251 = .ok (.iload 6, 2) := by decide +kernel
theorem dX6_measureColours_253 : decode cX6_measureColours 253 = .ok (.ifCond .ne 7, 3) := by decide +kernel
theorem dX6_measureColours_256 : decode cX6_measureColours 256 = .ok (.iconst 1, 1) := by decide +kernel
theorem dX6_measureColours_257 : decode cX6_measureColours 257 = .ok (.goto 5, 3) := by decide +kernel
theorem dX6_measureColours_260 : decode cX6_measureColours 260 = .ok (.iload 6, 2) := by decide +kernel
theorem dX6_measureColours_262 : decode cX6_measureColours 262 = .ok (.istore 6, 2) := by decide +kernel
theorem dX6_measureColours_264 : decode cX6_measureColours 264 = .ok (.iinc 9 1, 3) := by decide +kernel
theorem dX6_measureColours_267 : decode cX6_measureColours 267 = .ok (.goto (-79), 3) := by decide +kernel
theorem dX6_measureColours_270 : decode cX6_measureColours 270 = .ok (.iinc 7 1, 3) := by decide +kernel
theorem dX6_measureColours_273 : decode cX6_measureColours 273 = .ok (.goto (-267), 3) := by decide +kernel
theorem dX6_measureColours_276 : decode cX6_measureColours 276 = .ok (.iload 6, 2) := by decide +kernel
theorem dX6_measureColours_278 : decode cX6_measureColours 278 = .ok (.ireturn, 1) := by decide +kernel
def FX6_measureColours (G : GG) (M : DD) (a : Nat) (p0 : Option Nat) (p1 : Option Nat) (p2 : Int32) (p3 : Int32) (p4 : Int32) : Option (DD × Int32) :=
  bnd (itr (fun (s2 : Int32 × Int32 × DD) => ((if ((3 : Int32)) ≤ s2.2.1 then (some (.inr (s2.1, s2.2.1, s2.2.2))) else
  (bnd (itr (fun (s7 : Int32 × Int32 × DD) => ((if ((4 : Int32)) ≤ s7.2.1 then (some (.inr (s7.1, s7.2.1, s7.2.2))) else
  (ltt (s7.2.1 - s7.2.1 / ((2 : Int32)) * ((2 : Int32))) fun x38 =>
  ltt ((x38 * ((4 : Int32)))) fun x39 =>
  ltt (s7.2.1 / ((2 : Int32))) fun x40 =>
  ltt ((x40 * ((4 : Int32)))) fun x41 =>
  dr G 15 p1 fun b42 =>
  chk (¬ (s2.2.1 < 0 ∨ G.2.2 b42 ≤ s2.2.1.toNatClampNeg)) <|
  dr G 9 p0 fun b43 =>
  bnd (FX6_colourAt G s7.2.2 ((s7.2.2.2 b43 0)) p2 x39 x41) fun y44 =>
  dr G 4 ((y44.1.2 b43 0)) fun b45 =>
  ltt (y44.1.1 b45 1) fun x46 =>
  ltt ((((8 : Int32)) * x46)) fun x47 =>
  ltt ((((64 : Int32)) * s2.2.1)) fun x48 =>
  ltt ((((192 : Int32)) + x48)) fun x49 =>
  ltt ((((8 : Int32)) * x41)) fun x50 =>
  ltt ((x49 + x50)) fun x51 =>
  ltt ((x51 + x39)) fun x52 =>
  bnd (FX6_turn G y44.1 a ((s7.2.2.2 b42 s2.2.1.toNatClampNeg)) y44.2 x47 x52 ((8 : Int32))) fun y53 =>
  dr G 13 ((y53.2 a 6)) fun b54 =>
  chk (¬ (((0 : Int32)) < 0 ∨ G.2.2 b54 ≤ ((0 : Int32)).toNatClampNeg)) <|
  ltt (y53.1 b54 ((0 : Int32)).toNatClampNeg) fun x55 =>
  dr G 13 ((y53.2 a 7)) fun b56 =>
  chk (¬ (s7.2.1 < 0 ∨ G.2.2 b56 ≤ s7.2.1.toNatClampNeg)) <|
  ltt (uI y53 b56 s7.2.1.toNatClampNeg x55) fun M57 =>
  ltt ((((4 : Int32)) * s2.2.1)) fun x58 =>
  ltt ((((15 : Int32)) + x58)) fun x59 =>
  ltt ((x59 + s7.2.1)) fun x60 =>
  bnd (FX9_levelAt G M57 p2 x60) fun y61 =>
  bnd (FX6_measure G y61.1 a ((M57.2 b43 9)) y61.2 ((1 : Int32)) p3 p4) fun y62 =>
  ltt ((((24 : Int32)) * p2)) fun x63 =>
  ltt ((x63 + ((12 : Int32)))) fun x64 =>
  ltt ((((4 : Int32)) * s2.2.1)) fun x65 =>
  ltt ((x64 + x65)) fun x66 =>
  ltt ((x66 + s7.2.1)) fun x67 =>
  dr G 13 ((y62.1.2 b43 8)) fun b68 =>
  chk (¬ (x67 < 0 ∨ G.2.2 b68 ≤ x67.toNatClampNeg)) <|
  ltt (uI y62.1 b68 x67.toNatClampNeg y62.2) fun M69 =>
  bnd (if y62.2 ≤ ((0 : Int32)) then (some (s7.1)) else
  (some ((2 : Int32)))) fun (y70 : Int32) =>
  ltt (s7.2.1 + (1 : Int32)) fun x71 =>
  some (.inl (y70, x71, M69)))) : Option ((Int32 × Int32 × DD) ⊕ (Int32 × Int32 × DD)))) 1000000 (s2.1, (0 : Int32), s2.2.2)) fun (y6 : Int32 × Int32 × DD) =>
  bnd (FX6_turnFour G y6.2.2 a) fun y9 =>
  ltt ((((16 : Int32)) + s2.2.1)) fun x10 =>
  bnd (FX9_levelAt G y9 p2 x10) fun y11 =>
  bnd (itr (fun (s13 : Int32 × Int32 × DD) => ((if ((4 : Int32)) ≤ s13.2.1 then (some (.inr (s13.1, s13.2.1, s13.2.2))) else
  (dr G 13 ((s13.2.2.2 a 7)) fun b18 =>
  chk (¬ (s13.2.1 < 0 ∨ G.2.2 b18 ≤ s13.2.1.toNatClampNeg)) <|
  ltt (s13.2.2.1 b18 s13.2.1.toNatClampNeg) fun x19 =>
  bnd (FX6_normAt G s13.2.2 p3 ((0 : Int32)) ((0 : Int32))) fun y20 =>
  chk (¬ (y20.2 < 0 ∨ 18 ≤ y20.2.toNatClampNeg)) <|
  ltt ((sT 12).getD y20.2.toNatClampNeg 0) fun x21 =>
  bnd (FX6_roundingOf G y20.1 p3 p4) fun y22 =>
  ltt ((((2 : Int32)) * y22.2)) fun x23 =>
  ltt (p3 / ((6 : Int32))) fun x24 =>
  ltt ((((16 : Int32)) + x24)) fun x25 =>
  bnd (FX6_measured G y22.1 x19 x21 x23 x25) fun y26 =>
  dr G 9 p0 fun b27 =>
  ltt ((y11.2 + s13.2.1)) fun x28 =>
  dr G 13 ((y26.1.2 b27 9)) fun b29 =>
  chk (¬ (x28 < 0 ∨ G.2.2 b29 ≤ x28.toNatClampNeg)) <|
  ltt (uI y26.1 b29 x28.toNatClampNeg y26.2) fun M30 =>
  bnd (if y26.2 = ((0 : Int32)) then (some (s13.1)) else
  (bnd (if s13.1 = ((0 : Int32)) then (some ((1 : Int32))) else
  (some (s13.1))) fun (y34 : Int32) =>
  some (y34))) fun (y31 : Int32) =>
  ltt (s13.2.1 + (1 : Int32)) fun x32 =>
  some (.inl (y31, x32, M30)))) : Option ((Int32 × Int32 × DD) ⊕ (Int32 × Int32 × DD)))) 1000000 (y6.1, (0 : Int32), y11.1)) fun (y12 : Int32 × Int32 × DD) =>
  ltt (s2.2.1 + (1 : Int32)) fun x15 =>
  some (.inl (y12.1, x15, y12.2.2)))) : Option ((Int32 × Int32 × DD) ⊕ (Int32 × Int32 × DD)))) 1000000 ((0 : Int32), (1 : Int32), M)) fun (y1 : Int32 × Int32 × DD) =>
  some (y1.2.2, y1.1)
set_option maxHeartbeats 4000000 in
set_option maxRecDepth 100000 in
theorem kX6_measureColours (l : Launch) (D : va_G) (ct : CT) (ad : Nat → Nat) (Z : Nat → Nat) (G : GG) (M : DD) (sz : Nat) (a : Nat) (p0 : Option Nat) (p1 : Option Nat) (p2 : Int32) (p3 : Int32) (p4 : Int32) (y : DD × Int32) (hc : a < G.1) (hk : G.2.1 a = 6) (hF : FX6_measureColours G M a p0 p1 p2 p3 p4 = some y) : Met l yX6_measureColours wuX6_measureColours ({ frames := 2, cells := 0, slots := 0, locals := 54 }) (va_Pc [.ref (ad a), va_re ad p0, va_re ad p1, .int p2, .int p3, .int p4] (kB D ct ad Z G M sz)) (va_Qi (fun (q : Int32) (_ : Unit) => q = y.2) (fun _ t => kE D ct ad G (wA ad G sz) y.1 t) (wA ad G sz)) 0 0 (wA ad G sz) := by
  refine Met.ofW (cc := cX6_measureColours) (maxL := 12) (ret := (some .int)) (by decide) rfl ?_
  intro p e s m args below meth c s₁ B hml hv
  obtain ⟨rfl, hsz, hP, hK, hD0, hZ, hN⟩ := hv
  have hx := B.exec
  have hb := B.bytes
  have hr := B.returns
  have hts := atoms_spec (ws := wuX6_measureColours) B.pre
  have hown : s.vm.findClass RX6 = some m.cls := findClass_of_methodNamed B.named
  have hlocks := B.notSynchronized
  subst hsz
  have hD := wD_self (sz := s.heap.size) hD0
  have hA9 : ∀ q, s.heap.size ≤ q → wA ad G s.heap.size q := fun q h => Or.inr h
  generalize hAe : wA ad G s.heap.size = A at hD hA9 hZ ⊢
  have hS : va_S A s.heap s.heap [] := va_S.rf
  have hl := lv_entry ([.ref (ad a), va_re ad p0, va_re ad p1, .int p2, .int p3, .int p4]) (n := 12) (by cases p0 <;> cases p1 <;> exact Nat.le_of_ble_eq_true rfl)
  rw [lg_entry_eq]
  generalize (lg_sl ([.ref (ad a), va_re ad p0, va_re ad p1, .int p2, .int p3, .int p4]) ++ List.replicate (12 - (lg_sl ([.ref (ad a), va_re ad p0, va_re ad p1, .int p2, .int p3, .int p4])).length) Slot.unset).toArray = ls at hl ⊢
  have hl : lv_has ls 12 [(0, .ref (ad a)), (1, va_re ad p0), (2, va_re ad p1), (3, .int p2), (4, .int p3), (5, .int p4)] := by have e9 : lv_args 0 [.ref (ad a), va_re ad p0, va_re ad p1, .int p2, .int p3, .int p4] = [(0, .ref (ad a)), (1, va_re ad p0), (2, va_re ad p1), (3, .int p2), (4, .int p3), (5, .int p4)] := (by cases p0 <;> cases p1 <;> rfl); rw [e9] at hl; exact hl
  unfold FX6_measureColours at hF
  refine lv_iconst (v := (0 : Int32)) hx hb dX6_measureColours_0 (by decide) ?_
  refine lv_istore (lv' := [(6, .int (0 : Int32)), (0, .ref (ad a)), (1, va_re ad p0), (2, va_re ad p1), (3, .int p2), (4, .int p3), (5, .int p4)]) hx hb dX6_measureColours_1 hl (by decide) rfl (fun ls hl => ?_)
  refine lv_iconst (v := (1 : Int32)) hx hb dX6_measureColours_3 (by decide) ?_
  refine lv_istore (lv' := [(7, .int (1 : Int32)), (6, .int (0 : Int32)), (0, .ref (ad a)), (1, va_re ad p0), (2, va_re ad p1), (3, .int p2), (4, .int p3), (5, .int p4)]) hx hb dX6_measureColours_4 hl (by decide) rfl (fun ls hl => ?_)
  obtain ⟨y1, hy1, hF⟩ := bnd_some hF
  have K1 : ∀ (H : Heap) (locs : List Loc) (ls : Array Slot), va_P D classes (wld ct ad G y1.2.2) H → va_D A (wld ct ad G y1.2.2) → va_S A s.heap H locs → lv_has ls 12 [(7, .int y1.2.1), (6, .int y1.1), (0, .ref (ad a)), (1, va_re ad p0), (2, va_re ad p1), (3, .int p2), (4, .int p3), (5, .int p4)] → W p l e (headSpec wuX6_measureColours ({ frames := 2, cells := 0, slots := 0, locals := 54 })).room s m ([.ref (ad a), va_re ad p0, va_re ad p1, .int p2, .int p3, .int p4] : List Value).toArray below meth c H locs 0 0 (MQ below (va_Qi (fun (q : Int32) (_ : Unit) => q = y.2) (fun _ t => kE D ct ad G A y.1 t) A) ([.ref (ad a), va_re ad p0, va_re ad p1, .int p2, .int p3, .int p4] : List Value).toArray s 0 0 A) (F0 m 276 ls []) := by
    intro H locs ls hP hD hS hl
    refine lv_iload hx hb dX6_measureColours_276 (lv_at hl 1 rfl) ?_
    obtain rfl := Option.some.inj hF
    exact W.iret (v := y1.1) hx hb hr (fun t ht hW => ⟨⟨_, (), rfl, rfl, ⟨by rw [ht]; exact hP, va_K.moved hW.alike hK, hD⟩⟩, hS.F ht⟩) hS.2.2 dX6_measureColours_278
  clear hF
  refine itr_rule (fun (s2 : Int32 × Int32 × DD) => ∀ (H : Heap) (locs : List Loc) (ls : Array Slot), va_P D classes (wld ct ad G s2.2.2) H → va_D A (wld ct ad G s2.2.2) → va_S A s.heap H locs → lv_has ls 12 [(7, .int s2.2.1), (6, .int s2.1), (0, .ref (ad a)), (1, va_re ad p0), (2, va_re ad p1), (3, .int p2), (4, .int p3), (5, .int p4)] → W p l e (headSpec wuX6_measureColours ({ frames := 2, cells := 0, slots := 0, locals := 54 })).room s m ([.ref (ad a), va_re ad p0, va_re ad p1, .int p2, .int p3, .int p4] : List Value).toArray below meth c H locs 0 0 (MQ below (va_Qi (fun (q : Int32) (_ : Unit) => q = y.2) (fun _ t => kE D ct ad G A y.1 t) A) ([.ref (ad a), va_re ad p0, va_re ad p1, .int p2, .int p3, .int p4] : List Value).toArray s 0 0 A) (F0 m 6 ls [])) ?_ _ _ hy1 _ _ _ hP hD hS (lv_sub hl [0, 1, 2, 3, 4, 5, 6, 7] rfl)
  rintro s2 ⟨z4, hF, hwz4⟩ H locs ls hP hD hS hl
  try dsimp only at hF
  refine lv_iload hx hb dX6_measureColours_6 (lv_at hl 0 rfl) ?_
  refine lv_iconst (v := (3 : Int32)) hx hb dX6_measureColours_8 (by decide) ?_
  refine lv_icmp_ge (tgt := 276) hx hb dX6_measureColours_9 (by decide) (fun c5 => ?_) (fun c5 => ?_)
  · rw [if_pos c5] at hF
    obtain rfl := Option.some.inj hF
    subst hwz4
    exact K1 _ _ _ hP hD hS (lv_sub hl [0, 1, 2, 3, 4, 5, 6, 7] rfl)
  · rw [if_neg c5] at hF
    refine lv_iconst (v := (0 : Int32)) hx hb dX6_measureColours_12 (by decide) ?_
    refine lv_istore (lv' := [(8, .int (0 : Int32)), (7, .int s2.2.1), (6, .int s2.1), (0, .ref (ad a)), (1, va_re ad p0), (2, va_re ad p1), (3, .int p2), (4, .int p3), (5, .int p4)]) hx hb dX6_measureColours_13 hl (by decide) rfl (fun ls hl => ?_)
    obtain ⟨y6, hy6, hF⟩ := bnd_some hF
    have K6 : ∀ (H : Heap) (locs : List Loc) (ls : Array Slot), va_P D classes (wld ct ad G y6.2.2) H → va_D A (wld ct ad G y6.2.2) → va_S A s.heap H locs → lv_has ls 12 [(8, .int y6.2.1), (7, .int s2.2.1), (6, .int y6.1), (0, .ref (ad a)), (1, va_re ad p0), (2, va_re ad p1), (3, .int p2), (4, .int p3), (5, .int p4)] → W p l e (headSpec wuX6_measureColours ({ frames := 2, cells := 0, slots := 0, locals := 54 })).room s m ([.ref (ad a), va_re ad p0, va_re ad p1, .int p2, .int p3, .int p4] : List Value).toArray below meth c H locs 0 0 (MQ below (va_Qi (fun (q : Int32) (_ : Unit) => q = y.2) (fun _ t => kE D ct ad G A y.1 t) A) ([.ref (ad a), va_re ad p0, va_re ad p1, .int p2, .int p3, .int p4] : List Value).toArray s 0 0 A) (F0 m 170 ls []) := by
      intro H locs ls hP hD hS hl
      refine lv_aload_n hx hb dX6_measureColours_170 rfl (lv_at hl 3 rfl) ?_
      obtain ⟨y9, hy9, hF⟩ := bnd_some hF
      have hf9 := wA_in hD hA9 hS
      refine va_callv (va_runV (As := []) (rest := []) ⟨hx, hb, hml, hown, hts⟩ (kX6_turnFour l D ct ad Z G y6.2.2 H.size a y9 hc hk hy9) (cwV 0 hts gX6_measureColours_X6_turnFour rfl rfl rfl (by decide +kernel) ⟨Nat.le_of_ble_eq_true rfl, Nat.le_of_ble_eq_true rfl⟩) ⟨fun a U g mk q => by obtain ⟨q0, q1, qP, qK, qD, qZ, qN⟩ := q; exact ⟨q0, q1, qP, va_K.moved (u := U) (U := U.calling g mk a) (Vm.Alike.refl U.vm) qK, qD, sF.moved (u := U) (U := U.calling g mk a) (Vm.Alike.refl U.vm) qZ, nF.same rfl qN⟩, va_recv hK hP (ci := 6) (q0 := a) rfl (wld_o ct ad G y6.2.2 hc hk (by decide)), fun U hU hW => ⟨rfl, by rw [hU], by rw [hU]; exact hP, va_K.moved hW.alike hK, hD.weaken (fun _ _ _ _ => trivial), by rw [hU]; exact ((hZ.kept hS.2.1).narrow hf9).moved hW.alike, hN.warm hW⟩⟩ rfl rfl hl.1 rfl (lv_room (Nat.le_of_ble_eq_true rfl)) dX6_measureColours_171 ⟨(Nat.zero_le _), (Nat.zero_le _)⟩) hS (fun q _ h => hf9 q h) hf9 (fun u t H locs ht hvm hw hB hz1 hk1 hS => ?_)
      obtain ⟨hP, hK9, hD9⟩ := hB
      rw [ht] at hP
      have hD := hD9.weaken (fun _ q _ h => hf9 q.1 h)
      refine lv_iload_n hx hb dX6_measureColours_174 rfl (lv_at hl 6 rfl) ?_
      refine lv_bipush (v := (16 : Int32)) hx hb dX6_measureColours_175 (by decide) ?_
      refine lv_iload hx hb dX6_measureColours_177 (lv_at hl 1 rfl) ?_
      refine lv_iadd hx hb dX6_measureColours_179 ?_
      obtain ⟨x10, ex10, hF⟩ := ltt_some hF
      refine lv_topi (fun zx10 ezx10 => ?_)
      obtain rfl : x10 = zx10 := ex10.trans ezx10.symm
      obtain ⟨y11, hy11, hF⟩ := bnd_some hF
      have hf9 := wA_in hD hA9 hS
      refine va_calli (va_runS (As := [.int p2, .int x10]) (rest := []) ⟨hx, hb, hml, hown, hts⟩ (kX9_levelAt l D ct ad Z G y9 H.size p2 x10 y11 hy11) (va_cwS 2 hts gX6_measureColours_X9_levelAt rfl rfl rfl (by decide +kernel) ⟨Nat.le_of_ble_eq_true rfl, Nat.le_of_ble_eq_true rfl⟩) ⟨fun a U g mk q => by obtain ⟨q0, q1, qP, qK, qD, qZ, qN⟩ := q; exact ⟨q0, q1, qP, va_K.moved (u := U) (U := U.calling g mk a) (Vm.Alike.refl U.vm) qK, qD, sF.moved (u := U) (U := U.calling g mk a) (Vm.Alike.refl U.vm) qZ, nF.same rfl qN⟩, fun U hU hW => ⟨rfl, by rw [hU], by rw [hU]; exact hP, va_K.moved hW.alike hK, hD.weaken (fun _ _ _ _ => trivial), by rw [hU]; exact ((hZ.kept hS.2.1).narrow hf9).moved hW.alike, hN.warm hW⟩⟩ rfl rfl hl.1 rfl (lv_room (Nat.le_of_ble_eq_true rfl)) dX6_measureColours_180 ⟨(Nat.zero_le _), (Nat.zero_le _)⟩) hS (fun q _ h => hf9 q h) hf9 (fun r u t H locs ht hvm hw hB hz1 hk1 hS => ?_)
      obtain ⟨hP, hK9, hD9⟩ := hB
      rw [ht] at hP
      try dsimp only at hw
      subst hw
      have hD := hD9.weaken (fun _ q _ h => hf9 q.1 h)
      refine lv_istore (lv' := [(8, .int y11.2), (7, .int s2.2.1), (6, .int y6.1), (0, .ref (ad a)), (1, va_re ad p0), (2, va_re ad p1), (3, .int p2), (4, .int p3), (5, .int p4)]) hx hb dX6_measureColours_183 hl (by decide) rfl (fun ls hl => ?_)
      refine lv_iconst (v := (0 : Int32)) hx hb dX6_measureColours_185 (by decide) ?_
      refine lv_istore (lv' := [(9, .int (0 : Int32)), (8, .int y11.2), (7, .int s2.2.1), (6, .int y6.1), (0, .ref (ad a)), (1, va_re ad p0), (2, va_re ad p1), (3, .int p2), (4, .int p3), (5, .int p4)]) hx hb dX6_measureColours_186 hl (by decide) rfl (fun ls hl => ?_)
      obtain ⟨y12, hy12, hF⟩ := bnd_some hF
      have K12 : ∀ (H : Heap) (locs : List Loc) (ls : Array Slot), va_P D classes (wld ct ad G y12.2.2) H → va_D A (wld ct ad G y12.2.2) → va_S A s.heap H locs → lv_has ls 12 [(9, .int y12.2.1), (8, .int y11.2), (7, .int s2.2.1), (6, .int y12.1), (0, .ref (ad a)), (1, va_re ad p0), (2, va_re ad p1), (3, .int p2), (4, .int p3), (5, .int p4)] → W p l e (headSpec wuX6_measureColours ({ frames := 2, cells := 0, slots := 0, locals := 54 })).room s m ([.ref (ad a), va_re ad p0, va_re ad p1, .int p2, .int p3, .int p4] : List Value).toArray below meth c H locs 0 0 (MQ below (va_Qi (fun (q : Int32) (_ : Unit) => q = y.2) (fun _ t => kE D ct ad G A y.1 t) A) ([.ref (ad a), va_re ad p0, va_re ad p1, .int p2, .int p3, .int p4] : List Value).toArray s 0 0 A) (F0 m 270 ls []) := by
        intro H locs ls hP hD hS hl
        obtain ⟨x15, ex15, hF⟩ := ltt_some hF
        refine lv_iinc (v := x15) (lv' := [(7, .int x15), (9, .int y12.2.1), (8, .int y11.2), (6, .int y12.1), (0, .ref (ad a)), (1, va_re ad p0), (2, va_re ad p1), (3, .int p2), (4, .int p3), (5, .int p4)]) hx hb dX6_measureColours_270 hl (k := 2) rfl (by rw [ex15]; rfl) (by decide) rfl (fun ls hl => ?_)
        refine lv_goto (tgt := 6) hx hb dX6_measureColours_273 (by decide) ?_
        obtain rfl := Option.some.inj hF
        exact hwz4 _ _ _ hP hD hS (lv_sub hl [0, 3, 4, 5, 6, 7, 8, 9] rfl)
      clear hF
      refine itr_rule (fun (s13 : Int32 × Int32 × DD) => ∀ (H : Heap) (locs : List Loc) (ls : Array Slot), va_P D classes (wld ct ad G s13.2.2) H → va_D A (wld ct ad G s13.2.2) → va_S A s.heap H locs → lv_has ls 12 [(9, .int s13.2.1), (8, .int y11.2), (7, .int s2.2.1), (6, .int s13.1), (0, .ref (ad a)), (1, va_re ad p0), (2, va_re ad p1), (3, .int p2), (4, .int p3), (5, .int p4)] → W p l e (headSpec wuX6_measureColours ({ frames := 2, cells := 0, slots := 0, locals := 54 })).room s m ([.ref (ad a), va_re ad p0, va_re ad p1, .int p2, .int p3, .int p4] : List Value).toArray below meth c H locs 0 0 (MQ below (va_Qi (fun (q : Int32) (_ : Unit) => q = y.2) (fun _ t => kE D ct ad G A y.1 t) A) ([.ref (ad a), va_re ad p0, va_re ad p1, .int p2, .int p3, .int p4] : List Value).toArray s 0 0 A) (F0 m 188 ls [])) ?_ _ _ hy12 _ _ _ hP hD hS (lv_sub hl [0, 1, 2, 3, 4, 5, 6, 7, 8, 9] rfl)
      rintro s13 ⟨z16, hF, hwz16⟩ H locs ls hP hD hS hl
      try dsimp only at hF
      refine lv_iload hx hb dX6_measureColours_188 (lv_at hl 0 rfl) ?_
      refine lv_iconst (v := (4 : Int32)) hx hb dX6_measureColours_190 (by decide) ?_
      refine lv_icmp_ge (tgt := 270) hx hb dX6_measureColours_191 (by decide) (fun c17 => ?_) (fun c17 => ?_)
      · rw [if_pos c17] at hF
        obtain rfl := Option.some.inj hF
        subst hwz16
        exact K12 _ _ _ hP hD hS (lv_sub hl [0, 1, 2, 3, 4, 5, 6, 7, 8, 9] rfl)
      · rw [if_neg c17] at hF
        refine lv_aload_n hx hb dX6_measureColours_194 rfl (lv_at hl 4 rfl) ?_
        refine va_get (D := D) (ci := 6) (v := va_re ad (s13.2.2.2 a 7)) (C := RX6) (T := TX6) (N := 14) hx hb hts (mus hf_X6) hown hK hP a (wld_o ct ad G s13.2.2 hc hk (by decide)) rfl 7 (by decide) (hts (.fieldLink RX6 33 "VideoSuite$Samples" "even" "[I") (mu mw_543)) (fun _ h9 => h9) rfl dX6_measureColours_195 ?_
        refine lv_iload hx hb dX6_measureColours_198 (lv_at hl 0 rfl) ?_
        obtain ⟨b18, ho18, hc18, hk18, hF⟩ := dr_some hF
        refine W_st (st' := [.int s13.2.1, .ref (ad b18)]) (by rw [va_some ho18]) ?_
        obtain ⟨hvc, hF⟩ := chk_some hF
        refine va_iald hx hb hK hP b18 1 (wld_i ct ad G s13.2.2 hc18 hk18) rfl hvc dX6_measureColours_200 ?_
        obtain ⟨x19, ex19, hF⟩ := ltt_some hF
        refine lv_topi (fun zx19 ezx19 => ?_)
        obtain rfl : x19 = zx19 := ex19.trans ezx19.symm
        refine va_gets hx hb (hZ.1 12 (by decide)).1 hS hown (hts (.fieldLink RX6 259 "VideoSuite$Samples" "MEASURE" "[I") (mu mw_2593)) (fun _ h => h) dX6_measureColours_201 ?_
        refine lv_iload hx hb dX6_measureColours_204 (lv_at hl 8 rfl) ?_
        refine lv_iconst (v := (0 : Int32)) hx hb dX6_measureColours_206 (by decide) ?_
        refine lv_iconst (v := (0 : Int32)) hx hb dX6_measureColours_207 (by decide) ?_
        obtain ⟨y20, hy20, hF⟩ := bnd_some hF
        have hf9 := wA_in hD hA9 hS
        refine va_calli (va_runS (As := [.int p3, .int (0 : Int32), .int (0 : Int32)]) (rest := [.ref (Z 12), .int x19]) ⟨hx, hb, hml, hown, hts⟩ (kX6_normAt l D ct ad Z G s13.2.2 H.size p3 ((0 : Int32)) ((0 : Int32)) y20 hy20) (va_cwS 3 hts gX6_measureColours_X6_normAt rfl rfl rfl (by decide +kernel) ⟨Nat.le_of_ble_eq_true rfl, Nat.le_of_ble_eq_true rfl⟩) ⟨fun a U g mk q => by obtain ⟨q0, q1, qP, qK, qD, qZ, qN⟩ := q; exact ⟨q0, q1, qP, va_K.moved (u := U) (U := U.calling g mk a) (Vm.Alike.refl U.vm) qK, qD, sF.moved (u := U) (U := U.calling g mk a) (Vm.Alike.refl U.vm) qZ, nF.same rfl qN⟩, fun U hU hW => ⟨rfl, by rw [hU], by rw [hU]; exact hP, va_K.moved hW.alike hK, hD.weaken (fun _ _ _ _ => trivial), by rw [hU]; exact ((hZ.kept hS.2.1).narrow hf9).moved hW.alike, hN.warm hW⟩⟩ rfl rfl hl.1 rfl (lv_room (Nat.le_of_ble_eq_true rfl)) dX6_measureColours_208 ⟨(Nat.zero_le _), (Nat.zero_le _)⟩) hS (fun q _ h => hf9 q h) hf9 (fun r u t H locs ht hvm hw hB hz1 hk1 hS => ?_)
        obtain ⟨hP, hK9, hD9⟩ := hB
        rw [ht] at hP
        try dsimp only at hw
        subst hw
        have hD := hD9.weaken (fun _ q _ h => hf9 q.1 h)
        obtain ⟨hvc, hF⟩ := chk_some hF
        refine va_ti (v := .int ((sT 12).getD y20.2.toNatClampNeg 0)) hx hb (hZ.1 12 (by decide)).2 hS hvc rfl dX6_measureColours_211 ?_
        obtain ⟨x21, ex21, hF⟩ := ltt_some hF
        refine lv_topi (fun zx21 ezx21 => ?_)
        obtain rfl : x21 = zx21 := ex21.trans ezx21.symm
        refine lv_iconst (v := (2 : Int32)) hx hb dX6_measureColours_212 (by decide) ?_
        refine lv_iload hx hb dX6_measureColours_213 (lv_at hl 8 rfl) ?_
        refine lv_iload hx hb dX6_measureColours_215 (lv_at hl 9 rfl) ?_
        obtain ⟨y22, hy22, hF⟩ := bnd_some hF
        have hf9 := wA_in hD hA9 hS
        refine va_calli (va_runS (As := [.int p3, .int p4]) (rest := [.int (2 : Int32), .int x21, .int x19]) ⟨hx, hb, hml, hown, hts⟩ (kX6_roundingOf l D ct ad Z G y20.1 H.size p3 p4 y22 hy22) (va_cwS 2 hts gX6_measureColours_X6_roundingOf rfl rfl rfl (by decide +kernel) ⟨Nat.le_of_ble_eq_true rfl, Nat.le_of_ble_eq_true rfl⟩) ⟨fun a U g mk q => by obtain ⟨q0, q1, qP, qK, qD, qZ, qN⟩ := q; exact ⟨q0, q1, qP, va_K.moved (u := U) (U := U.calling g mk a) (Vm.Alike.refl U.vm) qK, qD, sF.moved (u := U) (U := U.calling g mk a) (Vm.Alike.refl U.vm) qZ, nF.same rfl qN⟩, fun U hU hW => ⟨rfl, by rw [hU], by rw [hU]; exact hP, va_K.moved hW.alike hK, hD.weaken (fun _ _ _ _ => trivial), by rw [hU]; exact ((hZ.kept hS.2.1).narrow hf9).moved hW.alike, hN.warm hW⟩⟩ rfl rfl hl.1 rfl (lv_room (Nat.le_of_ble_eq_true rfl)) dX6_measureColours_217 ⟨(Nat.zero_le _), (Nat.zero_le _)⟩) hS (fun q _ h => hf9 q h) hf9 (fun r u t H locs ht hvm hw hB hz1 hk1 hS => ?_)
        obtain ⟨hP, hK9, hD9⟩ := hB
        rw [ht] at hP
        try dsimp only at hw
        subst hw
        have hD := hD9.weaken (fun _ q _ h => hf9 q.1 h)
        refine lv_imul hx hb dX6_measureColours_220 ?_
        obtain ⟨x23, ex23, hF⟩ := ltt_some hF
        refine lv_topi (fun zx23 ezx23 => ?_)
        obtain rfl : x23 = zx23 := ex23.trans ezx23.symm
        refine lv_bipush (v := (16 : Int32)) hx hb dX6_measureColours_221 (by decide) ?_
        refine lv_iload hx hb dX6_measureColours_223 (lv_at hl 8 rfl) ?_
        refine lv_bipush (v := (6 : Int32)) hx hb dX6_measureColours_225 (by decide) ?_
        refine lv_idiv hx hb dX6_measureColours_227 (by decide) ?_
        obtain ⟨x24, ex24, hF⟩ := ltt_some hF
        refine lv_topi (fun zx24 ezx24 => ?_)
        obtain rfl : x24 = zx24 := ex24.trans ezx24.symm
        refine lv_iadd hx hb dX6_measureColours_228 ?_
        obtain ⟨x25, ex25, hF⟩ := ltt_some hF
        refine lv_topi (fun zx25 ezx25 => ?_)
        obtain rfl : x25 = zx25 := ex25.trans ezx25.symm
        obtain ⟨y26, hy26, hF⟩ := bnd_some hF
        have hf9 := wA_in hD hA9 hS
        refine va_calli (va_runS (As := [.int x19, .int x21, .int x23, .int x25]) (rest := []) ⟨hx, hb, hml, hown, hts⟩ (kX6_measured l D ct ad Z G y22.1 H.size x19 x21 x23 x25 y26 hy26) (va_cwS 4 hts gX6_measureColours_X6_measured rfl rfl rfl (by decide +kernel) ⟨Nat.le_of_ble_eq_true rfl, Nat.le_of_ble_eq_true rfl⟩) ⟨fun a U g mk q => by obtain ⟨q0, q1, qP, qK, qD, qZ, qN⟩ := q; exact ⟨q0, q1, qP, va_K.moved (u := U) (U := U.calling g mk a) (Vm.Alike.refl U.vm) qK, qD, sF.moved (u := U) (U := U.calling g mk a) (Vm.Alike.refl U.vm) qZ, nF.same rfl qN⟩, fun U hU hW => ⟨rfl, by rw [hU], by rw [hU]; exact hP, va_K.moved hW.alike hK, hD.weaken (fun _ _ _ _ => trivial), by rw [hU]; exact ((hZ.kept hS.2.1).narrow hf9).moved hW.alike, hN.warm hW⟩⟩ rfl rfl hl.1 rfl (lv_room (Nat.le_of_ble_eq_true rfl)) dX6_measureColours_229 ⟨(Nat.zero_le _), (Nat.zero_le _)⟩) hS (fun q _ h => hf9 q h) hf9 (fun r u t H locs ht hvm hw hB hz1 hk1 hS => ?_)
        obtain ⟨hP, hK9, hD9⟩ := hB
        rw [ht] at hP
        try dsimp only at hw
        subst hw
        have hD := hD9.weaken (fun _ q _ h => hf9 q.1 h)
        refine lv_istore (lv' := [(10, .int y26.2), (9, .int s13.2.1), (8, .int y11.2), (7, .int s2.2.1), (6, .int s13.1), (0, .ref (ad a)), (1, va_re ad p0), (2, va_re ad p1), (3, .int p2), (4, .int p3), (5, .int p4)]) hx hb dX6_measureColours_232 hl (by decide) rfl (fun ls hl => ?_)
        refine lv_aloadq_n hx hb dX6_measureColours_234 rfl (lv_at hl 6 rfl) ?_
        obtain ⟨b27, ho27, hc27, hk27, hF⟩ := dr_some hF
        refine W_st (st' := [.ref (ad b27)]) (by rw [va_some ho27]) ?_
        refine va_get (D := D) (ci := 9) (v := va_re ad (y26.1.2 b27 9)) (C := RX9) (T := TX9) (N := 20) hx hb hts (mus hf_X9) hown hK hP b27 (wld_o ct ad G y26.1 hc27 hk27 (by decide)) rfl 9 (by decide) (hts (.fieldLink RX6 234 "VideoSuite$Work" "level" "[I") (mu mw_456)) (fun _ h9 => h9) rfl dX6_measureColours_235 ?_
        refine lv_iload hx hb dX6_measureColours_238 (lv_at hl 2 rfl) ?_
        refine lv_iload hx hb dX6_measureColours_240 (lv_at hl 1 rfl) ?_
        refine lv_iadd hx hb dX6_measureColours_242 ?_
        obtain ⟨x28, ex28, hF⟩ := ltt_some hF
        refine lv_topi (fun zx28 ezx28 => ?_)
        obtain rfl : x28 = zx28 := ex28.trans ezx28.symm
        refine lv_iload hx hb dX6_measureColours_243 (lv_at hl 0 rfl) ?_
        obtain ⟨b29, ho29, hc29, hk29, hF⟩ := dr_some hF
        refine W_st (st' := [.int y26.2, .int x28, .ref (ad b29)]) (by rw [va_some ho29]) ?_
        obtain ⟨hvc, hF⟩ := chk_some hF
        refine va_iast hx hb hK hP hD hS b29 1 (wld_i ct ad G y26.1 hc29 hk29) rfl hvc dX6_measureColours_245 (fun H locs hP hD hS => ?_)
        obtain ⟨M30, eM30, hF⟩ := ltt_some hF
        rw [set_i ct ad G y26.1 hc29 hk29, ← eM30] at hP hD
        refine lv_iload hx hb dX6_measureColours_246 (lv_at hl 0 rfl) ?_
        obtain ⟨y31, hy31, hF⟩ := bnd_some hF
        have J31 : ∀ (H : Heap) (locs : List Loc) (ls : Array Slot), va_P D classes (wld ct ad G M30) H → va_D A (wld ct ad G M30) → va_S A s.heap H locs → lv_has ls 12 [(10, .int y26.2), (9, .int s13.2.1), (8, .int y11.2), (7, .int s2.2.1), (6, .int s13.1), (0, .ref (ad a)), (1, va_re ad p0), (2, va_re ad p1), (3, .int p2), (4, .int p3), (5, .int p4)] → W p l e (headSpec wuX6_measureColours ({ frames := 2, cells := 0, slots := 0, locals := 54 })).room s m ([.ref (ad a), va_re ad p0, va_re ad p1, .int p2, .int p3, .int p4] : List Value).toArray below meth c H locs 0 0 (MQ below (va_Qi (fun (q : Int32) (_ : Unit) => q = y.2) (fun _ t => kE D ct ad G A y.1 t) A) ([.ref (ad a), va_re ad p0, va_re ad p1, .int p2, .int p3, .int p4] : List Value).toArray s 0 0 A) (F0 m 262 ls [.int y31]) := by
          intro H locs ls hP hD hS hl
          refine lv_istore (lv' := [(6, .int y31), (10, .int y26.2), (9, .int s13.2.1), (8, .int y11.2), (7, .int s2.2.1), (0, .ref (ad a)), (1, va_re ad p0), (2, va_re ad p1), (3, .int p2), (4, .int p3), (5, .int p4)]) hx hb dX6_measureColours_262 hl (by decide) rfl (fun ls hl => ?_)
          obtain ⟨x32, ex32, hF⟩ := ltt_some hF
          refine lv_iinc (v := x32) (lv' := [(9, .int x32), (6, .int y31), (10, .int y26.2), (8, .int y11.2), (7, .int s2.2.1), (0, .ref (ad a)), (1, va_re ad p0), (2, va_re ad p1), (3, .int p2), (4, .int p3), (5, .int p4)]) hx hb dX6_measureColours_264 hl (k := 2) rfl (by rw [ex32]; rfl) (by decide) rfl (fun ls hl => ?_)
          refine lv_goto (tgt := 188) hx hb dX6_measureColours_267 (by decide) ?_
          obtain rfl := Option.some.inj hF
          exact hwz16 _ _ _ hP hD hS (lv_sub hl [0, 3, 4, 1, 5, 6, 7, 8, 9, 10] rfl)
        clear hF
        have hF := hy31
        clear hy31
        refine lv_if_eq (tgt := 260) hx hb dX6_measureColours_248 (by decide) (fun c33 => ?_) (fun c33 => ?_)
        · rw [if_pos c33] at hF
          refine lv_iload hx hb dX6_measureColours_260 (lv_at hl 4 rfl) ?_
          obtain rfl := Option.some.inj hF
          exact J31 _ _ _ hP hD hS (lv_sub hl [0, 1, 2, 3, 4, 5, 6, 7, 8, 9, 10] rfl)
        · rw [if_neg c33] at hF
          refine lv_iload hx hb dX6_measureColours_251 (lv_at hl 4 rfl) ?_
          obtain ⟨y34, hy34, hF⟩ := bnd_some hF
          have J34 : ∀ (H : Heap) (locs : List Loc) (ls : Array Slot), va_P D classes (wld ct ad G M30) H → va_D A (wld ct ad G M30) → va_S A s.heap H locs → lv_has ls 12 [(10, .int y26.2), (9, .int s13.2.1), (8, .int y11.2), (7, .int s2.2.1), (6, .int s13.1), (0, .ref (ad a)), (1, va_re ad p0), (2, va_re ad p1), (3, .int p2), (4, .int p3), (5, .int p4)] → W p l e (headSpec wuX6_measureColours ({ frames := 2, cells := 0, slots := 0, locals := 54 })).room s m ([.ref (ad a), va_re ad p0, va_re ad p1, .int p2, .int p3, .int p4] : List Value).toArray below meth c H locs 0 0 (MQ below (va_Qi (fun (q : Int32) (_ : Unit) => q = y.2) (fun _ t => kE D ct ad G A y.1 t) A) ([.ref (ad a), va_re ad p0, va_re ad p1, .int p2, .int p3, .int p4] : List Value).toArray s 0 0 A) (F0 m 262 ls [.int y34]) := by
            intro H locs ls hP hD hS hl
            obtain rfl := Option.some.inj hF
            exact J31 _ _ _ hP hD hS (lv_sub hl [0, 1, 2, 3, 4, 5, 6, 7, 8, 9, 10] rfl)
          clear hF
          have hF := hy34
          clear hy34
          refine lv_if_ne (tgt := 260) hx hb dX6_measureColours_253 (by decide) (fun c35 => ?_) (fun c35 => ?_)
          · rw [if_neg c35] at hF
            refine lv_iload hx hb dX6_measureColours_260 (lv_at hl 4 rfl) ?_
            obtain rfl := Option.some.inj hF
            exact J34 _ _ _ hP hD hS (lv_sub hl [0, 1, 2, 3, 4, 5, 6, 7, 8, 9, 10] rfl)
          · rw [if_pos c35] at hF
            refine lv_iconst (v := (1 : Int32)) hx hb dX6_measureColours_256 (by decide) ?_
            refine lv_goto (tgt := 262) hx hb dX6_measureColours_257 (by decide) ?_
            obtain rfl := Option.some.inj hF
            exact J34 _ _ _ hP hD hS (lv_sub hl [0, 1, 2, 3, 4, 5, 6, 7, 8, 9, 10] rfl)
    clear hF
    refine itr_rule (fun (s7 : Int32 × Int32 × DD) => ∀ (H : Heap) (locs : List Loc) (ls : Array Slot), va_P D classes (wld ct ad G s7.2.2) H → va_D A (wld ct ad G s7.2.2) → va_S A s.heap H locs → lv_has ls 12 [(8, .int s7.2.1), (7, .int s2.2.1), (6, .int s7.1), (0, .ref (ad a)), (1, va_re ad p0), (2, va_re ad p1), (3, .int p2), (4, .int p3), (5, .int p4)] → W p l e (headSpec wuX6_measureColours ({ frames := 2, cells := 0, slots := 0, locals := 54 })).room s m ([.ref (ad a), va_re ad p0, va_re ad p1, .int p2, .int p3, .int p4] : List Value).toArray below meth c H locs 0 0 (MQ below (va_Qi (fun (q : Int32) (_ : Unit) => q = y.2) (fun _ t => kE D ct ad G A y.1 t) A) ([.ref (ad a), va_re ad p0, va_re ad p1, .int p2, .int p3, .int p4] : List Value).toArray s 0 0 A) (F0 m 15 ls [])) ?_ _ _ hy6 _ _ _ hP hD hS (lv_sub hl [0, 1, 2, 3, 4, 5, 6, 7, 8] rfl)
    rintro s7 ⟨z36, hF, hwz36⟩ H locs ls hP hD hS hl
    try dsimp only at hF
    refine lv_iload hx hb dX6_measureColours_15 (lv_at hl 0 rfl) ?_
    refine lv_iconst (v := (4 : Int32)) hx hb dX6_measureColours_17 (by decide) ?_
    refine lv_icmp_ge (tgt := 170) hx hb dX6_measureColours_18 (by decide) (fun c37 => ?_) (fun c37 => ?_)
    · rw [if_pos c37] at hF
      obtain rfl := Option.some.inj hF
      subst hwz36
      exact K6 _ _ _ hP hD hS (lv_sub hl [0, 1, 2, 3, 4, 5, 6, 7, 8] rfl)
    · rw [if_neg c37] at hF
      refine lv_iload hx hb dX6_measureColours_21 (lv_at hl 0 rfl) ?_
      refine lv_iconst (v := (2 : Int32)) hx hb dX6_measureColours_23 (by decide) ?_
      refine lv_irem hx hb dX6_measureColours_24 (by decide) ?_
      obtain ⟨x38, ex38, hF⟩ := ltt_some hF
      refine lv_topi (fun zx38 ezx38 => ?_)
      obtain rfl : x38 = zx38 := ex38.trans ezx38.symm
      refine lv_iconst (v := (4 : Int32)) hx hb dX6_measureColours_25 (by decide) ?_
      refine lv_imul hx hb dX6_measureColours_26 ?_
      obtain ⟨x39, ex39, hF⟩ := ltt_some hF
      refine lv_topi (fun zx39 ezx39 => ?_)
      obtain rfl : x39 = zx39 := ex39.trans ezx39.symm
      refine lv_istore (lv' := [(9, .int x39), (8, .int s7.2.1), (7, .int s2.2.1), (6, .int s7.1), (0, .ref (ad a)), (1, va_re ad p0), (2, va_re ad p1), (3, .int p2), (4, .int p3), (5, .int p4)]) hx hb dX6_measureColours_27 hl (by decide) rfl (fun ls hl => ?_)
      refine lv_iload hx hb dX6_measureColours_29 (lv_at hl 1 rfl) ?_
      refine lv_iconst (v := (2 : Int32)) hx hb dX6_measureColours_31 (by decide) ?_
      refine lv_idiv hx hb dX6_measureColours_32 (by decide) ?_
      obtain ⟨x40, ex40, hF⟩ := ltt_some hF
      refine lv_topi (fun zx40 ezx40 => ?_)
      obtain rfl : x40 = zx40 := ex40.trans ezx40.symm
      refine lv_iconst (v := (4 : Int32)) hx hb dX6_measureColours_33 (by decide) ?_
      refine lv_imul hx hb dX6_measureColours_34 ?_
      obtain ⟨x41, ex41, hF⟩ := ltt_some hF
      refine lv_topi (fun zx41 ezx41 => ?_)
      obtain rfl : x41 = zx41 := ex41.trans ezx41.symm
      refine lv_istore (lv' := [(10, .int x41), (9, .int x39), (8, .int s7.2.1), (7, .int s2.2.1), (6, .int s7.1), (0, .ref (ad a)), (1, va_re ad p0), (2, va_re ad p1), (3, .int p2), (4, .int p3), (5, .int p4)]) hx hb dX6_measureColours_35 hl (by decide) rfl (fun ls hl => ?_)
      refine lv_aload_n hx hb dX6_measureColours_37 rfl (lv_at hl 5 rfl) ?_
      refine lv_aloadq_n hx hb dX6_measureColours_38 rfl (lv_at hl 7 rfl) ?_
      refine lv_iload hx hb dX6_measureColours_39 (lv_at hl 3 rfl) ?_
      obtain ⟨b42, ho42, hc42, hk42, hF⟩ := dr_some hF
      refine W_st (st' := [.int s2.2.1, .ref (ad b42), .ref (ad a)]) (by rw [va_some ho42]) ?_
      obtain ⟨hvc, hF⟩ := chk_some hF
      refine ld_g hx hb hK hP hc42 hk42 hvc dX6_measureColours_41 ?_
      refine lv_aloadq_n hx hb dX6_measureColours_42 rfl (lv_at hl 6 rfl) ?_
      obtain ⟨b43, ho43, hc43, hk43, hF⟩ := dr_some hF
      refine W_st (st' := [.ref (ad b43), va_re ad (s7.2.2.2 b42 s2.2.1.toNatClampNeg), .ref (ad a)]) (by rw [va_some ho43]) ?_
      refine va_get (D := D) (ci := 9) (v := va_re ad (s7.2.2.2 b43 0)) (C := RX9) (T := TX9) (N := 20) hx hb hts (mus hf_X9) hown hK hP b43 (wld_o ct ad G s7.2.2 hc43 hk43 (by decide)) rfl 0 (by decide) (hts (.fieldLink RX6 46 "VideoSuite$Work" "pic" "LVideoSuite$Picture;") (mu mw_421)) (fun _ h9 => h9) rfl dX6_measureColours_43 ?_
      refine lv_iload_n hx hb dX6_measureColours_46 rfl (lv_at hl 8 rfl) ?_
      refine lv_iload hx hb dX6_measureColours_47 (lv_at hl 1 rfl) ?_
      refine lv_iload hx hb dX6_measureColours_49 (lv_at hl 0 rfl) ?_
      obtain ⟨y44, hy44, hF⟩ := bnd_some hF
      have hf9 := wA_in hD hA9 hS
      refine va_calli (va_runS (As := [va_re ad (s7.2.2.2 b43 0), .int p2, .int x39, .int x41]) (rest := [va_re ad (s7.2.2.2 b42 s2.2.1.toNatClampNeg), .ref (ad a)]) ⟨hx, hb, hml, hown, hts⟩ (kX6_colourAt l D ct ad Z G s7.2.2 H.size ((s7.2.2.2 b43 0)) p2 x39 x41 y44 hy44) (va_cwS 4 hts gX6_measureColours_X6_colourAt rfl rfl rfl (by decide +kernel) ⟨Nat.le_of_ble_eq_true rfl, Nat.le_of_ble_eq_true rfl⟩) ⟨fun a U g mk q => by obtain ⟨q0, q1, qP, qK, qD, qZ, qN⟩ := q; exact ⟨q0, q1, qP, va_K.moved (u := U) (U := U.calling g mk a) (Vm.Alike.refl U.vm) qK, qD, sF.moved (u := U) (U := U.calling g mk a) (Vm.Alike.refl U.vm) qZ, nF.same rfl qN⟩, fun U hU hW => ⟨rfl, by rw [hU], by rw [hU]; exact hP, va_K.moved hW.alike hK, hD.weaken (fun _ _ _ _ => trivial), by rw [hU]; exact ((hZ.kept hS.2.1).narrow hf9).moved hW.alike, hN.warm hW⟩⟩ rfl rfl hl.1 rfl (lv_room (by simp only [List.map, va_re_cat]; exact Nat.le_of_ble_eq_true rfl)) dX6_measureColours_51 ⟨(Nat.zero_le _), (Nat.zero_le _)⟩) hS (fun q _ h => hf9 q h) hf9 (fun r u t H locs ht hvm hw hB hz1 hk1 hS => ?_)
      obtain ⟨hP, hK9, hD9⟩ := hB
      rw [ht] at hP
      try dsimp only at hw
      subst hw
      have hD := hD9.weaken (fun _ q _ h => hf9 q.1 h)
      refine lv_bipush (v := (8 : Int32)) hx hb dX6_measureColours_54 (by decide) ?_
      refine lv_aloadq_n hx hb dX6_measureColours_56 rfl (lv_at hl 6 rfl) ?_
      refine W_st (st' := [.ref (ad b43), .int (8 : Int32), .int y44.2, va_re ad (s7.2.2.2 b42 s2.2.1.toNatClampNeg), .ref (ad a)]) (by rw [va_some ho43]) ?_
      refine va_get (D := D) (ci := 9) (v := va_re ad (y44.1.2 b43 0)) (C := RX9) (T := TX9) (N := 20) hx hb hts (mus hf_X9) hown hK hP b43 (wld_o ct ad G y44.1 hc43 hk43 (by decide)) rfl 0 (by decide) (hts (.fieldLink RX6 46 "VideoSuite$Work" "pic" "LVideoSuite$Picture;") (mu mw_421)) (fun _ h9 => h9) rfl dX6_measureColours_57 ?_
      obtain ⟨b45, ho45, hc45, hk45, hF⟩ := dr_some hF
      refine W_st (st' := [.ref (ad b45), .int (8 : Int32), .int y44.2, va_re ad (s7.2.2.2 b42 s2.2.1.toNatClampNeg), .ref (ad a)]) (by rw [va_some ho45]) ?_
      refine va_get (D := D) (ci := 4) (v := .int (y44.1.1 b45 1)) (C := RX4) (T := TX4) (N := 18) hx hb hts (mus hf_X4) hown hK hP b45 (wld_o ct ad G y44.1 hc45 hk45 (by decide)) rfl 1 (by decide) (hts (.fieldLink RX6 83 "VideoSuite$Picture" "width" "I") (mu mw_1422)) (fun _ h9 => h9) rfl dX6_measureColours_60 ?_
      obtain ⟨x46, ex46, hF⟩ := ltt_some hF
      refine lv_topi (fun zx46 ezx46 => ?_)
      obtain rfl : x46 = zx46 := ex46.trans ezx46.symm
      refine lv_imul hx hb dX6_measureColours_63 ?_
      obtain ⟨x47, ex47, hF⟩ := ltt_some hF
      refine lv_topi (fun zx47 ezx47 => ?_)
      obtain rfl : x47 = zx47 := ex47.trans ezx47.symm
      refine lv_sipush (v := (192 : Int32)) hx hb dX6_measureColours_64 (by decide) ?_
      refine lv_bipush (v := (64 : Int32)) hx hb dX6_measureColours_67 (by decide) ?_
      refine lv_iload hx hb dX6_measureColours_69 (lv_at hl 3 rfl) ?_
      refine lv_imul hx hb dX6_measureColours_71 ?_
      obtain ⟨x48, ex48, hF⟩ := ltt_some hF
      refine lv_topi (fun zx48 ezx48 => ?_)
      obtain rfl : x48 = zx48 := ex48.trans ezx48.symm
      refine lv_iadd hx hb dX6_measureColours_72 ?_
      obtain ⟨x49, ex49, hF⟩ := ltt_some hF
      refine lv_topi (fun zx49 ezx49 => ?_)
      obtain rfl : x49 = zx49 := ex49.trans ezx49.symm
      refine lv_bipush (v := (8 : Int32)) hx hb dX6_measureColours_73 (by decide) ?_
      refine lv_iload hx hb dX6_measureColours_75 (lv_at hl 0 rfl) ?_
      refine lv_imul hx hb dX6_measureColours_77 ?_
      obtain ⟨x50, ex50, hF⟩ := ltt_some hF
      refine lv_topi (fun zx50 ezx50 => ?_)
      obtain rfl : x50 = zx50 := ex50.trans ezx50.symm
      refine lv_iadd hx hb dX6_measureColours_78 ?_
      obtain ⟨x51, ex51, hF⟩ := ltt_some hF
      refine lv_topi (fun zx51 ezx51 => ?_)
      obtain rfl : x51 = zx51 := ex51.trans ezx51.symm
      refine lv_iload hx hb dX6_measureColours_79 (lv_at hl 1 rfl) ?_
      refine lv_iadd hx hb dX6_measureColours_81 ?_
      obtain ⟨x52, ex52, hF⟩ := ltt_some hF
      refine lv_topi (fun zx52 ezx52 => ?_)
      obtain rfl : x52 = zx52 := ex52.trans ezx52.symm
      refine lv_bipush (v := (8 : Int32)) hx hb dX6_measureColours_82 (by decide) ?_
      obtain ⟨y53, hy53, hF⟩ := bnd_some hF
      have hf9 := wA_in hD hA9 hS
      refine va_callv (va_runV (As := [va_re ad (s7.2.2.2 b42 s2.2.1.toNatClampNeg), .int y44.2, .int x47, .int x52, .int (8 : Int32)]) (rest := []) ⟨hx, hb, hml, hown, hts⟩ (kX6_turn l D ct ad Z G y44.1 H.size a ((s7.2.2.2 b42 s2.2.1.toNatClampNeg)) y44.2 x47 x52 ((8 : Int32)) y53 hc hk hy53) (cwV 5 hts gX6_measureColours_X6_turn rfl rfl rfl (by decide +kernel) ⟨Nat.le_of_ble_eq_true rfl, Nat.le_of_ble_eq_true rfl⟩) ⟨fun a U g mk q => by obtain ⟨q0, q1, qP, qK, qD, qZ, qN⟩ := q; exact ⟨q0, q1, qP, va_K.moved (u := U) (U := U.calling g mk a) (Vm.Alike.refl U.vm) qK, qD, sF.moved (u := U) (U := U.calling g mk a) (Vm.Alike.refl U.vm) qZ, nF.same rfl qN⟩, va_recv hK hP (ci := 6) (q0 := a) rfl (wld_o ct ad G y44.1 hc hk (by decide)), fun U hU hW => ⟨rfl, by rw [hU], by rw [hU]; exact hP, va_K.moved hW.alike hK, hD.weaken (fun _ _ _ _ => trivial), by rw [hU]; exact ((hZ.kept hS.2.1).narrow hf9).moved hW.alike, hN.warm hW⟩⟩ rfl rfl hl.1 rfl (lv_room (Nat.le_of_ble_eq_true rfl)) dX6_measureColours_84 ⟨(Nat.zero_le _), (Nat.zero_le _)⟩) hS (fun q _ h => hf9 q h) hf9 (fun u t H locs ht hvm hw hB hz1 hk1 hS => ?_)
      obtain ⟨hP, hK9, hD9⟩ := hB
      rw [ht] at hP
      have hD := hD9.weaken (fun _ q _ h => hf9 q.1 h)
      refine lv_aload_n hx hb dX6_measureColours_87 rfl (lv_at hl 5 rfl) ?_
      refine va_get (D := D) (ci := 6) (v := va_re ad (y53.2 a 7)) (C := RX6) (T := TX6) (N := 14) hx hb hts (mus hf_X6) hown hK hP a (wld_o ct ad G y53 hc hk (by decide)) rfl 7 (by decide) (hts (.fieldLink RX6 33 "VideoSuite$Samples" "even" "[I") (mu mw_543)) (fun _ h9 => h9) rfl dX6_measureColours_88 ?_
      refine lv_iload hx hb dX6_measureColours_91 (lv_at hl 2 rfl) ?_
      refine lv_aload_n hx hb dX6_measureColours_93 rfl (lv_at hl 5 rfl) ?_
      refine va_get (D := D) (ci := 6) (v := va_re ad (y53.2 a 6)) (C := RX6) (T := TX6) (N := 14) hx hb hts (mus hf_X6) hown hK hP a (wld_o ct ad G y53 hc hk (by decide)) rfl 6 (by decide) (hts (.fieldLink RX6 30 "VideoSuite$Samples" "rest" "[I") (mu mw_542)) (fun _ h9 => h9) rfl dX6_measureColours_94 ?_
      refine lv_iconst (v := (0 : Int32)) hx hb dX6_measureColours_97 (by decide) ?_
      obtain ⟨b54, ho54, hc54, hk54, hF⟩ := dr_some hF
      refine W_st (st' := [.int (0 : Int32), .ref (ad b54), .int s7.2.1, va_re ad (y53.2 a 7)]) (by rw [va_some ho54]) ?_
      obtain ⟨hvc, hF⟩ := chk_some hF
      refine va_iald hx hb hK hP b54 1 (wld_i ct ad G y53 hc54 hk54) rfl hvc dX6_measureColours_98 ?_
      obtain ⟨x55, ex55, hF⟩ := ltt_some hF
      refine lv_topi (fun zx55 ezx55 => ?_)
      obtain rfl : x55 = zx55 := ex55.trans ezx55.symm
      obtain ⟨b56, ho56, hc56, hk56, hF⟩ := dr_some hF
      refine W_st (st' := [.int x55, .int s7.2.1, .ref (ad b56)]) (by rw [va_some ho56]) ?_
      obtain ⟨hvc, hF⟩ := chk_some hF
      refine va_iast hx hb hK hP hD hS b56 1 (wld_i ct ad G y53 hc56 hk56) rfl hvc dX6_measureColours_99 (fun H locs hP hD hS => ?_)
      obtain ⟨M57, eM57, hF⟩ := ltt_some hF
      rw [set_i ct ad G y53 hc56 hk56, ← eM57] at hP hD
      refine lv_aload_n hx hb dX6_measureColours_100 rfl (lv_at hl 5 rfl) ?_
      refine lv_aloadq_n hx hb dX6_measureColours_101 rfl (lv_at hl 6 rfl) ?_
      refine W_st (st' := [.ref (ad b43), .ref (ad a)]) (by rw [va_some ho43]) ?_
      refine va_get (D := D) (ci := 9) (v := va_re ad (M57.2 b43 9)) (C := RX9) (T := TX9) (N := 20) hx hb hts (mus hf_X9) hown hK hP b43 (wld_o ct ad G M57 hc43 hk43 (by decide)) rfl 9 (by decide) (hts (.fieldLink RX6 234 "VideoSuite$Work" "level" "[I") (mu mw_456)) (fun _ h9 => h9) rfl dX6_measureColours_102 ?_
      refine lv_iload_n hx hb dX6_measureColours_105 rfl (lv_at hl 8 rfl) ?_
      refine lv_bipush (v := (15 : Int32)) hx hb dX6_measureColours_106 (by decide) ?_
      refine lv_iconst (v := (4 : Int32)) hx hb dX6_measureColours_108 (by decide) ?_
      refine lv_iload hx hb dX6_measureColours_109 (lv_at hl 3 rfl) ?_
      refine lv_imul hx hb dX6_measureColours_111 ?_
      obtain ⟨x58, ex58, hF⟩ := ltt_some hF
      refine lv_topi (fun zx58 ezx58 => ?_)
      obtain rfl : x58 = zx58 := ex58.trans ezx58.symm
      refine lv_iadd hx hb dX6_measureColours_112 ?_
      obtain ⟨x59, ex59, hF⟩ := ltt_some hF
      refine lv_topi (fun zx59 ezx59 => ?_)
      obtain rfl : x59 = zx59 := ex59.trans ezx59.symm
      refine lv_iload hx hb dX6_measureColours_113 (lv_at hl 2 rfl) ?_
      refine lv_iadd hx hb dX6_measureColours_115 ?_
      obtain ⟨x60, ex60, hF⟩ := ltt_some hF
      refine lv_topi (fun zx60 ezx60 => ?_)
      obtain rfl : x60 = zx60 := ex60.trans ezx60.symm
      obtain ⟨y61, hy61, hF⟩ := bnd_some hF
      have hf9 := wA_in hD hA9 hS
      refine va_calli (va_runS (As := [.int p2, .int x60]) (rest := [va_re ad (M57.2 b43 9), .ref (ad a)]) ⟨hx, hb, hml, hown, hts⟩ (kX9_levelAt l D ct ad Z G M57 H.size p2 x60 y61 hy61) (va_cwS 2 hts gX6_measureColours_X9_levelAt rfl rfl rfl (by decide +kernel) ⟨Nat.le_of_ble_eq_true rfl, Nat.le_of_ble_eq_true rfl⟩) ⟨fun a U g mk q => by obtain ⟨q0, q1, qP, qK, qD, qZ, qN⟩ := q; exact ⟨q0, q1, qP, va_K.moved (u := U) (U := U.calling g mk a) (Vm.Alike.refl U.vm) qK, qD, sF.moved (u := U) (U := U.calling g mk a) (Vm.Alike.refl U.vm) qZ, nF.same rfl qN⟩, fun U hU hW => ⟨rfl, by rw [hU], by rw [hU]; exact hP, va_K.moved hW.alike hK, hD.weaken (fun _ _ _ _ => trivial), by rw [hU]; exact ((hZ.kept hS.2.1).narrow hf9).moved hW.alike, hN.warm hW⟩⟩ rfl rfl hl.1 rfl (lv_room (by simp only [List.map, va_re_cat]; exact Nat.le_of_ble_eq_true rfl)) dX6_measureColours_116 ⟨(Nat.zero_le _), (Nat.zero_le _)⟩) hS (fun q _ h => hf9 q h) hf9 (fun r u t H locs ht hvm hw hB hz1 hk1 hS => ?_)
      obtain ⟨hP, hK9, hD9⟩ := hB
      rw [ht] at hP
      try dsimp only at hw
      subst hw
      have hD := hD9.weaken (fun _ q _ h => hf9 q.1 h)
      refine lv_iconst (v := (1 : Int32)) hx hb dX6_measureColours_119 (by decide) ?_
      refine lv_iload hx hb dX6_measureColours_120 (lv_at hl 9 rfl) ?_
      refine lv_iload hx hb dX6_measureColours_122 (lv_at hl 10 rfl) ?_
      obtain ⟨y62, hy62, hF⟩ := bnd_some hF
      have hf9 := wA_in hD hA9 hS
      refine va_calli (va_runV (As := [va_re ad (M57.2 b43 9), .int y61.2, .int (1 : Int32), .int p3, .int p4]) (rest := []) ⟨hx, hb, hml, hown, hts⟩ (kX6_measure l D ct ad Z G y61.1 H.size a ((M57.2 b43 9)) y61.2 ((1 : Int32)) p3 p4 y62 hc hk hy62) (cwV 5 hts gX6_measureColours_X6_measure rfl rfl rfl (by decide +kernel) ⟨Nat.le_of_ble_eq_true rfl, Nat.le_of_ble_eq_true rfl⟩) ⟨fun a U g mk q => by obtain ⟨q0, q1, qP, qK, qD, qZ, qN⟩ := q; exact ⟨q0, q1, qP, va_K.moved (u := U) (U := U.calling g mk a) (Vm.Alike.refl U.vm) qK, qD, sF.moved (u := U) (U := U.calling g mk a) (Vm.Alike.refl U.vm) qZ, nF.same rfl qN⟩, va_recv hK hP (ci := 6) (q0 := a) rfl (wld_o ct ad G y61.1 hc hk (by decide)), fun U hU hW => ⟨rfl, by rw [hU], by rw [hU]; exact hP, va_K.moved hW.alike hK, hD.weaken (fun _ _ _ _ => trivial), by rw [hU]; exact ((hZ.kept hS.2.1).narrow hf9).moved hW.alike, hN.warm hW⟩⟩ rfl rfl hl.1 rfl (lv_room (Nat.le_of_ble_eq_true rfl)) dX6_measureColours_124 ⟨(Nat.zero_le _), (Nat.zero_le _)⟩) hS (fun q _ h => hf9 q h) hf9 (fun r u t H locs ht hvm hw hB hz1 hk1 hS => ?_)
      obtain ⟨hP, hK9, hD9⟩ := hB
      rw [ht] at hP
      try dsimp only at hw
      subst hw
      have hD := hD9.weaken (fun _ q _ h => hf9 q.1 h)
      refine lv_istore (lv' := [(11, .int y62.2), (10, .int x41), (9, .int x39), (8, .int s7.2.1), (7, .int s2.2.1), (6, .int s7.1), (0, .ref (ad a)), (1, va_re ad p0), (2, va_re ad p1), (3, .int p2), (4, .int p3), (5, .int p4)]) hx hb dX6_measureColours_127 hl (by decide) rfl (fun ls hl => ?_)
      refine lv_aloadq_n hx hb dX6_measureColours_129 rfl (lv_at hl 7 rfl) ?_
      refine W_st (st' := [.ref (ad b43)]) (by rw [va_some ho43]) ?_
      refine va_get (D := D) (ci := 9) (v := va_re ad (y62.1.2 b43 8)) (C := RX9) (T := TX9) (N := 20) hx hb hts (mus hf_X9) hown hK hP b43 (wld_o ct ad G y62.1 hc43 hk43 (by decide)) rfl 8 (by decide) (hts (.fieldLink RX6 277 "VideoSuite$Work" "total" "[I") (mu mw_452)) (fun _ h9 => h9) rfl dX6_measureColours_130 ?_
      refine lv_bipush (v := (24 : Int32)) hx hb dX6_measureColours_133 (by decide) ?_
      refine lv_iload_n hx hb dX6_measureColours_135 rfl (lv_at hl 9 rfl) ?_
      refine lv_imul hx hb dX6_measureColours_136 ?_
      obtain ⟨x63, ex63, hF⟩ := ltt_some hF
      refine lv_topi (fun zx63 ezx63 => ?_)
      obtain rfl : x63 = zx63 := ex63.trans ezx63.symm
      refine lv_bipush (v := (12 : Int32)) hx hb dX6_measureColours_137 (by decide) ?_
      refine lv_iadd hx hb dX6_measureColours_139 ?_
      obtain ⟨x64, ex64, hF⟩ := ltt_some hF
      refine lv_topi (fun zx64 ezx64 => ?_)
      obtain rfl : x64 = zx64 := ex64.trans ezx64.symm
      refine lv_iconst (v := (4 : Int32)) hx hb dX6_measureColours_140 (by decide) ?_
      refine lv_iload hx hb dX6_measureColours_141 (lv_at hl 4 rfl) ?_
      refine lv_imul hx hb dX6_measureColours_143 ?_
      obtain ⟨x65, ex65, hF⟩ := ltt_some hF
      refine lv_topi (fun zx65 ezx65 => ?_)
      obtain rfl : x65 = zx65 := ex65.trans ezx65.symm
      refine lv_iadd hx hb dX6_measureColours_144 ?_
      obtain ⟨x66, ex66, hF⟩ := ltt_some hF
      refine lv_topi (fun zx66 ezx66 => ?_)
      obtain rfl : x66 = zx66 := ex66.trans ezx66.symm
      refine lv_iload hx hb dX6_measureColours_145 (lv_at hl 3 rfl) ?_
      refine lv_iadd hx hb dX6_measureColours_147 ?_
      obtain ⟨x67, ex67, hF⟩ := ltt_some hF
      refine lv_topi (fun zx67 ezx67 => ?_)
      obtain rfl : x67 = zx67 := ex67.trans ezx67.symm
      refine lv_iload hx hb dX6_measureColours_148 (lv_at hl 0 rfl) ?_
      obtain ⟨b68, ho68, hc68, hk68, hF⟩ := dr_some hF
      refine W_st (st' := [.int y62.2, .int x67, .ref (ad b68)]) (by rw [va_some ho68]) ?_
      obtain ⟨hvc, hF⟩ := chk_some hF
      refine va_iast hx hb hK hP hD hS b68 1 (wld_i ct ad G y62.1 hc68 hk68) rfl hvc dX6_measureColours_150 (fun H locs hP hD hS => ?_)
      obtain ⟨M69, eM69, hF⟩ := ltt_some hF
      rw [set_i ct ad G y62.1 hc68 hk68, ← eM69] at hP hD
      refine lv_iload hx hb dX6_measureColours_151 (lv_at hl 0 rfl) ?_
      obtain ⟨y70, hy70, hF⟩ := bnd_some hF
      have J70 : ∀ (H : Heap) (locs : List Loc) (ls : Array Slot), va_P D classes (wld ct ad G M69) H → va_D A (wld ct ad G M69) → va_S A s.heap H locs → lv_has ls 12 [(11, .int y62.2), (10, .int x41), (9, .int x39), (8, .int s7.2.1), (7, .int s2.2.1), (6, .int s7.1), (0, .ref (ad a)), (1, va_re ad p0), (2, va_re ad p1), (3, .int p2), (4, .int p3), (5, .int p4)] → W p l e (headSpec wuX6_measureColours ({ frames := 2, cells := 0, slots := 0, locals := 54 })).room s m ([.ref (ad a), va_re ad p0, va_re ad p1, .int p2, .int p3, .int p4] : List Value).toArray below meth c H locs 0 0 (MQ below (va_Qi (fun (q : Int32) (_ : Unit) => q = y.2) (fun _ t => kE D ct ad G A y.1 t) A) ([.ref (ad a), va_re ad p0, va_re ad p1, .int p2, .int p3, .int p4] : List Value).toArray s 0 0 A) (F0 m 162 ls [.int y70]) := by
        intro H locs ls hP hD hS hl
        refine lv_istore (lv' := [(6, .int y70), (11, .int y62.2), (10, .int x41), (9, .int x39), (8, .int s7.2.1), (7, .int s2.2.1), (0, .ref (ad a)), (1, va_re ad p0), (2, va_re ad p1), (3, .int p2), (4, .int p3), (5, .int p4)]) hx hb dX6_measureColours_162 hl (by decide) rfl (fun ls hl => ?_)
        obtain ⟨x71, ex71, hF⟩ := ltt_some hF
        refine lv_iinc (v := x71) (lv' := [(8, .int x71), (6, .int y70), (11, .int y62.2), (10, .int x41), (9, .int x39), (7, .int s2.2.1), (0, .ref (ad a)), (1, va_re ad p0), (2, va_re ad p1), (3, .int p2), (4, .int p3), (5, .int p4)]) hx hb dX6_measureColours_164 hl (k := 4) rfl (by rw [ex71]; rfl) (by decide) rfl (fun ls hl => ?_)
        refine lv_goto (tgt := 15) hx hb dX6_measureColours_167 (by decide) ?_
        obtain rfl := Option.some.inj hF
        exact hwz36 _ _ _ hP hD hS (lv_sub hl [0, 5, 1, 6, 7, 8, 9, 10, 11] rfl)
      clear hF
      have hF := hy70
      clear hy70
      refine lv_if_le (tgt := 160) hx hb dX6_measureColours_153 (by decide) (fun c72 => ?_) (fun c72 => ?_)
      · rw [if_pos c72] at hF
        refine lv_iload hx hb dX6_measureColours_160 (lv_at hl 5 rfl) ?_
        obtain rfl := Option.some.inj hF
        exact J70 _ _ _ hP hD hS (lv_sub hl [0, 1, 2, 3, 4, 5, 6, 7, 8, 9, 10, 11] rfl)
      · rw [if_neg c72] at hF
        refine lv_iconst (v := (2 : Int32)) hx hb dX6_measureColours_156 (by decide) ?_
        refine lv_goto (tgt := 162) hx hb dX6_measureColours_157 (by decide) ?_
        obtain rfl := Option.some.inj hF
        exact J70 _ _ _ hP hD hS (lv_sub hl [0, 1, 2, 3, 4, 5, 6, 7, 8, 9, 10, 11] rfl)
set_option maxRecDepth 20000 in
theorem gX6_measureLuma_X9_pieceX : GoodIn wuX6_measureLuma (va_wsS RX6 76 yX9_pieceX wuX9_pieceX) := gu_S mw_2014 mw_949 mw_171 mw_950
set_option maxRecDepth 20000 in
set_option maxRecDepth 20000 in
theorem gX6_measureLuma_X9_pieceY : GoodIn wuX6_measureLuma (va_wsS RX6 80 yX9_pieceY wuX9_pieceY) := gu_S mw_2015 mw_952 mw_171 mw_953
set_option maxRecDepth 20000 in
set_option maxRecDepth 20000 in
theorem gX6_measureLuma_X6_lumaAt : GoodIn wuX6_measureLuma (va_wsS RX6 175 yX6_lumaAt wuX6_lumaAt) := gu_S mw_1981 mw_1982 mw_172 mw_1983
set_option maxRecDepth 20000 in
set_option maxRecDepth 20000 in
theorem gX6_measureLuma_X6_turn : GoodIn wuX6_measureLuma (wsV RX6 270 RX6 yX6_turn wuX6_turn) := gu_V mw_2585 mw_2587 mw_139 mw_172 mw_2588
set_option maxRecDepth 20000 in
set_option maxRecDepth 20000 in
theorem gX6_measureLuma_X9_levelAt : GoodIn wuX6_measureLuma (va_wsS RX6 237 yX9_levelAt wuX9_levelAt) := gu_S mw_2080 mw_1789 mw_171 mw_1790
set_option maxRecDepth 20000 in
set_option maxRecDepth 20000 in
theorem gX6_measureLuma_X6_measure : GoodIn wuX6_measureLuma (wsV RX6 273 RX6 yX6_measure wuX6_measure) := gu_V mw_2589 mw_2591 mw_140 mw_172 mw_2592
theorem dX6_measureLuma_0 : decode cX6_measureLuma 0 = .ok (.iload 4, 2) := by decide +kernel
theorem dX6_measureLuma_2 : decode cX6_measureLuma 2 = .ok (.invokestatic 76, 3) := by decide +kernel
theorem dX6_measureLuma_5 : decode cX6_measureLuma 5 = .ok (.istore 7, 2) := by decide +kernel
theorem dX6_measureLuma_7 : decode cX6_measureLuma 7 = .ok (.iload 4, 2) := by decide +kernel
theorem dX6_measureLuma_9 : decode cX6_measureLuma 9 = .ok (.invokestatic 80, 3) := by decide +kernel
theorem dX6_measureLuma_12 : decode cX6_measureLuma 12 = .ok (.istore 8, 2) := by decide +kernel
theorem dX6_measureLuma_14 : decode cX6_measureLuma 14 = .ok (.aload_n 0, 1) := by decide +kernel
theorem dX6_measureLuma_15 : decode cX6_measureLuma 15 = .ok (.aload_n 2, 1) := by decide +kernel
theorem dX6_measureLuma_16 : decode cX6_measureLuma 16 = .ok (.aload_n 1, 1) := by decide +kernel
theorem dX6_measureLuma_17 : decode cX6_measureLuma 17 = .ok (.getfield 46, 3) := by decide +kernel
theorem dX6_measureLuma_20 : decode cX6_measureLuma 20 = .ok (.iload_n 3, 1) := by decide +kernel
theorem dX6_measureLuma_21 : decode cX6_measureLuma 21 = .ok (.iload 7, 2) := by decide +kernel
theorem dX6_measureLuma_23 : decode cX6_measureLuma 23 = .ok (.iload 8, 2) := by decide +kernel
theorem dX6_measureLuma_25 : decode cX6_measureLuma 25 = .ok (.invokestatic 175, 3) := by decide +kernel
theorem dX6_measureLuma_28 : decode cX6_measureLuma 28 = .ok (.bipush 16, 2) := by decide +kernel
theorem dX6_measureLuma_30 : decode cX6_measureLuma 30 = .ok (.aload_n 1, 1) := by decide +kernel
theorem dX6_measureLuma_31 : decode cX6_measureLuma 31 = .ok (.getfield 46, 3) := by decide +kernel
theorem dX6_measureLuma_34 : decode cX6_measureLuma 34 = .ok (.getfield 83, 3) := by decide +kernel
theorem dX6_measureLuma_37 : decode cX6_measureLuma 37 = .ok (.imul, 1) := by decide +kernel
theorem dX6_measureLuma_38 : decode cX6_measureLuma 38 = .ok (.bipush 16, 2) := by decide +kernel
theorem dX6_measureLuma_40 : decode cX6_measureLuma 40 = .ok (.iload 8, 2) := by decide +kernel
theorem dX6_measureLuma_42 : decode cX6_measureLuma 42 = .ok (.imul, 1) := by decide +kernel
theorem dX6_measureLuma_43 : decode cX6_measureLuma 43 = .ok (.iload 7, 2) := by decide +kernel
theorem dX6_measureLuma_45 : decode cX6_measureLuma 45 = .ok (.iadd, 1) := by decide +kernel
theorem dX6_measureLuma_46 : decode cX6_measureLuma 46 = .ok (.bipush 16, 2) := by decide +kernel
theorem dX6_measureLuma_48 : decode cX6_measureLuma 48 = .ok (.invokevirtual 270, 3) := by decide +kernel
theorem dX6_measureLuma_51 : decode cX6_measureLuma 51 = .ok (.aload_n 0, 1) := by decide +kernel
theorem dX6_measureLuma_52 : decode cX6_measureLuma 52 = .ok (.aload_n 1, 1) := by decide +kernel
theorem dX6_measureLuma_53 : decode cX6_measureLuma 53 = .ok (.getfield 234, 3) := by decide +kernel
theorem dX6_measureLuma_56 : decode cX6_measureLuma 56 = .ok (.iload_n 3, 1) := by decide +kernel
theorem dX6_measureLuma_57 : decode cX6_measureLuma 57 = .ok (.iload 4, 2) := by decide +kernel
theorem dX6_measureLuma_59 : decode cX6_measureLuma 59 = .ok (.invokestatic 237, 3) := by decide +kernel
theorem dX6_measureLuma_62 : decode cX6_measureLuma 62 = .ok (.iconst 0, 1) := by decide +kernel
theorem dX6_measureLuma_63 : decode cX6_measureLuma 63 = .ok (.iload 5, 2) := by decide +kernel
theorem dX6_measureLuma_65 : decode cX6_measureLuma 65 = .ok (.iload 6, 2) := by decide +kernel
theorem dX6_measureLuma_67 : decode cX6_measureLuma 67 = .ok (.invokevirtual 273, 3) := by decide +kernel
theorem dX6_measureLuma_70 : decode cX6_measureLuma 70 = .ok (.istore 9, 2) := by decide +kernel
theorem dX6_measureLuma_72 : decode cX6_measureLuma 72 = .ok (.aload_n 1, 1) := by decide +kernel
theorem dX6_measureLuma_73 : decode cX6_measureLuma 73 = .ok (.getfield 277, 3) := by decide +kernel
theorem dX6_measureLuma_76 : decode cX6_measureLuma 76 = .ok (.bipush 24, 2) := by decide +kernel
theorem dX6_measureLuma_78 : decode cX6_measureLuma 78 = .ok (.iload_n 3, 1) := by decide +kernel
theorem dX6_measureLuma_79 : decode cX6_measureLuma 79 = .ok (.imul, 1) := by decide +kernel
theorem dX6_measureLuma_80 : decode cX6_measureLuma 80 = .ok (.iload 4, 2) := by decide +kernel
theorem dX6_measureLuma_82 : decode cX6_measureLuma 82 = .ok (.iadd, 1) := by decide +kernel
theorem dX6_measureLuma_83 : decode cX6_measureLuma 83 = .ok (.iload 9, 2) := by decide +kernel
theorem dX6_measureLuma_85 : decode cX6_measureLuma 85 = .ok (.iastore, 1) := by decide +kernel
theorem dX6_measureLuma_86 : decode cX6_measureLuma 86 = .ok (.iload 9, 2) := by decide +kernel
theorem dX6_measureLuma_88 : decode cX6_measureLuma 88 = .ok (.ireturn, 1) := by decide +kernel
def FX6_measureLuma (G : GG) (M : DD) (a : Nat) (p0 : Option Nat) (p1 : Option Nat) (p2 : Int32) (p3 : Int32) (p4 : Int32) (p5 : Int32) : Option (DD × Int32) :=
  bnd (FX9_pieceX G M p3) fun y1 =>
  bnd (FX9_pieceY G y1.1 p3) fun y2 =>
  dr G 9 p0 fun b3 =>
  bnd (FX6_lumaAt G y2.1 ((y2.1.2 b3 0)) p2 y1.2 y2.2) fun y4 =>
  dr G 4 ((y4.1.2 b3 0)) fun b5 =>
  ltt (y4.1.1 b5 1) fun x6 =>
  ltt ((((16 : Int32)) * x6)) fun x7 =>
  ltt ((((16 : Int32)) * y2.2)) fun x8 =>
  ltt ((x8 + y1.2)) fun x9 =>
  bnd (FX6_turn G y4.1 a p1 y4.2 x7 x9 ((16 : Int32))) fun y10 =>
  bnd (FX9_levelAt G y10 p2 p3) fun y11 =>
  bnd (FX6_measure G y11.1 a ((y10.2 b3 9)) y11.2 ((0 : Int32)) p4 p5) fun y12 =>
  ltt ((((24 : Int32)) * p2)) fun x13 =>
  ltt ((x13 + p3)) fun x14 =>
  dr G 13 ((y12.1.2 b3 8)) fun b15 =>
  chk (¬ (x14 < 0 ∨ G.2.2 b15 ≤ x14.toNatClampNeg)) <|
  ltt (uI y12.1 b15 x14.toNatClampNeg y12.2) fun M16 =>
  some (M16, y12.2)
set_option maxHeartbeats 4000000 in
set_option maxRecDepth 100000 in
theorem kX6_measureLuma (l : Launch) (D : va_G) (ct : CT) (ad : Nat → Nat) (Z : Nat → Nat) (G : GG) (M : DD) (sz : Nat) (a : Nat) (p0 : Option Nat) (p1 : Option Nat) (p2 : Int32) (p3 : Int32) (p4 : Int32) (p5 : Int32) (y : DD × Int32) (hc : a < G.1) (hk : G.2.1 a = 6) (hF : FX6_measureLuma G M a p0 p1 p2 p3 p4 p5 = some y) : Met l yX6_measureLuma wuX6_measureLuma ({ frames := 2, cells := 0, slots := 0, locals := 54 }) (va_Pc [.ref (ad a), va_re ad p0, va_re ad p1, .int p2, .int p3, .int p4, .int p5] (kB D ct ad Z G M sz)) (va_Qi (fun (q : Int32) (_ : Unit) => q = y.2) (fun _ t => kE D ct ad G (wA ad G sz) y.1 t) (wA ad G sz)) 0 0 (wA ad G sz) := by
  refine Met.ofW (cc := cX6_measureLuma) (maxL := 10) (ret := (some .int)) (by decide) rfl ?_
  intro p e s m args below meth c s₁ B hml hv
  obtain ⟨rfl, hsz, hP, hK, hD0, hZ, hN⟩ := hv
  have hx := B.exec
  have hb := B.bytes
  have hr := B.returns
  have hts := atoms_spec (ws := wuX6_measureLuma) B.pre
  have hown : s.vm.findClass RX6 = some m.cls := findClass_of_methodNamed B.named
  have hlocks := B.notSynchronized
  subst hsz
  have hD := wD_self (sz := s.heap.size) hD0
  have hA9 : ∀ q, s.heap.size ≤ q → wA ad G s.heap.size q := fun q h => Or.inr h
  generalize hAe : wA ad G s.heap.size = A at hD hA9 hZ ⊢
  have hS : va_S A s.heap s.heap [] := va_S.rf
  have hl := lv_entry ([.ref (ad a), va_re ad p0, va_re ad p1, .int p2, .int p3, .int p4, .int p5]) (n := 10) (by cases p0 <;> cases p1 <;> exact Nat.le_of_ble_eq_true rfl)
  rw [lg_entry_eq]
  generalize (lg_sl ([.ref (ad a), va_re ad p0, va_re ad p1, .int p2, .int p3, .int p4, .int p5]) ++ List.replicate (10 - (lg_sl ([.ref (ad a), va_re ad p0, va_re ad p1, .int p2, .int p3, .int p4, .int p5])).length) Slot.unset).toArray = ls at hl ⊢
  have hl : lv_has ls 10 [(0, .ref (ad a)), (1, va_re ad p0), (2, va_re ad p1), (3, .int p2), (4, .int p3), (5, .int p4), (6, .int p5)] := by have e9 : lv_args 0 [.ref (ad a), va_re ad p0, va_re ad p1, .int p2, .int p3, .int p4, .int p5] = [(0, .ref (ad a)), (1, va_re ad p0), (2, va_re ad p1), (3, .int p2), (4, .int p3), (5, .int p4), (6, .int p5)] := (by cases p0 <;> cases p1 <;> rfl); rw [e9] at hl; exact hl
  unfold FX6_measureLuma at hF
  refine lv_iload hx hb dX6_measureLuma_0 (lv_at hl 4 rfl) ?_
  obtain ⟨y1, hy1, hF⟩ := bnd_some hF
  have hf9 := wA_in hD hA9 hS
  refine va_calli (va_runS (As := [.int p3]) (rest := []) ⟨hx, hb, hml, hown, hts⟩ (kX9_pieceX l D ct ad Z G M s.heap.size p3 y1 hy1) (va_cwS 1 hts gX6_measureLuma_X9_pieceX rfl rfl rfl (by decide +kernel) ⟨Nat.le_of_ble_eq_true rfl, Nat.le_of_ble_eq_true rfl⟩) ⟨fun a U g mk q => by obtain ⟨q0, q1, qP, qK, qD, qZ, qN⟩ := q; exact ⟨q0, q1, qP, va_K.moved (u := U) (U := U.calling g mk a) (Vm.Alike.refl U.vm) qK, qD, sF.moved (u := U) (U := U.calling g mk a) (Vm.Alike.refl U.vm) qZ, nF.same rfl qN⟩, fun U hU hW => ⟨rfl, by rw [hU], by rw [hU]; exact hP, va_K.moved hW.alike hK, hD.weaken (fun _ _ _ _ => trivial), by rw [hU]; exact ((hZ.kept hS.2.1).narrow hf9).moved hW.alike, hN.warm hW⟩⟩ rfl rfl hl.1 rfl (lv_room (Nat.le_of_ble_eq_true rfl)) dX6_measureLuma_2 ⟨(Nat.zero_le _), (Nat.zero_le _)⟩) hS (fun q _ h => hf9 q h) hf9 (fun r u t H locs ht hvm hw hB hz1 hk1 hS => ?_)
  obtain ⟨hP, hK9, hD9⟩ := hB
  rw [ht] at hP
  try dsimp only at hw
  subst hw
  have hD := hD9.weaken (fun _ q _ h => hf9 q.1 h)
  refine lv_istore (lv' := [(7, .int y1.2), (0, .ref (ad a)), (1, va_re ad p0), (2, va_re ad p1), (3, .int p2), (4, .int p3), (5, .int p4), (6, .int p5)]) hx hb dX6_measureLuma_5 hl (by decide) rfl (fun ls hl => ?_)
  refine lv_iload hx hb dX6_measureLuma_7 (lv_at hl 5 rfl) ?_
  obtain ⟨y2, hy2, hF⟩ := bnd_some hF
  have hf9 := wA_in hD hA9 hS
  refine va_calli (va_runS (As := [.int p3]) (rest := []) ⟨hx, hb, hml, hown, hts⟩ (kX9_pieceY l D ct ad Z G y1.1 H.size p3 y2 hy2) (va_cwS 1 hts gX6_measureLuma_X9_pieceY rfl rfl rfl (by decide +kernel) ⟨Nat.le_of_ble_eq_true rfl, Nat.le_of_ble_eq_true rfl⟩) ⟨fun a U g mk q => by obtain ⟨q0, q1, qP, qK, qD, qZ, qN⟩ := q; exact ⟨q0, q1, qP, va_K.moved (u := U) (U := U.calling g mk a) (Vm.Alike.refl U.vm) qK, qD, sF.moved (u := U) (U := U.calling g mk a) (Vm.Alike.refl U.vm) qZ, nF.same rfl qN⟩, fun U hU hW => ⟨rfl, by rw [hU], by rw [hU]; exact hP, va_K.moved hW.alike hK, hD.weaken (fun _ _ _ _ => trivial), by rw [hU]; exact ((hZ.kept hS.2.1).narrow hf9).moved hW.alike, hN.warm hW⟩⟩ rfl rfl hl.1 rfl (lv_room (Nat.le_of_ble_eq_true rfl)) dX6_measureLuma_9 ⟨(Nat.zero_le _), (Nat.zero_le _)⟩) hS (fun q _ h => hf9 q h) hf9 (fun r u t H locs ht hvm hw hB hz1 hk1 hS => ?_)
  obtain ⟨hP, hK9, hD9⟩ := hB
  rw [ht] at hP
  try dsimp only at hw
  subst hw
  have hD := hD9.weaken (fun _ q _ h => hf9 q.1 h)
  refine lv_istore (lv' := [(8, .int y2.2), (7, .int y1.2), (0, .ref (ad a)), (1, va_re ad p0), (2, va_re ad p1), (3, .int p2), (4, .int p3), (5, .int p4), (6, .int p5)]) hx hb dX6_measureLuma_12 hl (by decide) rfl (fun ls hl => ?_)
  refine lv_aload_n hx hb dX6_measureLuma_14 rfl (lv_at hl 2 rfl) ?_
  refine lv_aloadq_n hx hb dX6_measureLuma_15 rfl (lv_at hl 4 rfl) ?_
  refine lv_aloadq_n hx hb dX6_measureLuma_16 rfl (lv_at hl 3 rfl) ?_
  obtain ⟨b3, ho3, hc3, hk3, hF⟩ := dr_some hF
  refine W_st (st' := [.ref (ad b3), va_re ad p1, .ref (ad a)]) (by rw [va_some ho3]) ?_
  refine va_get (D := D) (ci := 9) (v := va_re ad (y2.1.2 b3 0)) (C := RX9) (T := TX9) (N := 20) hx hb hts (mus hf_X9) hown hK hP b3 (wld_o ct ad G y2.1 hc3 hk3 (by decide)) rfl 0 (by decide) (hts (.fieldLink RX6 46 "VideoSuite$Work" "pic" "LVideoSuite$Picture;") (mu mw_421)) (fun _ h9 => h9) rfl dX6_measureLuma_17 ?_
  refine lv_iload_n hx hb dX6_measureLuma_20 rfl (lv_at hl 5 rfl) ?_
  refine lv_iload hx hb dX6_measureLuma_21 (lv_at hl 1 rfl) ?_
  refine lv_iload hx hb dX6_measureLuma_23 (lv_at hl 0 rfl) ?_
  obtain ⟨y4, hy4, hF⟩ := bnd_some hF
  have hf9 := wA_in hD hA9 hS
  refine va_calli (va_runS (As := [va_re ad (y2.1.2 b3 0), .int p2, .int y1.2, .int y2.2]) (rest := [va_re ad p1, .ref (ad a)]) ⟨hx, hb, hml, hown, hts⟩ (kX6_lumaAt l D ct ad Z G y2.1 H.size ((y2.1.2 b3 0)) p2 y1.2 y2.2 y4 hy4) (va_cwS 4 hts gX6_measureLuma_X6_lumaAt rfl rfl rfl (by decide +kernel) ⟨Nat.le_of_ble_eq_true rfl, Nat.le_of_ble_eq_true rfl⟩) ⟨fun a U g mk q => by obtain ⟨q0, q1, qP, qK, qD, qZ, qN⟩ := q; exact ⟨q0, q1, qP, va_K.moved (u := U) (U := U.calling g mk a) (Vm.Alike.refl U.vm) qK, qD, sF.moved (u := U) (U := U.calling g mk a) (Vm.Alike.refl U.vm) qZ, nF.same rfl qN⟩, fun U hU hW => ⟨rfl, by rw [hU], by rw [hU]; exact hP, va_K.moved hW.alike hK, hD.weaken (fun _ _ _ _ => trivial), by rw [hU]; exact ((hZ.kept hS.2.1).narrow hf9).moved hW.alike, hN.warm hW⟩⟩ rfl rfl hl.1 rfl (lv_room (by simp only [List.map, va_re_cat]; exact Nat.le_of_ble_eq_true rfl)) dX6_measureLuma_25 ⟨(Nat.zero_le _), (Nat.zero_le _)⟩) hS (fun q _ h => hf9 q h) hf9 (fun r u t H locs ht hvm hw hB hz1 hk1 hS => ?_)
  obtain ⟨hP, hK9, hD9⟩ := hB
  rw [ht] at hP
  try dsimp only at hw
  subst hw
  have hD := hD9.weaken (fun _ q _ h => hf9 q.1 h)
  refine lv_bipush (v := (16 : Int32)) hx hb dX6_measureLuma_28 (by decide) ?_
  refine lv_aloadq_n hx hb dX6_measureLuma_30 rfl (lv_at hl 3 rfl) ?_
  refine W_st (st' := [.ref (ad b3), .int (16 : Int32), .int y4.2, va_re ad p1, .ref (ad a)]) (by rw [va_some ho3]) ?_
  refine va_get (D := D) (ci := 9) (v := va_re ad (y4.1.2 b3 0)) (C := RX9) (T := TX9) (N := 20) hx hb hts (mus hf_X9) hown hK hP b3 (wld_o ct ad G y4.1 hc3 hk3 (by decide)) rfl 0 (by decide) (hts (.fieldLink RX6 46 "VideoSuite$Work" "pic" "LVideoSuite$Picture;") (mu mw_421)) (fun _ h9 => h9) rfl dX6_measureLuma_31 ?_
  obtain ⟨b5, ho5, hc5, hk5, hF⟩ := dr_some hF
  refine W_st (st' := [.ref (ad b5), .int (16 : Int32), .int y4.2, va_re ad p1, .ref (ad a)]) (by rw [va_some ho5]) ?_
  refine va_get (D := D) (ci := 4) (v := .int (y4.1.1 b5 1)) (C := RX4) (T := TX4) (N := 18) hx hb hts (mus hf_X4) hown hK hP b5 (wld_o ct ad G y4.1 hc5 hk5 (by decide)) rfl 1 (by decide) (hts (.fieldLink RX6 83 "VideoSuite$Picture" "width" "I") (mu mw_1422)) (fun _ h9 => h9) rfl dX6_measureLuma_34 ?_
  obtain ⟨x6, ex6, hF⟩ := ltt_some hF
  refine lv_topi (fun zx6 ezx6 => ?_)
  obtain rfl : x6 = zx6 := ex6.trans ezx6.symm
  refine lv_imul hx hb dX6_measureLuma_37 ?_
  obtain ⟨x7, ex7, hF⟩ := ltt_some hF
  refine lv_topi (fun zx7 ezx7 => ?_)
  obtain rfl : x7 = zx7 := ex7.trans ezx7.symm
  refine lv_bipush (v := (16 : Int32)) hx hb dX6_measureLuma_38 (by decide) ?_
  refine lv_iload hx hb dX6_measureLuma_40 (lv_at hl 0 rfl) ?_
  refine lv_imul hx hb dX6_measureLuma_42 ?_
  obtain ⟨x8, ex8, hF⟩ := ltt_some hF
  refine lv_topi (fun zx8 ezx8 => ?_)
  obtain rfl : x8 = zx8 := ex8.trans ezx8.symm
  refine lv_iload hx hb dX6_measureLuma_43 (lv_at hl 1 rfl) ?_
  refine lv_iadd hx hb dX6_measureLuma_45 ?_
  obtain ⟨x9, ex9, hF⟩ := ltt_some hF
  refine lv_topi (fun zx9 ezx9 => ?_)
  obtain rfl : x9 = zx9 := ex9.trans ezx9.symm
  refine lv_bipush (v := (16 : Int32)) hx hb dX6_measureLuma_46 (by decide) ?_
  obtain ⟨y10, hy10, hF⟩ := bnd_some hF
  have hf9 := wA_in hD hA9 hS
  refine va_callv (va_runV (As := [va_re ad p1, .int y4.2, .int x7, .int x9, .int (16 : Int32)]) (rest := []) ⟨hx, hb, hml, hown, hts⟩ (kX6_turn l D ct ad Z G y4.1 H.size a p1 y4.2 x7 x9 ((16 : Int32)) y10 hc hk hy10) (cwV 5 hts gX6_measureLuma_X6_turn rfl rfl rfl (by decide +kernel) ⟨Nat.le_of_ble_eq_true rfl, Nat.le_of_ble_eq_true rfl⟩) ⟨fun a U g mk q => by obtain ⟨q0, q1, qP, qK, qD, qZ, qN⟩ := q; exact ⟨q0, q1, qP, va_K.moved (u := U) (U := U.calling g mk a) (Vm.Alike.refl U.vm) qK, qD, sF.moved (u := U) (U := U.calling g mk a) (Vm.Alike.refl U.vm) qZ, nF.same rfl qN⟩, va_recv hK hP (ci := 6) (q0 := a) rfl (wld_o ct ad G y4.1 hc hk (by decide)), fun U hU hW => ⟨rfl, by rw [hU], by rw [hU]; exact hP, va_K.moved hW.alike hK, hD.weaken (fun _ _ _ _ => trivial), by rw [hU]; exact ((hZ.kept hS.2.1).narrow hf9).moved hW.alike, hN.warm hW⟩⟩ rfl rfl hl.1 rfl (lv_room (Nat.le_of_ble_eq_true rfl)) dX6_measureLuma_48 ⟨(Nat.zero_le _), (Nat.zero_le _)⟩) hS (fun q _ h => hf9 q h) hf9 (fun u t H locs ht hvm hw hB hz1 hk1 hS => ?_)
  obtain ⟨hP, hK9, hD9⟩ := hB
  rw [ht] at hP
  have hD := hD9.weaken (fun _ q _ h => hf9 q.1 h)
  refine lv_aload_n hx hb dX6_measureLuma_51 rfl (lv_at hl 2 rfl) ?_
  refine lv_aloadq_n hx hb dX6_measureLuma_52 rfl (lv_at hl 3 rfl) ?_
  refine W_st (st' := [.ref (ad b3), .ref (ad a)]) (by rw [va_some ho3]) ?_
  refine va_get (D := D) (ci := 9) (v := va_re ad (y10.2 b3 9)) (C := RX9) (T := TX9) (N := 20) hx hb hts (mus hf_X9) hown hK hP b3 (wld_o ct ad G y10 hc3 hk3 (by decide)) rfl 9 (by decide) (hts (.fieldLink RX6 234 "VideoSuite$Work" "level" "[I") (mu mw_456)) (fun _ h9 => h9) rfl dX6_measureLuma_53 ?_
  refine lv_iload_n hx hb dX6_measureLuma_56 rfl (lv_at hl 5 rfl) ?_
  refine lv_iload hx hb dX6_measureLuma_57 (lv_at hl 6 rfl) ?_
  obtain ⟨y11, hy11, hF⟩ := bnd_some hF
  have hf9 := wA_in hD hA9 hS
  refine va_calli (va_runS (As := [.int p2, .int p3]) (rest := [va_re ad (y10.2 b3 9), .ref (ad a)]) ⟨hx, hb, hml, hown, hts⟩ (kX9_levelAt l D ct ad Z G y10 H.size p2 p3 y11 hy11) (va_cwS 2 hts gX6_measureLuma_X9_levelAt rfl rfl rfl (by decide +kernel) ⟨Nat.le_of_ble_eq_true rfl, Nat.le_of_ble_eq_true rfl⟩) ⟨fun a U g mk q => by obtain ⟨q0, q1, qP, qK, qD, qZ, qN⟩ := q; exact ⟨q0, q1, qP, va_K.moved (u := U) (U := U.calling g mk a) (Vm.Alike.refl U.vm) qK, qD, sF.moved (u := U) (U := U.calling g mk a) (Vm.Alike.refl U.vm) qZ, nF.same rfl qN⟩, fun U hU hW => ⟨rfl, by rw [hU], by rw [hU]; exact hP, va_K.moved hW.alike hK, hD.weaken (fun _ _ _ _ => trivial), by rw [hU]; exact ((hZ.kept hS.2.1).narrow hf9).moved hW.alike, hN.warm hW⟩⟩ rfl rfl hl.1 rfl (lv_room (by simp only [List.map, va_re_cat]; exact Nat.le_of_ble_eq_true rfl)) dX6_measureLuma_59 ⟨(Nat.zero_le _), (Nat.zero_le _)⟩) hS (fun q _ h => hf9 q h) hf9 (fun r u t H locs ht hvm hw hB hz1 hk1 hS => ?_)
  obtain ⟨hP, hK9, hD9⟩ := hB
  rw [ht] at hP
  try dsimp only at hw
  subst hw
  have hD := hD9.weaken (fun _ q _ h => hf9 q.1 h)
  refine lv_iconst (v := (0 : Int32)) hx hb dX6_measureLuma_62 (by decide) ?_
  refine lv_iload hx hb dX6_measureLuma_63 (lv_at hl 7 rfl) ?_
  refine lv_iload hx hb dX6_measureLuma_65 (lv_at hl 8 rfl) ?_
  obtain ⟨y12, hy12, hF⟩ := bnd_some hF
  have hf9 := wA_in hD hA9 hS
  refine va_calli (va_runV (As := [va_re ad (y10.2 b3 9), .int y11.2, .int (0 : Int32), .int p4, .int p5]) (rest := []) ⟨hx, hb, hml, hown, hts⟩ (kX6_measure l D ct ad Z G y11.1 H.size a ((y10.2 b3 9)) y11.2 ((0 : Int32)) p4 p5 y12 hc hk hy12) (cwV 5 hts gX6_measureLuma_X6_measure rfl rfl rfl (by decide +kernel) ⟨Nat.le_of_ble_eq_true rfl, Nat.le_of_ble_eq_true rfl⟩) ⟨fun a U g mk q => by obtain ⟨q0, q1, qP, qK, qD, qZ, qN⟩ := q; exact ⟨q0, q1, qP, va_K.moved (u := U) (U := U.calling g mk a) (Vm.Alike.refl U.vm) qK, qD, sF.moved (u := U) (U := U.calling g mk a) (Vm.Alike.refl U.vm) qZ, nF.same rfl qN⟩, va_recv hK hP (ci := 6) (q0 := a) rfl (wld_o ct ad G y11.1 hc hk (by decide)), fun U hU hW => ⟨rfl, by rw [hU], by rw [hU]; exact hP, va_K.moved hW.alike hK, hD.weaken (fun _ _ _ _ => trivial), by rw [hU]; exact ((hZ.kept hS.2.1).narrow hf9).moved hW.alike, hN.warm hW⟩⟩ rfl rfl hl.1 rfl (lv_room (Nat.le_of_ble_eq_true rfl)) dX6_measureLuma_67 ⟨(Nat.zero_le _), (Nat.zero_le _)⟩) hS (fun q _ h => hf9 q h) hf9 (fun r u t H locs ht hvm hw hB hz1 hk1 hS => ?_)
  obtain ⟨hP, hK9, hD9⟩ := hB
  rw [ht] at hP
  try dsimp only at hw
  subst hw
  have hD := hD9.weaken (fun _ q _ h => hf9 q.1 h)
  refine lv_istore (lv' := [(9, .int y12.2), (8, .int y2.2), (7, .int y1.2), (0, .ref (ad a)), (1, va_re ad p0), (2, va_re ad p1), (3, .int p2), (4, .int p3), (5, .int p4), (6, .int p5)]) hx hb dX6_measureLuma_70 hl (by decide) rfl (fun ls hl => ?_)
  refine lv_aloadq_n hx hb dX6_measureLuma_72 rfl (lv_at hl 4 rfl) ?_
  refine W_st (st' := [.ref (ad b3)]) (by rw [va_some ho3]) ?_
  refine va_get (D := D) (ci := 9) (v := va_re ad (y12.1.2 b3 8)) (C := RX9) (T := TX9) (N := 20) hx hb hts (mus hf_X9) hown hK hP b3 (wld_o ct ad G y12.1 hc3 hk3 (by decide)) rfl 8 (by decide) (hts (.fieldLink RX6 277 "VideoSuite$Work" "total" "[I") (mu mw_452)) (fun _ h9 => h9) rfl dX6_measureLuma_73 ?_
  refine lv_bipush (v := (24 : Int32)) hx hb dX6_measureLuma_76 (by decide) ?_
  refine lv_iload_n hx hb dX6_measureLuma_78 rfl (lv_at hl 6 rfl) ?_
  refine lv_imul hx hb dX6_measureLuma_79 ?_
  obtain ⟨x13, ex13, hF⟩ := ltt_some hF
  refine lv_topi (fun zx13 ezx13 => ?_)
  obtain rfl : x13 = zx13 := ex13.trans ezx13.symm
  refine lv_iload hx hb dX6_measureLuma_80 (lv_at hl 7 rfl) ?_
  refine lv_iadd hx hb dX6_measureLuma_82 ?_
  obtain ⟨x14, ex14, hF⟩ := ltt_some hF
  refine lv_topi (fun zx14 ezx14 => ?_)
  obtain rfl : x14 = zx14 := ex14.trans ezx14.symm
  refine lv_iload hx hb dX6_measureLuma_83 (lv_at hl 0 rfl) ?_
  obtain ⟨b15, ho15, hc15, hk15, hF⟩ := dr_some hF
  refine W_st (st' := [.int y12.2, .int x14, .ref (ad b15)]) (by rw [va_some ho15]) ?_
  obtain ⟨hvc, hF⟩ := chk_some hF
  refine va_iast hx hb hK hP hD hS b15 1 (wld_i ct ad G y12.1 hc15 hk15) rfl hvc dX6_measureLuma_85 (fun H locs hP hD hS => ?_)
  obtain ⟨M16, eM16, hF⟩ := ltt_some hF
  rw [set_i ct ad G y12.1 hc15 hk15, ← eM16] at hP hD
  refine lv_iload hx hb dX6_measureLuma_86 (lv_at hl 0 rfl) ?_
  obtain rfl := Option.some.inj hF
  exact W.iret (v := y12.2) hx hb hr (fun t ht hW => ⟨⟨_, (), rfl, rfl, ⟨by rw [ht]; exact hP, va_K.moved hW.alike hK, hD⟩⟩, hS.F ht⟩) hS.2.2 dX6_measureLuma_88
set_option maxRecDepth 20000 in
theorem gX6_measureSixteen_X6_turnEven : GoodIn wuX6_measureSixteen (wsV RX6 247 RX6 yX6_turnEven wuX6_turnEven) := gu_V mw_2085 mw_2087 mw_81 mw_172 mw_2088
set_option maxRecDepth 20000 in
set_option maxRecDepth 20000 in
theorem gX6_measureSixteen_X9_levelAt : GoodIn wuX6_measureSixteen (va_wsS RX6 237 yX9_levelAt wuX9_levelAt) := gu_S mw_2080 mw_1789 mw_171 mw_1790
set_option maxRecDepth 20000 in
set_option maxRecDepth 20000 in
theorem gX6_measureSixteen_X6_normAt : GoodIn wuX6_measureSixteen (va_wsS RX6 227 yX6_normAt wuX6_normAt) := gu_S mw_2096 mw_2097 mw_172 mw_2098
set_option maxRecDepth 20000 in
set_option maxRecDepth 20000 in
theorem gX6_measureSixteen_X6_roundingOf : GoodIn wuX6_measureSixteen (va_wsS RX6 262 yX6_roundingOf wuX6_roundingOf) := gu_S mw_2595 mw_2596 mw_172 mw_2597
set_option maxRecDepth 20000 in
set_option maxRecDepth 20000 in
theorem gX6_measureSixteen_X6_measured : GoodIn wuX6_measureSixteen (va_wsS RX6 266 yX6_measured wuX6_measured) := gu_S mw_2598 mw_2599 mw_172 mw_2600
set_option maxRecDepth 20000 in
theorem gX6_measureSixteen_X9_pieceX : GoodIn wuX6_measureSixteen (va_wsS RX6 76 yX9_pieceX wuX9_pieceX) := gu_S mw_2014 mw_949 mw_171 mw_950
set_option maxRecDepth 20000 in
set_option maxRecDepth 20000 in
theorem gX6_measureSixteen_X9_pieceY : GoodIn wuX6_measureSixteen (va_wsS RX6 80 yX9_pieceY wuX9_pieceY) := gu_S mw_2015 mw_952 mw_171 mw_953
set_option maxRecDepth 20000 in
set_option maxRecDepth 20000 in
theorem gX6_measureSixteen_X6_lumaAt : GoodIn wuX6_measureSixteen (va_wsS RX6 175 yX6_lumaAt wuX6_lumaAt) := gu_S mw_1981 mw_1982 mw_172 mw_1983
set_option maxRecDepth 20000 in
set_option maxRecDepth 20000 in
theorem gX6_measureSixteen_X6_turn : GoodIn wuX6_measureSixteen (wsV RX6 270 RX6 yX6_turn wuX6_turn) := gu_V mw_2585 mw_2587 mw_139 mw_172 mw_2588
set_option maxRecDepth 20000 in
set_option maxRecDepth 20000 in
theorem gX6_measureSixteen_X6_measure : GoodIn wuX6_measureSixteen (wsV RX6 273 RX6 yX6_measure wuX6_measure) := gu_V mw_2589 mw_2591 mw_140 mw_172 mw_2592
set_option maxRecDepth 20000 in
theorem dX6_measureSixteen_0 : decode cX6_measureSixteen 0 = .ok (.iconst 0, 1) := by decide +kernel
theorem dX6_measureSixteen_1 : decode cX6_measureSixteen 1 = .ok (.istore 5, 2) := by decide +kernel
theorem dX6_measureSixteen_3 : decode cX6_measureSixteen 3 = .ok (.iconst 0, 1) := by decide +kernel
theorem dX6_measureSixteen_4 : decode cX6_measureSixteen 4 = .ok (.istore 6, 2) := by decide +kernel
theorem dX6_measureSixteen_6 : decode cX6_measureSixteen 6 = .ok (.iload 6, 2) := by decide +kernel
theorem dX6_measureSixteen_8 : decode cX6_measureSixteen 8 = .ok (.bipush 16, 2) := by decide +kernel
theorem dX6_measureSixteen_10 : decode cX6_measureSixteen 10 = .ok (.if_icmp .ge 119, 3) := by decide +kernel
theorem dX6_measureSixteen_13 : decode cX6_measureSixteen 13 = .ok (.iload 6, 2) := by decide +kernel
theorem dX6_measureSixteen_15 : decode cX6_measureSixteen 15 = .ok (.invokestatic 76, 3) := by decide +kernel
theorem dX6_measureSixteen_18 : decode cX6_measureSixteen 18 = .ok (.istore 7, 2) := by decide +kernel
theorem dX6_measureSixteen_20 : decode cX6_measureSixteen 20 = .ok (.iload 6, 2) := by decide +kernel
theorem dX6_measureSixteen_22 : decode cX6_measureSixteen 22 = .ok (.invokestatic 80, 3) := by decide +kernel
theorem dX6_measureSixteen_25 : decode cX6_measureSixteen 25 = .ok (.istore 8, 2) := by decide +kernel
theorem dX6_measureSixteen_27 : decode cX6_measureSixteen 27 = .ok (.aload_n 0, 1) := by decide +kernel
theorem dX6_measureSixteen_28 : decode cX6_measureSixteen 28 = .ok (.aload_n 2, 1) := by decide +kernel
theorem dX6_measureSixteen_29 : decode cX6_measureSixteen 29 = .ok (.aload_n 1, 1) := by decide +kernel
theorem dX6_measureSixteen_30 : decode cX6_measureSixteen 30 = .ok (.getfield 46, 3) := by decide +kernel
theorem dX6_measureSixteen_33 : decode cX6_measureSixteen 33 = .ok (.iload_n 3, 1) := by decide +kernel
theorem dX6_measureSixteen_34 : decode cX6_measureSixteen 34 = .ok (.iload 7, 2) := by decide +kernel
theorem dX6_measureSixteen_36 : decode cX6_measureSixteen 36 = .ok (.iload 8, 2) := by decide +kernel
theorem dX6_measureSixteen_38 : decode cX6_measureSixteen 38 = .ok (.invokestatic 175, 3) := by decide +kernel
theorem dX6_measureSixteen_41 : decode cX6_measureSixteen 41 = .ok (.bipush 16, 2) := by decide +kernel
theorem dX6_measureSixteen_43 : decode cX6_measureSixteen 43 = .ok (.aload_n 1, 1) := by decide +kernel
theorem dX6_measureSixteen_44 : decode cX6_measureSixteen 44 = .ok (.getfield 46, 3) := by decide +kernel
theorem dX6_measureSixteen_47 : decode cX6_measureSixteen 47 = .ok (.getfield 83, 3) := by decide +kernel
theorem dX6_measureSixteen_50 : decode cX6_measureSixteen 50 = .ok (.imul, 1) := by decide +kernel
theorem dX6_measureSixteen_51 : decode cX6_measureSixteen 51 = .ok (.bipush 16, 2) := by decide +kernel
theorem dX6_measureSixteen_53 : decode cX6_measureSixteen 53 = .ok (.iload 8, 2) := by decide +kernel
theorem dX6_measureSixteen_55 : decode cX6_measureSixteen 55 = .ok (.imul, 1) := by decide +kernel
theorem dX6_measureSixteen_56 : decode cX6_measureSixteen 56 = .ok (.iload 7, 2) := by decide +kernel
theorem dX6_measureSixteen_58 : decode cX6_measureSixteen 58 = .ok (.iadd, 1) := by decide +kernel
theorem dX6_measureSixteen_59 : decode cX6_measureSixteen 59 = .ok (.bipush 16, 2) := by decide +kernel
theorem dX6_measureSixteen_61 : decode cX6_measureSixteen 61 = .ok (.invokevirtual 270, 3) := by decide +kernel
theorem dX6_measureSixteen_64 : decode cX6_measureSixteen 64 = .ok (.aload_n 0, 1) := by decide +kernel
theorem dX6_measureSixteen_65 : decode cX6_measureSixteen 65 = .ok (.getfield 33, 3) := by decide +kernel
theorem dX6_measureSixteen_68 : decode cX6_measureSixteen 68 = .ok (.iload 8, 2) := by decide +kernel
theorem dX6_measureSixteen_70 : decode cX6_measureSixteen 70 = .ok (.iload 7, 2) := by decide +kernel
theorem dX6_measureSixteen_72 : decode cX6_measureSixteen 72 = .ok (.iconst 4, 1) := by decide +kernel
theorem dX6_measureSixteen_73 : decode cX6_measureSixteen 73 = .ok (.idiv, 1) := by decide +kernel
theorem dX6_measureSixteen_74 : decode cX6_measureSixteen 74 = .ok (.iadd, 1) := by decide +kernel
theorem dX6_measureSixteen_75 : decode cX6_measureSixteen 75 = .ok (.aload_n 0, 1) := by decide +kernel
theorem dX6_measureSixteen_76 : decode cX6_measureSixteen 76 = .ok (.getfield 30, 3) := by decide +kernel
theorem dX6_measureSixteen_79 : decode cX6_measureSixteen 79 = .ok (.iconst 0, 1) := by decide +kernel
theorem dX6_measureSixteen_80 : decode cX6_measureSixteen 80 = .ok (.iaload, 1) := by decide +kernel
theorem dX6_measureSixteen_81 : decode cX6_measureSixteen 81 = .ok (.iastore, 1) := by decide +kernel
theorem dX6_measureSixteen_82 : decode cX6_measureSixteen 82 = .ok (.aload_n 0, 1) := by decide +kernel
theorem dX6_measureSixteen_83 : decode cX6_measureSixteen 83 = .ok (.aload_n 1, 1) := by decide +kernel
theorem dX6_measureSixteen_84 : decode cX6_measureSixteen 84 = .ok (.getfield 234, 3) := by decide +kernel
theorem dX6_measureSixteen_87 : decode cX6_measureSixteen 87 = .ok (.iload_n 3, 1) := by decide +kernel
theorem dX6_measureSixteen_88 : decode cX6_measureSixteen 88 = .ok (.iload 6, 2) := by decide +kernel
theorem dX6_measureSixteen_90 : decode cX6_measureSixteen 90 = .ok (.invokestatic 237, 3) := by decide +kernel
theorem dX6_measureSixteen_93 : decode cX6_measureSixteen 93 = .ok (.iconst 1, 1) := by decide +kernel
theorem dX6_measureSixteen_94 : decode cX6_measureSixteen 94 = .ok (.iload 4, 2) := by decide +kernel
theorem dX6_measureSixteen_96 : decode cX6_measureSixteen 96 = .ok (.iconst 1, 1) := by decide +kernel
theorem dX6_measureSixteen_97 : decode cX6_measureSixteen 97 = .ok (.invokevirtual 273, 3) := by decide +kernel
theorem dX6_measureSixteen_100 : decode cX6_measureSixteen 100 = .ok (.istore 9, 2) := by decide +kernel
theorem dX6_measureSixteen_102 : decode cX6_measureSixteen 102 = .ok (.aload_n 1, 1) := by decide +kernel
theorem dX6_measureSixteen_103 : decode cX6_measureSixteen 103 = .ok (.getfield 277, 3) := by decide +kernel
theorem dX6_measureSixteen_106 : decode cX6_measureSixteen 106 = .ok (.bipush 24, 2) := by decide +kernel
theorem dX6_measureSixteen_108 : decode cX6_measureSixteen 108 = .ok (.iload_n 3, 1) := by decide +kernel
theorem dX6_measureSixteen_109 : decode cX6_measureSixteen 109 = .ok (.imul, 1) := by decide +kernel
theorem dX6_measureSixteen_110 : decode cX6_measureSixteen 110 = .ok (.iload 6, 2) := by decide +kernel
theorem dX6_measureSixteen_112 : decode cX6_measureSixteen 112 = .ok (.iadd, 1) := by decide +kernel
theorem dX6_measureSixteen_113 : decode cX6_measureSixteen 113 = .ok (.iload 9, 2) := by decide +kernel
theorem dX6_measureSixteen_115 : decode cX6_measureSixteen 115 = .ok (.iastore, 1) := by decide +kernel
theorem dX6_measureSixteen_116 : decode cX6_measureSixteen 116 = .ok (.iload 5, 2) := by decide +kernel
theorem dX6_measureSixteen_118 : decode cX6_measureSixteen 118 = .ok (.iload 9, 2) := by decide +kernel
theorem dX6_measureSixteen_120 : decode cX6_measureSixteen 120 = .ok (.iadd, 1) := by decide +kernel
theorem dX6_measureSixteen_121 : decode cX6_measureSixteen 121 = .ok (.istore 5, 2) := by decide +kernel
theorem dX6_measureSixteen_123 : decode cX6_measureSixteen 123 = .ok (.iinc 6 1, 3) := by decide +kernel
theorem dX6_measureSixteen_126 : decode cX6_measureSixteen 126 = .ok (.goto (-120), 3) := by decide +kernel
theorem dX6_measureSixteen_129 : decode cX6_measureSixteen 129 = .ok (.aload_n 0, 1) := by decide +kernel
theorem dX6_measureSixteen_130 : decode cX6_measureSixteen 130 = .ok (.invokevirtual 247, 3) := by decide +kernel
theorem dX6_measureSixteen_133 : decode cX6_measureSixteen 133 = .ok (.iload_n 3, 1) := by decide +kernel
theorem dX6_measureSixteen_134 : decode cX6_measureSixteen 134 = .ok (.bipush 16, 2) := by decide +kernel
theorem dX6_measureSixteen_136 : decode cX6_measureSixteen 136 = .ok (.invokestatic 237, 3) := by decide +kernel
theorem dX6_measureSixteen_139 : decode cX6_measureSixteen 139 = .ok (.istore 6, 2) := by decide +kernel
theorem dX6_measureSixteen_141 : decode cX6_measureSixteen 141 = .ok (.iconst 0, 1) := by decide +kernel
theorem dX6_measureSixteen_142 : decode cX6_measureSixteen 142 = .ok (.istore 7, 2) := by decide +kernel
theorem dX6_measureSixteen_144 : decode cX6_measureSixteen 144 = .ok (.iload 7, 2) := by decide +kernel
theorem dX6_measureSixteen_146 : decode cX6_measureSixteen 146 = .ok (.bipush 16, 2) := by decide +kernel
theorem dX6_measureSixteen_148 : decode cX6_measureSixteen 148 = .ok (.if_icmp .ge 75, 3) := by decide +kernel
theorem dX6_measureSixteen_151 : decode cX6_measureSixteen 151 = .ok (.aload_n 0, 1) := by decide +kernel
theorem dX6_measureSixteen_152 : decode cX6_measureSixteen 152 = .ok (.getfield 33, 3) := by decide +kernel
theorem dX6_measureSixteen_155 : decode cX6_measureSixteen 155 = .ok (.iconst 4, 1) := by decide +kernel
theorem dX6_measureSixteen_156 : decode cX6_measureSixteen 156 = .ok (.getstatic 221, 3) := by decide +kernel
theorem dX6_measureSixteen_159 : decode cX6_measureSixteen 159 = .ok (.iload 7, 2) := by decide +kernel
theorem dX6_measureSixteen_161 : decode cX6_measureSixteen 161 = .ok (.iaload, 1) := by decide +kernel
theorem dX6_measureSixteen_162 : decode cX6_measureSixteen 162 = .ok (.imul, 1) := by decide +kernel
theorem dX6_measureSixteen_163 : decode cX6_measureSixteen 163 = .ok (.getstatic 218, 3) := by decide +kernel
theorem dX6_measureSixteen_166 : decode cX6_measureSixteen 166 = .ok (.iload 7, 2) := by decide +kernel
theorem dX6_measureSixteen_168 : decode cX6_measureSixteen 168 = .ok (.iaload, 1) := by decide +kernel
theorem dX6_measureSixteen_169 : decode cX6_measureSixteen 169 = .ok (.iadd, 1) := by decide +kernel
theorem dX6_measureSixteen_170 : decode cX6_measureSixteen 170 = .ok (.iaload, 1) := by decide +kernel
theorem dX6_measureSixteen_171 : decode cX6_measureSixteen 171 = .ok (.iconst 2, 1) := by decide +kernel
theorem dX6_measureSixteen_172 : decode cX6_measureSixteen 172 = .ok (.idiv, 1) := by decide +kernel
theorem dX6_measureSixteen_173 : decode cX6_measureSixteen 173 = .ok (.istore 8, 2) := by decide +kernel
theorem dX6_measureSixteen_175 : decode cX6_measureSixteen 175 = .ok (.aload_n 1, 1) := by decide +kernel
theorem dX6_measureSixteen_176 : decode cX6_measureSixteen 176 = .ok (.getfield 234, 3) := by decide +kernel
theorem dX6_measureSixteen_179 : decode cX6_measureSixteen 179 = .ok (.iload 6, 2) := by decide +kernel
theorem dX6_measureSixteen_181 : decode cX6_measureSixteen 181 = .ok (.iload 7, 2) := by decide +kernel
theorem dX6_measureSixteen_183 : decode cX6_measureSixteen 183 = .ok (.iadd, 1) := by decide +kernel
theorem dX6_measureSixteen_184 : decode cX6_measureSixteen 184 = .ok (.iload 8, 2) := by decide +kernel
theorem dX6_measureSixteen_186 : decode cX6_measureSixteen 186 = .ok (.getstatic 259, 3) := by decide +kernel
theorem dX6_measureSixteen_189 : decode cX6_measureSixteen 189 = .ok (.iload 4, 2) := by decide +kernel
theorem dX6_measureSixteen_191 : decode cX6_measureSixteen 191 = .ok (.iconst 0, 1) := by decide +kernel
theorem dX6_measureSixteen_192 : decode cX6_measureSixteen 192 = .ok (.iconst 0, 1) := by decide +kernel
theorem dX6_measureSixteen_193 : decode cX6_measureSixteen 193 = .ok (.invokestatic 227, 3) := by decide +kernel
theorem dX6_measureSixteen_196 : decode cX6_measureSixteen 196 = .ok (.iaload, 1) := by decide +kernel
theorem dX6_measureSixteen_197 : decode cX6_measureSixteen 197 = .ok (.iconst 2, 1) := by decide +kernel
theorem dX6_measureSixteen_198 : decode cX6_measureSixteen 198 = .ok (.iload 4, 2) := by decide +kernel
theorem dX6_measureSixteen_200 : decode cX6_measureSixteen 200 = .ok (.iconst 1, 1) := by decide +kernel
theorem dX6_measureSixteen_201 : decode cX6_measureSixteen 201 = .ok (.invokestatic 262, 3) := by decide +kernel
theorem dX6_measureSixteen_204 : decode cX6_measureSixteen 204 = .ok (.imul, 1) := by decide +kernel
theorem dX6_measureSixteen_205 : decode cX6_measureSixteen 205 = .ok (.bipush 16, 2) := by decide +kernel
theorem dX6_measureSixteen_207 : decode cX6_measureSixteen 207 = .ok (.iload 4, 2) := by decide +kernel
theorem dX6_measureSixteen_209 : decode cX6_measureSixteen 209 = .ok (.bipush 6, 2) := by decide +kernel
theorem dX6_measureSixteen_211 : decode cX6_measureSixteen 211 = .ok (.idiv, 1) := by decide +kernel
theorem dX6_measureSixteen_212 : decode cX6_measureSixteen 212 = .ok (.iadd, 1) := by decide +kernel
theorem dX6_measureSixteen_213 : decode cX6_measureSixteen 213 = .ok (.invokestatic 266, 3) := by decide +kernel
theorem dX6_measureSixteen_216 : decode cX6_measureSixteen 216 = .ok (.iastore, 1) := by decide +kernel
theorem dX6_measureSixteen_217 : decode cX6_measureSixteen 217 = .ok (.iinc 7 1, 3) := by decide +kernel
theorem dX6_measureSixteen_220 : decode cX6_measureSixteen 220 = .ok (.goto (-76), 3) := by decide +kernel
theorem dX6_measureSixteen_223 : decode cX6_measureSixteen 223 = .ok (.iload 5, 2) := by decide +kernel
theorem dX6_measureSixteen_225 : decode cX6_measureSixteen 225 = .ok (.ifCond .le 7, 3) := by decide +kernel
theorem dX6_measureSixteen_228 : decode cX6_measureSixteen 228 = .ok (.iconst 1, 1) := by decide +kernel
theorem dX6_measureSixteen_229 : decode cX6_measureSixteen 229 = .ok (.goto 4, 3) := by decide +kernel
theorem dX6_measureSixteen_232 : decode cX6_measureSixteen 232 = .ok (.iconst 0, 1) := by decide +kernel
theorem dX6_measureSixteen_233 : decode cX6_measureSixteen 233 = .ok (.ireturn, 1) := by decide +kernel
def FX6_measureSixteen (G : GG) (M : DD) (a : Nat) (p0 : Option Nat) (p1 : Option Nat) (p2 : Int32) (p3 : Int32) : Option (DD × Int32) :=
  bnd (itr (fun (s2 : Int32 × Int32 × DD) => ((if ((16 : Int32)) ≤ s2.2.1 then (some (.inr (s2.1, s2.2.1, s2.2.2))) else
  (bnd (FX9_pieceX G s2.2.2 s2.2.1) fun y34 =>
  bnd (FX9_pieceY G y34.1 s2.2.1) fun y35 =>
  dr G 9 p0 fun b36 =>
  bnd (FX6_lumaAt G y35.1 ((y35.1.2 b36 0)) p2 y34.2 y35.2) fun y37 =>
  dr G 4 ((y37.1.2 b36 0)) fun b38 =>
  ltt (y37.1.1 b38 1) fun x39 =>
  ltt ((((16 : Int32)) * x39)) fun x40 =>
  ltt ((((16 : Int32)) * y35.2)) fun x41 =>
  ltt ((x41 + y34.2)) fun x42 =>
  bnd (FX6_turn G y37.1 a p1 y37.2 x40 x42 ((16 : Int32))) fun y43 =>
  ltt (y34.2 / ((4 : Int32))) fun x44 =>
  ltt ((y35.2 + x44)) fun x45 =>
  dr G 13 ((y43.2 a 6)) fun b46 =>
  chk (¬ (((0 : Int32)) < 0 ∨ G.2.2 b46 ≤ ((0 : Int32)).toNatClampNeg)) <|
  ltt (y43.1 b46 ((0 : Int32)).toNatClampNeg) fun x47 =>
  dr G 13 ((y43.2 a 7)) fun b48 =>
  chk (¬ (x45 < 0 ∨ G.2.2 b48 ≤ x45.toNatClampNeg)) <|
  ltt (uI y43 b48 x45.toNatClampNeg x47) fun M49 =>
  bnd (FX9_levelAt G M49 p2 s2.2.1) fun y50 =>
  bnd (FX6_measure G y50.1 a ((M49.2 b36 9)) y50.2 ((1 : Int32)) p3 ((1 : Int32))) fun y51 =>
  ltt ((((24 : Int32)) * p2)) fun x52 =>
  ltt ((x52 + s2.2.1)) fun x53 =>
  dr G 13 ((y51.1.2 b36 8)) fun b54 =>
  chk (¬ (x53 < 0 ∨ G.2.2 b54 ≤ x53.toNatClampNeg)) <|
  ltt (uI y51.1 b54 x53.toNatClampNeg y51.2) fun M55 =>
  ltt ((s2.1 + y51.2)) fun x56 =>
  ltt (s2.2.1 + (1 : Int32)) fun x57 =>
  some (.inl (x56, x57, M55)))) : Option ((Int32 × Int32 × DD) ⊕ (Int32 × Int32 × DD)))) 1000000 ((0 : Int32), (0 : Int32), M)) fun (y1 : Int32 × Int32 × DD) =>
  bnd (FX6_turnEven G y1.2.2 a) fun y4 =>
  bnd (FX9_levelAt G y4 p2 ((16 : Int32))) fun y5 =>
  bnd (itr (fun (s7 : Int32 × DD) => ((if ((16 : Int32)) ≤ s7.1 then (some (.inr (s7.1, s7.2))) else
  (chk (¬ (s7.1 < 0 ∨ 16 ≤ s7.1.toNatClampNeg)) <|
  ltt ((sT 15).getD s7.1.toNatClampNeg 0) fun x13 =>
  ltt ((((4 : Int32)) * x13)) fun x14 =>
  chk (¬ (s7.1 < 0 ∨ 16 ≤ s7.1.toNatClampNeg)) <|
  ltt ((sT 14).getD s7.1.toNatClampNeg 0) fun x15 =>
  ltt ((x14 + x15)) fun x16 =>
  dr G 13 ((s7.2.2 a 7)) fun b17 =>
  chk (¬ (x16 < 0 ∨ G.2.2 b17 ≤ x16.toNatClampNeg)) <|
  ltt (s7.2.1 b17 x16.toNatClampNeg) fun x18 =>
  ltt (x18 / ((2 : Int32))) fun x19 =>
  dr G 9 p0 fun b20 =>
  ltt ((y5.2 + s7.1)) fun x21 =>
  bnd (FX6_normAt G s7.2 p3 ((0 : Int32)) ((0 : Int32))) fun y22 =>
  chk (¬ (y22.2 < 0 ∨ 18 ≤ y22.2.toNatClampNeg)) <|
  ltt ((sT 12).getD y22.2.toNatClampNeg 0) fun x23 =>
  bnd (FX6_roundingOf G y22.1 p3 ((1 : Int32))) fun y24 =>
  ltt ((((2 : Int32)) * y24.2)) fun x25 =>
  ltt (p3 / ((6 : Int32))) fun x26 =>
  ltt ((((16 : Int32)) + x26)) fun x27 =>
  bnd (FX6_measured G y24.1 x19 x23 x25 x27) fun y28 =>
  dr G 13 ((s7.2.2 b20 9)) fun b29 =>
  chk (¬ (x21 < 0 ∨ G.2.2 b29 ≤ x21.toNatClampNeg)) <|
  ltt (uI y28.1 b29 x21.toNatClampNeg y28.2) fun M30 =>
  ltt (s7.1 + (1 : Int32)) fun x31 =>
  some (.inl (x31, M30)))) : Option ((Int32 × DD) ⊕ (Int32 × DD)))) 1000000 ((0 : Int32), y5.1)) fun (y6 : Int32 × DD) =>
  bnd (if y1.1 ≤ ((0 : Int32)) then (some ((0 : Int32))) else
  (some ((1 : Int32)))) fun (y9 : Int32) =>
  chk (y9 = 0 ∨ y9 = 1) <|
  some (y6.2, y9)
set_option maxHeartbeats 4000000 in
set_option maxRecDepth 100000 in
theorem kX6_measureSixteen (l : Launch) (D : va_G) (ct : CT) (ad : Nat → Nat) (Z : Nat → Nat) (G : GG) (M : DD) (sz : Nat) (a : Nat) (p0 : Option Nat) (p1 : Option Nat) (p2 : Int32) (p3 : Int32) (y : DD × Int32) (hc : a < G.1) (hk : G.2.1 a = 6) (hF : FX6_measureSixteen G M a p0 p1 p2 p3 = some y) : Met l yX6_measureSixteen wuX6_measureSixteen ({ frames := 2, cells := 0, slots := 0, locals := 54 }) (va_Pc [.ref (ad a), va_re ad p0, va_re ad p1, .int p2, .int p3] (kB D ct ad Z G M sz)) (va_Qi (fun (q : Int32) (_ : Unit) => q = y.2) (fun _ t => kE D ct ad G (wA ad G sz) y.1 t) (wA ad G sz)) 0 0 (wA ad G sz) := by
  refine Met.ofW (cc := cX6_measureSixteen) (maxL := 10) (ret := (some .boolean)) (by decide) rfl ?_
  intro p e s m args below meth c s₁ B hml hv
  obtain ⟨rfl, hsz, hP, hK, hD0, hZ, hN⟩ := hv
  have hx := B.exec
  have hb := B.bytes
  have hr := B.returns
  have hts := atoms_spec (ws := wuX6_measureSixteen) B.pre
  have hown : s.vm.findClass RX6 = some m.cls := findClass_of_methodNamed B.named
  have hlocks := B.notSynchronized
  subst hsz
  have hD := wD_self (sz := s.heap.size) hD0
  have hA9 : ∀ q, s.heap.size ≤ q → wA ad G s.heap.size q := fun q h => Or.inr h
  generalize hAe : wA ad G s.heap.size = A at hD hA9 hZ ⊢
  have hS : va_S A s.heap s.heap [] := va_S.rf
  have hl := lv_entry ([.ref (ad a), va_re ad p0, va_re ad p1, .int p2, .int p3]) (n := 10) (by cases p0 <;> cases p1 <;> exact Nat.le_of_ble_eq_true rfl)
  rw [lg_entry_eq]
  generalize (lg_sl ([.ref (ad a), va_re ad p0, va_re ad p1, .int p2, .int p3]) ++ List.replicate (10 - (lg_sl ([.ref (ad a), va_re ad p0, va_re ad p1, .int p2, .int p3])).length) Slot.unset).toArray = ls at hl ⊢
  have hl : lv_has ls 10 [(0, .ref (ad a)), (1, va_re ad p0), (2, va_re ad p1), (3, .int p2), (4, .int p3)] := by have e9 : lv_args 0 [.ref (ad a), va_re ad p0, va_re ad p1, .int p2, .int p3] = [(0, .ref (ad a)), (1, va_re ad p0), (2, va_re ad p1), (3, .int p2), (4, .int p3)] := (by cases p0 <;> cases p1 <;> rfl); rw [e9] at hl; exact hl
  unfold FX6_measureSixteen at hF
  refine lv_iconst (v := (0 : Int32)) hx hb dX6_measureSixteen_0 (by decide) ?_
  refine lv_istore (lv' := [(5, .int (0 : Int32)), (0, .ref (ad a)), (1, va_re ad p0), (2, va_re ad p1), (3, .int p2), (4, .int p3)]) hx hb dX6_measureSixteen_1 hl (by decide) rfl (fun ls hl => ?_)
  refine lv_iconst (v := (0 : Int32)) hx hb dX6_measureSixteen_3 (by decide) ?_
  refine lv_istore (lv' := [(6, .int (0 : Int32)), (5, .int (0 : Int32)), (0, .ref (ad a)), (1, va_re ad p0), (2, va_re ad p1), (3, .int p2), (4, .int p3)]) hx hb dX6_measureSixteen_4 hl (by decide) rfl (fun ls hl => ?_)
  obtain ⟨y1, hy1, hF⟩ := bnd_some hF
  have K1 : ∀ (H : Heap) (locs : List Loc) (ls : Array Slot), va_P D classes (wld ct ad G y1.2.2) H → va_D A (wld ct ad G y1.2.2) → va_S A s.heap H locs → lv_has ls 10 [(6, .int y1.2.1), (5, .int y1.1), (0, .ref (ad a)), (1, va_re ad p0), (2, va_re ad p1), (3, .int p2), (4, .int p3)] → W p l e (headSpec wuX6_measureSixteen ({ frames := 2, cells := 0, slots := 0, locals := 54 })).room s m ([.ref (ad a), va_re ad p0, va_re ad p1, .int p2, .int p3] : List Value).toArray below meth c H locs 0 0 (MQ below (va_Qi (fun (q : Int32) (_ : Unit) => q = y.2) (fun _ t => kE D ct ad G A y.1 t) A) ([.ref (ad a), va_re ad p0, va_re ad p1, .int p2, .int p3] : List Value).toArray s 0 0 A) (F0 m 129 ls []) := by
    intro H locs ls hP hD hS hl
    refine lv_aload_n hx hb dX6_measureSixteen_129 rfl (lv_at hl 2 rfl) ?_
    obtain ⟨y4, hy4, hF⟩ := bnd_some hF
    have hf9 := wA_in hD hA9 hS
    refine va_callv (va_runV (As := []) (rest := []) ⟨hx, hb, hml, hown, hts⟩ (kX6_turnEven l D ct ad Z G y1.2.2 H.size a y4 hc hk hy4) (cwV 0 hts gX6_measureSixteen_X6_turnEven rfl rfl rfl (by decide +kernel) ⟨Nat.le_of_ble_eq_true rfl, Nat.le_of_ble_eq_true rfl⟩) ⟨fun a U g mk q => by obtain ⟨q0, q1, qP, qK, qD, qZ, qN⟩ := q; exact ⟨q0, q1, qP, va_K.moved (u := U) (U := U.calling g mk a) (Vm.Alike.refl U.vm) qK, qD, sF.moved (u := U) (U := U.calling g mk a) (Vm.Alike.refl U.vm) qZ, nF.same rfl qN⟩, va_recv hK hP (ci := 6) (q0 := a) rfl (wld_o ct ad G y1.2.2 hc hk (by decide)), fun U hU hW => ⟨rfl, by rw [hU], by rw [hU]; exact hP, va_K.moved hW.alike hK, hD.weaken (fun _ _ _ _ => trivial), by rw [hU]; exact ((hZ.kept hS.2.1).narrow hf9).moved hW.alike, hN.warm hW⟩⟩ rfl rfl hl.1 rfl (lv_room (Nat.le_of_ble_eq_true rfl)) dX6_measureSixteen_130 ⟨(Nat.zero_le _), (Nat.zero_le _)⟩) hS (fun q _ h => hf9 q h) hf9 (fun u t H locs ht hvm hw hB hz1 hk1 hS => ?_)
    obtain ⟨hP, hK9, hD9⟩ := hB
    rw [ht] at hP
    have hD := hD9.weaken (fun _ q _ h => hf9 q.1 h)
    refine lv_iload_n hx hb dX6_measureSixteen_133 rfl (lv_at hl 5 rfl) ?_
    refine lv_bipush (v := (16 : Int32)) hx hb dX6_measureSixteen_134 (by decide) ?_
    obtain ⟨y5, hy5, hF⟩ := bnd_some hF
    have hf9 := wA_in hD hA9 hS
    refine va_calli (va_runS (As := [.int p2, .int (16 : Int32)]) (rest := []) ⟨hx, hb, hml, hown, hts⟩ (kX9_levelAt l D ct ad Z G y4 H.size p2 ((16 : Int32)) y5 hy5) (va_cwS 2 hts gX6_measureSixteen_X9_levelAt rfl rfl rfl (by decide +kernel) ⟨Nat.le_of_ble_eq_true rfl, Nat.le_of_ble_eq_true rfl⟩) ⟨fun a U g mk q => by obtain ⟨q0, q1, qP, qK, qD, qZ, qN⟩ := q; exact ⟨q0, q1, qP, va_K.moved (u := U) (U := U.calling g mk a) (Vm.Alike.refl U.vm) qK, qD, sF.moved (u := U) (U := U.calling g mk a) (Vm.Alike.refl U.vm) qZ, nF.same rfl qN⟩, fun U hU hW => ⟨rfl, by rw [hU], by rw [hU]; exact hP, va_K.moved hW.alike hK, hD.weaken (fun _ _ _ _ => trivial), by rw [hU]; exact ((hZ.kept hS.2.1).narrow hf9).moved hW.alike, hN.warm hW⟩⟩ rfl rfl hl.1 rfl (lv_room (Nat.le_of_ble_eq_true rfl)) dX6_measureSixteen_136 ⟨(Nat.zero_le _), (Nat.zero_le _)⟩) hS (fun q _ h => hf9 q h) hf9 (fun r u t H locs ht hvm hw hB hz1 hk1 hS => ?_)
    obtain ⟨hP, hK9, hD9⟩ := hB
    rw [ht] at hP
    try dsimp only at hw
    subst hw
    have hD := hD9.weaken (fun _ q _ h => hf9 q.1 h)
    refine lv_istore (lv' := [(6, .int y5.2), (5, .int y1.1), (0, .ref (ad a)), (1, va_re ad p0), (2, va_re ad p1), (3, .int p2), (4, .int p3)]) hx hb dX6_measureSixteen_139 hl (by decide) rfl (fun ls hl => ?_)
    refine lv_iconst (v := (0 : Int32)) hx hb dX6_measureSixteen_141 (by decide) ?_
    refine lv_istore (lv' := [(7, .int (0 : Int32)), (6, .int y5.2), (5, .int y1.1), (0, .ref (ad a)), (1, va_re ad p0), (2, va_re ad p1), (3, .int p2), (4, .int p3)]) hx hb dX6_measureSixteen_142 hl (by decide) rfl (fun ls hl => ?_)
    obtain ⟨y6, hy6, hF⟩ := bnd_some hF
    have K6 : ∀ (H : Heap) (locs : List Loc) (ls : Array Slot), va_P D classes (wld ct ad G y6.2) H → va_D A (wld ct ad G y6.2) → va_S A s.heap H locs → lv_has ls 10 [(7, .int y6.1), (6, .int y5.2), (5, .int y1.1), (0, .ref (ad a)), (1, va_re ad p0), (2, va_re ad p1), (3, .int p2), (4, .int p3)] → W p l e (headSpec wuX6_measureSixteen ({ frames := 2, cells := 0, slots := 0, locals := 54 })).room s m ([.ref (ad a), va_re ad p0, va_re ad p1, .int p2, .int p3] : List Value).toArray below meth c H locs 0 0 (MQ below (va_Qi (fun (q : Int32) (_ : Unit) => q = y.2) (fun _ t => kE D ct ad G A y.1 t) A) ([.ref (ad a), va_re ad p0, va_re ad p1, .int p2, .int p3] : List Value).toArray s 0 0 A) (F0 m 223 ls []) := by
      intro H locs ls hP hD hS hl
      refine lv_iload hx hb dX6_measureSixteen_223 (lv_at hl 2 rfl) ?_
      obtain ⟨y9, hy9, hF⟩ := bnd_some hF
      have J9 : ∀ (H : Heap) (locs : List Loc) (ls : Array Slot), va_P D classes (wld ct ad G y6.2) H → va_D A (wld ct ad G y6.2) → va_S A s.heap H locs → lv_has ls 10 [(7, .int y6.1), (6, .int y5.2), (5, .int y1.1), (0, .ref (ad a)), (1, va_re ad p0), (2, va_re ad p1), (3, .int p2), (4, .int p3)] → W p l e (headSpec wuX6_measureSixteen ({ frames := 2, cells := 0, slots := 0, locals := 54 })).room s m ([.ref (ad a), va_re ad p0, va_re ad p1, .int p2, .int p3] : List Value).toArray below meth c H locs 0 0 (MQ below (va_Qi (fun (q : Int32) (_ : Unit) => q = y.2) (fun _ t => kE D ct ad G A y.1 t) A) ([.ref (ad a), va_re ad p0, va_re ad p1, .int p2, .int p3] : List Value).toArray s 0 0 A) (F0 m 233 ls [.int y9]) := by
        intro H locs ls hP hD hS hl
        obtain ⟨hz9, hF⟩ := chk_some hF
        obtain rfl := Option.some.inj hF
        exact W.zret (v := y9) (ty := .boolean) hx hb hr (nar_z hz9).1 (fun t ht hW => ⟨⟨_, (), rfl, rfl, ⟨by rw [ht]; exact hP, va_K.moved hW.alike hK, hD⟩⟩, hS.F ht⟩) hS.2.2 dX6_measureSixteen_233
      clear hF
      have hF := hy9
      clear hy9
      refine lv_if_le (tgt := 232) hx hb dX6_measureSixteen_225 (by decide) (fun c10 => ?_) (fun c10 => ?_)
      · rw [if_pos c10] at hF
        refine lv_iconst (v := (0 : Int32)) hx hb dX6_measureSixteen_232 (by decide) ?_
        obtain rfl := Option.some.inj hF
        exact J9 _ _ _ hP hD hS (lv_sub hl [0, 1, 2, 3, 4, 5, 6, 7] rfl)
      · rw [if_neg c10] at hF
        refine lv_iconst (v := (1 : Int32)) hx hb dX6_measureSixteen_228 (by decide) ?_
        refine lv_goto (tgt := 233) hx hb dX6_measureSixteen_229 (by decide) ?_
        obtain rfl := Option.some.inj hF
        exact J9 _ _ _ hP hD hS (lv_sub hl [0, 1, 2, 3, 4, 5, 6, 7] rfl)
    clear hF
    refine itr_rule (fun (s7 : Int32 × DD) => ∀ (H : Heap) (locs : List Loc) (ls : Array Slot), va_P D classes (wld ct ad G s7.2) H → va_D A (wld ct ad G s7.2) → va_S A s.heap H locs → lv_has ls 10 [(7, .int s7.1), (6, .int y5.2), (5, .int y1.1), (0, .ref (ad a)), (1, va_re ad p0), (2, va_re ad p1), (3, .int p2), (4, .int p3)] → W p l e (headSpec wuX6_measureSixteen ({ frames := 2, cells := 0, slots := 0, locals := 54 })).room s m ([.ref (ad a), va_re ad p0, va_re ad p1, .int p2, .int p3] : List Value).toArray below meth c H locs 0 0 (MQ below (va_Qi (fun (q : Int32) (_ : Unit) => q = y.2) (fun _ t => kE D ct ad G A y.1 t) A) ([.ref (ad a), va_re ad p0, va_re ad p1, .int p2, .int p3] : List Value).toArray s 0 0 A) (F0 m 144 ls [])) ?_ _ _ hy6 _ _ _ hP hD hS (lv_sub hl [0, 1, 2, 3, 4, 5, 6, 7] rfl)
    rintro s7 ⟨z11, hF, hwz11⟩ H locs ls hP hD hS hl
    try dsimp only at hF
    refine lv_iload hx hb dX6_measureSixteen_144 (lv_at hl 0 rfl) ?_
    refine lv_bipush (v := (16 : Int32)) hx hb dX6_measureSixteen_146 (by decide) ?_
    refine lv_icmp_ge (tgt := 223) hx hb dX6_measureSixteen_148 (by decide) (fun c12 => ?_) (fun c12 => ?_)
    · rw [if_pos c12] at hF
      obtain rfl := Option.some.inj hF
      subst hwz11
      exact K6 _ _ _ hP hD hS (lv_sub hl [0, 1, 2, 3, 4, 5, 6, 7] rfl)
    · rw [if_neg c12] at hF
      refine lv_aload_n hx hb dX6_measureSixteen_151 rfl (lv_at hl 3 rfl) ?_
      refine va_get (D := D) (ci := 6) (v := va_re ad (s7.2.2 a 7)) (C := RX6) (T := TX6) (N := 14) hx hb hts (mus hf_X6) hown hK hP a (wld_o ct ad G s7.2 hc hk (by decide)) rfl 7 (by decide) (hts (.fieldLink RX6 33 "VideoSuite$Samples" "even" "[I") (mu mw_543)) (fun _ h9 => h9) rfl dX6_measureSixteen_152 ?_
      refine lv_iconst (v := (4 : Int32)) hx hb dX6_measureSixteen_155 (by decide) ?_
      refine va_gets hx hb (hZ.1 15 (by decide)).1 hS hown (hts (.fieldLink RX6 221 "VideoSuite$Samples" "SCAN_Y" "[I") (mu mw_2081)) (fun _ h => h) dX6_measureSixteen_156 ?_
      refine lv_iload hx hb dX6_measureSixteen_159 (lv_at hl 0 rfl) ?_
      obtain ⟨hvc, hF⟩ := chk_some hF
      refine va_ti (v := .int ((sT 15).getD s7.1.toNatClampNeg 0)) hx hb (hZ.1 15 (by decide)).2 hS hvc rfl dX6_measureSixteen_161 ?_
      obtain ⟨x13, ex13, hF⟩ := ltt_some hF
      refine lv_topi (fun zx13 ezx13 => ?_)
      obtain rfl : x13 = zx13 := ex13.trans ezx13.symm
      refine lv_imul hx hb dX6_measureSixteen_162 ?_
      obtain ⟨x14, ex14, hF⟩ := ltt_some hF
      refine lv_topi (fun zx14 ezx14 => ?_)
      obtain rfl : x14 = zx14 := ex14.trans ezx14.symm
      refine va_gets hx hb (hZ.1 14 (by decide)).1 hS hown (hts (.fieldLink RX6 218 "VideoSuite$Samples" "SCAN_X" "[I") (mu mw_2083)) (fun _ h => h) dX6_measureSixteen_163 ?_
      refine lv_iload hx hb dX6_measureSixteen_166 (lv_at hl 0 rfl) ?_
      obtain ⟨hvc, hF⟩ := chk_some hF
      refine va_ti (v := .int ((sT 14).getD s7.1.toNatClampNeg 0)) hx hb (hZ.1 14 (by decide)).2 hS hvc rfl dX6_measureSixteen_168 ?_
      obtain ⟨x15, ex15, hF⟩ := ltt_some hF
      refine lv_topi (fun zx15 ezx15 => ?_)
      obtain rfl : x15 = zx15 := ex15.trans ezx15.symm
      refine lv_iadd hx hb dX6_measureSixteen_169 ?_
      obtain ⟨x16, ex16, hF⟩ := ltt_some hF
      refine lv_topi (fun zx16 ezx16 => ?_)
      obtain rfl : x16 = zx16 := ex16.trans ezx16.symm
      obtain ⟨b17, ho17, hc17, hk17, hF⟩ := dr_some hF
      refine W_st (st' := [.int x16, .ref (ad b17)]) (by rw [va_some ho17]) ?_
      obtain ⟨hvc, hF⟩ := chk_some hF
      refine va_iald hx hb hK hP b17 1 (wld_i ct ad G s7.2 hc17 hk17) rfl hvc dX6_measureSixteen_170 ?_
      obtain ⟨x18, ex18, hF⟩ := ltt_some hF
      refine lv_topi (fun zx18 ezx18 => ?_)
      obtain rfl : x18 = zx18 := ex18.trans ezx18.symm
      refine lv_iconst (v := (2 : Int32)) hx hb dX6_measureSixteen_171 (by decide) ?_
      refine lv_idiv hx hb dX6_measureSixteen_172 (by decide) ?_
      obtain ⟨x19, ex19, hF⟩ := ltt_some hF
      refine lv_topi (fun zx19 ezx19 => ?_)
      obtain rfl : x19 = zx19 := ex19.trans ezx19.symm
      refine lv_istore (lv' := [(8, .int x19), (7, .int s7.1), (6, .int y5.2), (5, .int y1.1), (0, .ref (ad a)), (1, va_re ad p0), (2, va_re ad p1), (3, .int p2), (4, .int p3)]) hx hb dX6_measureSixteen_173 hl (by decide) rfl (fun ls hl => ?_)
      refine lv_aloadq_n hx hb dX6_measureSixteen_175 rfl (lv_at hl 5 rfl) ?_
      obtain ⟨b20, ho20, hc20, hk20, hF⟩ := dr_some hF
      refine W_st (st' := [.ref (ad b20)]) (by rw [va_some ho20]) ?_
      refine va_get (D := D) (ci := 9) (v := va_re ad (s7.2.2 b20 9)) (C := RX9) (T := TX9) (N := 20) hx hb hts (mus hf_X9) hown hK hP b20 (wld_o ct ad G s7.2 hc20 hk20 (by decide)) rfl 9 (by decide) (hts (.fieldLink RX6 234 "VideoSuite$Work" "level" "[I") (mu mw_456)) (fun _ h9 => h9) rfl dX6_measureSixteen_176 ?_
      refine lv_iload hx hb dX6_measureSixteen_179 (lv_at hl 2 rfl) ?_
      refine lv_iload hx hb dX6_measureSixteen_181 (lv_at hl 1 rfl) ?_
      refine lv_iadd hx hb dX6_measureSixteen_183 ?_
      obtain ⟨x21, ex21, hF⟩ := ltt_some hF
      refine lv_topi (fun zx21 ezx21 => ?_)
      obtain rfl : x21 = zx21 := ex21.trans ezx21.symm
      refine lv_iload hx hb dX6_measureSixteen_184 (lv_at hl 0 rfl) ?_
      refine va_gets hx hb (hZ.1 12 (by decide)).1 hS hown (hts (.fieldLink RX6 259 "VideoSuite$Samples" "MEASURE" "[I") (mu mw_2593)) (fun _ h => h) dX6_measureSixteen_186 ?_
      refine lv_iload hx hb dX6_measureSixteen_189 (lv_at hl 8 rfl) ?_
      refine lv_iconst (v := (0 : Int32)) hx hb dX6_measureSixteen_191 (by decide) ?_
      refine lv_iconst (v := (0 : Int32)) hx hb dX6_measureSixteen_192 (by decide) ?_
      obtain ⟨y22, hy22, hF⟩ := bnd_some hF
      have hf9 := wA_in hD hA9 hS
      refine va_calli (va_runS (As := [.int p3, .int (0 : Int32), .int (0 : Int32)]) (rest := [.ref (Z 12), .int x19, .int x21, va_re ad (s7.2.2 b20 9)]) ⟨hx, hb, hml, hown, hts⟩ (kX6_normAt l D ct ad Z G s7.2 H.size p3 ((0 : Int32)) ((0 : Int32)) y22 hy22) (va_cwS 3 hts gX6_measureSixteen_X6_normAt rfl rfl rfl (by decide +kernel) ⟨Nat.le_of_ble_eq_true rfl, Nat.le_of_ble_eq_true rfl⟩) ⟨fun a U g mk q => by obtain ⟨q0, q1, qP, qK, qD, qZ, qN⟩ := q; exact ⟨q0, q1, qP, va_K.moved (u := U) (U := U.calling g mk a) (Vm.Alike.refl U.vm) qK, qD, sF.moved (u := U) (U := U.calling g mk a) (Vm.Alike.refl U.vm) qZ, nF.same rfl qN⟩, fun U hU hW => ⟨rfl, by rw [hU], by rw [hU]; exact hP, va_K.moved hW.alike hK, hD.weaken (fun _ _ _ _ => trivial), by rw [hU]; exact ((hZ.kept hS.2.1).narrow hf9).moved hW.alike, hN.warm hW⟩⟩ rfl rfl hl.1 rfl (lv_room (by simp only [List.map, va_re_cat]; exact Nat.le_of_ble_eq_true rfl)) dX6_measureSixteen_193 ⟨(Nat.zero_le _), (Nat.zero_le _)⟩) hS (fun q _ h => hf9 q h) hf9 (fun r u t H locs ht hvm hw hB hz1 hk1 hS => ?_)
      obtain ⟨hP, hK9, hD9⟩ := hB
      rw [ht] at hP
      try dsimp only at hw
      subst hw
      have hD := hD9.weaken (fun _ q _ h => hf9 q.1 h)
      obtain ⟨hvc, hF⟩ := chk_some hF
      refine va_ti (v := .int ((sT 12).getD y22.2.toNatClampNeg 0)) hx hb (hZ.1 12 (by decide)).2 hS hvc rfl dX6_measureSixteen_196 ?_
      obtain ⟨x23, ex23, hF⟩ := ltt_some hF
      refine lv_topi (fun zx23 ezx23 => ?_)
      obtain rfl : x23 = zx23 := ex23.trans ezx23.symm
      refine lv_iconst (v := (2 : Int32)) hx hb dX6_measureSixteen_197 (by decide) ?_
      refine lv_iload hx hb dX6_measureSixteen_198 (lv_at hl 8 rfl) ?_
      refine lv_iconst (v := (1 : Int32)) hx hb dX6_measureSixteen_200 (by decide) ?_
      obtain ⟨y24, hy24, hF⟩ := bnd_some hF
      have hf9 := wA_in hD hA9 hS
      refine va_calli (va_runS (As := [.int p3, .int (1 : Int32)]) (rest := [.int (2 : Int32), .int x23, .int x19, .int x21, va_re ad (s7.2.2 b20 9)]) ⟨hx, hb, hml, hown, hts⟩ (kX6_roundingOf l D ct ad Z G y22.1 H.size p3 ((1 : Int32)) y24 hy24) (va_cwS 2 hts gX6_measureSixteen_X6_roundingOf rfl rfl rfl (by decide +kernel) ⟨Nat.le_of_ble_eq_true rfl, Nat.le_of_ble_eq_true rfl⟩) ⟨fun a U g mk q => by obtain ⟨q0, q1, qP, qK, qD, qZ, qN⟩ := q; exact ⟨q0, q1, qP, va_K.moved (u := U) (U := U.calling g mk a) (Vm.Alike.refl U.vm) qK, qD, sF.moved (u := U) (U := U.calling g mk a) (Vm.Alike.refl U.vm) qZ, nF.same rfl qN⟩, fun U hU hW => ⟨rfl, by rw [hU], by rw [hU]; exact hP, va_K.moved hW.alike hK, hD.weaken (fun _ _ _ _ => trivial), by rw [hU]; exact ((hZ.kept hS.2.1).narrow hf9).moved hW.alike, hN.warm hW⟩⟩ rfl rfl hl.1 rfl (lv_room (by simp only [List.map, va_re_cat]; exact Nat.le_of_ble_eq_true rfl)) dX6_measureSixteen_201 ⟨(Nat.zero_le _), (Nat.zero_le _)⟩) hS (fun q _ h => hf9 q h) hf9 (fun r u t H locs ht hvm hw hB hz1 hk1 hS => ?_)
      obtain ⟨hP, hK9, hD9⟩ := hB
      rw [ht] at hP
      try dsimp only at hw
      subst hw
      have hD := hD9.weaken (fun _ q _ h => hf9 q.1 h)
      refine lv_imul hx hb dX6_measureSixteen_204 ?_
      obtain ⟨x25, ex25, hF⟩ := ltt_some hF
      refine lv_topi (fun zx25 ezx25 => ?_)
      obtain rfl : x25 = zx25 := ex25.trans ezx25.symm
      refine lv_bipush (v := (16 : Int32)) hx hb dX6_measureSixteen_205 (by decide) ?_
      refine lv_iload hx hb dX6_measureSixteen_207 (lv_at hl 8 rfl) ?_
      refine lv_bipush (v := (6 : Int32)) hx hb dX6_measureSixteen_209 (by decide) ?_
      refine lv_idiv hx hb dX6_measureSixteen_211 (by decide) ?_
      obtain ⟨x26, ex26, hF⟩ := ltt_some hF
      refine lv_topi (fun zx26 ezx26 => ?_)
      obtain rfl : x26 = zx26 := ex26.trans ezx26.symm
      refine lv_iadd hx hb dX6_measureSixteen_212 ?_
      obtain ⟨x27, ex27, hF⟩ := ltt_some hF
      refine lv_topi (fun zx27 ezx27 => ?_)
      obtain rfl : x27 = zx27 := ex27.trans ezx27.symm
      obtain ⟨y28, hy28, hF⟩ := bnd_some hF
      have hf9 := wA_in hD hA9 hS
      refine va_calli (va_runS (As := [.int x19, .int x23, .int x25, .int x27]) (rest := [.int x21, va_re ad (s7.2.2 b20 9)]) ⟨hx, hb, hml, hown, hts⟩ (kX6_measured l D ct ad Z G y24.1 H.size x19 x23 x25 x27 y28 hy28) (va_cwS 4 hts gX6_measureSixteen_X6_measured rfl rfl rfl (by decide +kernel) ⟨Nat.le_of_ble_eq_true rfl, Nat.le_of_ble_eq_true rfl⟩) ⟨fun a U g mk q => by obtain ⟨q0, q1, qP, qK, qD, qZ, qN⟩ := q; exact ⟨q0, q1, qP, va_K.moved (u := U) (U := U.calling g mk a) (Vm.Alike.refl U.vm) qK, qD, sF.moved (u := U) (U := U.calling g mk a) (Vm.Alike.refl U.vm) qZ, nF.same rfl qN⟩, fun U hU hW => ⟨rfl, by rw [hU], by rw [hU]; exact hP, va_K.moved hW.alike hK, hD.weaken (fun _ _ _ _ => trivial), by rw [hU]; exact ((hZ.kept hS.2.1).narrow hf9).moved hW.alike, hN.warm hW⟩⟩ rfl rfl hl.1 rfl (lv_room (by simp only [List.map, va_re_cat]; exact Nat.le_of_ble_eq_true rfl)) dX6_measureSixteen_213 ⟨(Nat.zero_le _), (Nat.zero_le _)⟩) hS (fun q _ h => hf9 q h) hf9 (fun r u t H locs ht hvm hw hB hz1 hk1 hS => ?_)
      obtain ⟨hP, hK9, hD9⟩ := hB
      rw [ht] at hP
      try dsimp only at hw
      subst hw
      have hD := hD9.weaken (fun _ q _ h => hf9 q.1 h)
      obtain ⟨b29, ho29, hc29, hk29, hF⟩ := dr_some hF
      refine W_st (st' := [.int y28.2, .int x21, .ref (ad b29)]) (by rw [va_some ho29]) ?_
      obtain ⟨hvc, hF⟩ := chk_some hF
      refine va_iast hx hb hK hP hD hS b29 1 (wld_i ct ad G y28.1 hc29 hk29) rfl hvc dX6_measureSixteen_216 (fun H locs hP hD hS => ?_)
      obtain ⟨M30, eM30, hF⟩ := ltt_some hF
      rw [set_i ct ad G y28.1 hc29 hk29, ← eM30] at hP hD
      obtain ⟨x31, ex31, hF⟩ := ltt_some hF
      refine lv_iinc (v := x31) (lv' := [(7, .int x31), (8, .int x19), (6, .int y5.2), (5, .int y1.1), (0, .ref (ad a)), (1, va_re ad p0), (2, va_re ad p1), (3, .int p2), (4, .int p3)]) hx hb dX6_measureSixteen_217 hl (k := 1) rfl (by rw [ex31]; rfl) (by decide) rfl (fun ls hl => ?_)
      refine lv_goto (tgt := 144) hx hb dX6_measureSixteen_220 (by decide) ?_
      obtain rfl := Option.some.inj hF
      exact hwz11 _ _ _ hP hD hS (lv_sub hl [0, 2, 3, 4, 5, 6, 7, 8] rfl)
  clear hF
  refine itr_rule (fun (s2 : Int32 × Int32 × DD) => ∀ (H : Heap) (locs : List Loc) (ls : Array Slot), va_P D classes (wld ct ad G s2.2.2) H → va_D A (wld ct ad G s2.2.2) → va_S A s.heap H locs → lv_has ls 10 [(6, .int s2.2.1), (5, .int s2.1), (0, .ref (ad a)), (1, va_re ad p0), (2, va_re ad p1), (3, .int p2), (4, .int p3)] → W p l e (headSpec wuX6_measureSixteen ({ frames := 2, cells := 0, slots := 0, locals := 54 })).room s m ([.ref (ad a), va_re ad p0, va_re ad p1, .int p2, .int p3] : List Value).toArray below meth c H locs 0 0 (MQ below (va_Qi (fun (q : Int32) (_ : Unit) => q = y.2) (fun _ t => kE D ct ad G A y.1 t) A) ([.ref (ad a), va_re ad p0, va_re ad p1, .int p2, .int p3] : List Value).toArray s 0 0 A) (F0 m 6 ls [])) ?_ _ _ hy1 _ _ _ hP hD hS (lv_sub hl [0, 1, 2, 3, 4, 5, 6] rfl)
  rintro s2 ⟨z32, hF, hwz32⟩ H locs ls hP hD hS hl
  try dsimp only at hF
  refine lv_iload hx hb dX6_measureSixteen_6 (lv_at hl 0 rfl) ?_
  refine lv_bipush (v := (16 : Int32)) hx hb dX6_measureSixteen_8 (by decide) ?_
  refine lv_icmp_ge (tgt := 129) hx hb dX6_measureSixteen_10 (by decide) (fun c33 => ?_) (fun c33 => ?_)
  · rw [if_pos c33] at hF
    obtain rfl := Option.some.inj hF
    subst hwz32
    exact K1 _ _ _ hP hD hS (lv_sub hl [0, 1, 2, 3, 4, 5, 6] rfl)
  · rw [if_neg c33] at hF
    refine lv_iload hx hb dX6_measureSixteen_13 (lv_at hl 0 rfl) ?_
    obtain ⟨y34, hy34, hF⟩ := bnd_some hF
    have hf9 := wA_in hD hA9 hS
    refine va_calli (va_runS (As := [.int s2.2.1]) (rest := []) ⟨hx, hb, hml, hown, hts⟩ (kX9_pieceX l D ct ad Z G s2.2.2 H.size s2.2.1 y34 hy34) (va_cwS 1 hts gX6_measureSixteen_X9_pieceX rfl rfl rfl (by decide +kernel) ⟨Nat.le_of_ble_eq_true rfl, Nat.le_of_ble_eq_true rfl⟩) ⟨fun a U g mk q => by obtain ⟨q0, q1, qP, qK, qD, qZ, qN⟩ := q; exact ⟨q0, q1, qP, va_K.moved (u := U) (U := U.calling g mk a) (Vm.Alike.refl U.vm) qK, qD, sF.moved (u := U) (U := U.calling g mk a) (Vm.Alike.refl U.vm) qZ, nF.same rfl qN⟩, fun U hU hW => ⟨rfl, by rw [hU], by rw [hU]; exact hP, va_K.moved hW.alike hK, hD.weaken (fun _ _ _ _ => trivial), by rw [hU]; exact ((hZ.kept hS.2.1).narrow hf9).moved hW.alike, hN.warm hW⟩⟩ rfl rfl hl.1 rfl (lv_room (Nat.le_of_ble_eq_true rfl)) dX6_measureSixteen_15 ⟨(Nat.zero_le _), (Nat.zero_le _)⟩) hS (fun q _ h => hf9 q h) hf9 (fun r u t H locs ht hvm hw hB hz1 hk1 hS => ?_)
    obtain ⟨hP, hK9, hD9⟩ := hB
    rw [ht] at hP
    try dsimp only at hw
    subst hw
    have hD := hD9.weaken (fun _ q _ h => hf9 q.1 h)
    refine lv_istore (lv' := [(7, .int y34.2), (6, .int s2.2.1), (5, .int s2.1), (0, .ref (ad a)), (1, va_re ad p0), (2, va_re ad p1), (3, .int p2), (4, .int p3)]) hx hb dX6_measureSixteen_18 hl (by decide) rfl (fun ls hl => ?_)
    refine lv_iload hx hb dX6_measureSixteen_20 (lv_at hl 1 rfl) ?_
    obtain ⟨y35, hy35, hF⟩ := bnd_some hF
    have hf9 := wA_in hD hA9 hS
    refine va_calli (va_runS (As := [.int s2.2.1]) (rest := []) ⟨hx, hb, hml, hown, hts⟩ (kX9_pieceY l D ct ad Z G y34.1 H.size s2.2.1 y35 hy35) (va_cwS 1 hts gX6_measureSixteen_X9_pieceY rfl rfl rfl (by decide +kernel) ⟨Nat.le_of_ble_eq_true rfl, Nat.le_of_ble_eq_true rfl⟩) ⟨fun a U g mk q => by obtain ⟨q0, q1, qP, qK, qD, qZ, qN⟩ := q; exact ⟨q0, q1, qP, va_K.moved (u := U) (U := U.calling g mk a) (Vm.Alike.refl U.vm) qK, qD, sF.moved (u := U) (U := U.calling g mk a) (Vm.Alike.refl U.vm) qZ, nF.same rfl qN⟩, fun U hU hW => ⟨rfl, by rw [hU], by rw [hU]; exact hP, va_K.moved hW.alike hK, hD.weaken (fun _ _ _ _ => trivial), by rw [hU]; exact ((hZ.kept hS.2.1).narrow hf9).moved hW.alike, hN.warm hW⟩⟩ rfl rfl hl.1 rfl (lv_room (Nat.le_of_ble_eq_true rfl)) dX6_measureSixteen_22 ⟨(Nat.zero_le _), (Nat.zero_le _)⟩) hS (fun q _ h => hf9 q h) hf9 (fun r u t H locs ht hvm hw hB hz1 hk1 hS => ?_)
    obtain ⟨hP, hK9, hD9⟩ := hB
    rw [ht] at hP
    try dsimp only at hw
    subst hw
    have hD := hD9.weaken (fun _ q _ h => hf9 q.1 h)
    refine lv_istore (lv' := [(8, .int y35.2), (7, .int y34.2), (6, .int s2.2.1), (5, .int s2.1), (0, .ref (ad a)), (1, va_re ad p0), (2, va_re ad p1), (3, .int p2), (4, .int p3)]) hx hb dX6_measureSixteen_25 hl (by decide) rfl (fun ls hl => ?_)
    refine lv_aload_n hx hb dX6_measureSixteen_27 rfl (lv_at hl 4 rfl) ?_
    refine lv_aloadq_n hx hb dX6_measureSixteen_28 rfl (lv_at hl 6 rfl) ?_
    refine lv_aloadq_n hx hb dX6_measureSixteen_29 rfl (lv_at hl 5 rfl) ?_
    obtain ⟨b36, ho36, hc36, hk36, hF⟩ := dr_some hF
    refine W_st (st' := [.ref (ad b36), va_re ad p1, .ref (ad a)]) (by rw [va_some ho36]) ?_
    refine va_get (D := D) (ci := 9) (v := va_re ad (y35.1.2 b36 0)) (C := RX9) (T := TX9) (N := 20) hx hb hts (mus hf_X9) hown hK hP b36 (wld_o ct ad G y35.1 hc36 hk36 (by decide)) rfl 0 (by decide) (hts (.fieldLink RX6 46 "VideoSuite$Work" "pic" "LVideoSuite$Picture;") (mu mw_421)) (fun _ h9 => h9) rfl dX6_measureSixteen_30 ?_
    refine lv_iload_n hx hb dX6_measureSixteen_33 rfl (lv_at hl 7 rfl) ?_
    refine lv_iload hx hb dX6_measureSixteen_34 (lv_at hl 1 rfl) ?_
    refine lv_iload hx hb dX6_measureSixteen_36 (lv_at hl 0 rfl) ?_
    obtain ⟨y37, hy37, hF⟩ := bnd_some hF
    have hf9 := wA_in hD hA9 hS
    refine va_calli (va_runS (As := [va_re ad (y35.1.2 b36 0), .int p2, .int y34.2, .int y35.2]) (rest := [va_re ad p1, .ref (ad a)]) ⟨hx, hb, hml, hown, hts⟩ (kX6_lumaAt l D ct ad Z G y35.1 H.size ((y35.1.2 b36 0)) p2 y34.2 y35.2 y37 hy37) (va_cwS 4 hts gX6_measureSixteen_X6_lumaAt rfl rfl rfl (by decide +kernel) ⟨Nat.le_of_ble_eq_true rfl, Nat.le_of_ble_eq_true rfl⟩) ⟨fun a U g mk q => by obtain ⟨q0, q1, qP, qK, qD, qZ, qN⟩ := q; exact ⟨q0, q1, qP, va_K.moved (u := U) (U := U.calling g mk a) (Vm.Alike.refl U.vm) qK, qD, sF.moved (u := U) (U := U.calling g mk a) (Vm.Alike.refl U.vm) qZ, nF.same rfl qN⟩, fun U hU hW => ⟨rfl, by rw [hU], by rw [hU]; exact hP, va_K.moved hW.alike hK, hD.weaken (fun _ _ _ _ => trivial), by rw [hU]; exact ((hZ.kept hS.2.1).narrow hf9).moved hW.alike, hN.warm hW⟩⟩ rfl rfl hl.1 rfl (lv_room (by simp only [List.map, va_re_cat]; exact Nat.le_of_ble_eq_true rfl)) dX6_measureSixteen_38 ⟨(Nat.zero_le _), (Nat.zero_le _)⟩) hS (fun q _ h => hf9 q h) hf9 (fun r u t H locs ht hvm hw hB hz1 hk1 hS => ?_)
    obtain ⟨hP, hK9, hD9⟩ := hB
    rw [ht] at hP
    try dsimp only at hw
    subst hw
    have hD := hD9.weaken (fun _ q _ h => hf9 q.1 h)
    refine lv_bipush (v := (16 : Int32)) hx hb dX6_measureSixteen_41 (by decide) ?_
    refine lv_aloadq_n hx hb dX6_measureSixteen_43 rfl (lv_at hl 5 rfl) ?_
    refine W_st (st' := [.ref (ad b36), .int (16 : Int32), .int y37.2, va_re ad p1, .ref (ad a)]) (by rw [va_some ho36]) ?_
    refine va_get (D := D) (ci := 9) (v := va_re ad (y37.1.2 b36 0)) (C := RX9) (T := TX9) (N := 20) hx hb hts (mus hf_X9) hown hK hP b36 (wld_o ct ad G y37.1 hc36 hk36 (by decide)) rfl 0 (by decide) (hts (.fieldLink RX6 46 "VideoSuite$Work" "pic" "LVideoSuite$Picture;") (mu mw_421)) (fun _ h9 => h9) rfl dX6_measureSixteen_44 ?_
    obtain ⟨b38, ho38, hc38, hk38, hF⟩ := dr_some hF
    refine W_st (st' := [.ref (ad b38), .int (16 : Int32), .int y37.2, va_re ad p1, .ref (ad a)]) (by rw [va_some ho38]) ?_
    refine va_get (D := D) (ci := 4) (v := .int (y37.1.1 b38 1)) (C := RX4) (T := TX4) (N := 18) hx hb hts (mus hf_X4) hown hK hP b38 (wld_o ct ad G y37.1 hc38 hk38 (by decide)) rfl 1 (by decide) (hts (.fieldLink RX6 83 "VideoSuite$Picture" "width" "I") (mu mw_1422)) (fun _ h9 => h9) rfl dX6_measureSixteen_47 ?_
    obtain ⟨x39, ex39, hF⟩ := ltt_some hF
    refine lv_topi (fun zx39 ezx39 => ?_)
    obtain rfl : x39 = zx39 := ex39.trans ezx39.symm
    refine lv_imul hx hb dX6_measureSixteen_50 ?_
    obtain ⟨x40, ex40, hF⟩ := ltt_some hF
    refine lv_topi (fun zx40 ezx40 => ?_)
    obtain rfl : x40 = zx40 := ex40.trans ezx40.symm
    refine lv_bipush (v := (16 : Int32)) hx hb dX6_measureSixteen_51 (by decide) ?_
    refine lv_iload hx hb dX6_measureSixteen_53 (lv_at hl 0 rfl) ?_
    refine lv_imul hx hb dX6_measureSixteen_55 ?_
    obtain ⟨x41, ex41, hF⟩ := ltt_some hF
    refine lv_topi (fun zx41 ezx41 => ?_)
    obtain rfl : x41 = zx41 := ex41.trans ezx41.symm
    refine lv_iload hx hb dX6_measureSixteen_56 (lv_at hl 1 rfl) ?_
    refine lv_iadd hx hb dX6_measureSixteen_58 ?_
    obtain ⟨x42, ex42, hF⟩ := ltt_some hF
    refine lv_topi (fun zx42 ezx42 => ?_)
    obtain rfl : x42 = zx42 := ex42.trans ezx42.symm
    refine lv_bipush (v := (16 : Int32)) hx hb dX6_measureSixteen_59 (by decide) ?_
    obtain ⟨y43, hy43, hF⟩ := bnd_some hF
    have hf9 := wA_in hD hA9 hS
    refine va_callv (va_runV (As := [va_re ad p1, .int y37.2, .int x40, .int x42, .int (16 : Int32)]) (rest := []) ⟨hx, hb, hml, hown, hts⟩ (kX6_turn l D ct ad Z G y37.1 H.size a p1 y37.2 x40 x42 ((16 : Int32)) y43 hc hk hy43) (cwV 5 hts gX6_measureSixteen_X6_turn rfl rfl rfl (by decide +kernel) ⟨Nat.le_of_ble_eq_true rfl, Nat.le_of_ble_eq_true rfl⟩) ⟨fun a U g mk q => by obtain ⟨q0, q1, qP, qK, qD, qZ, qN⟩ := q; exact ⟨q0, q1, qP, va_K.moved (u := U) (U := U.calling g mk a) (Vm.Alike.refl U.vm) qK, qD, sF.moved (u := U) (U := U.calling g mk a) (Vm.Alike.refl U.vm) qZ, nF.same rfl qN⟩, va_recv hK hP (ci := 6) (q0 := a) rfl (wld_o ct ad G y37.1 hc hk (by decide)), fun U hU hW => ⟨rfl, by rw [hU], by rw [hU]; exact hP, va_K.moved hW.alike hK, hD.weaken (fun _ _ _ _ => trivial), by rw [hU]; exact ((hZ.kept hS.2.1).narrow hf9).moved hW.alike, hN.warm hW⟩⟩ rfl rfl hl.1 rfl (lv_room (Nat.le_of_ble_eq_true rfl)) dX6_measureSixteen_61 ⟨(Nat.zero_le _), (Nat.zero_le _)⟩) hS (fun q _ h => hf9 q h) hf9 (fun u t H locs ht hvm hw hB hz1 hk1 hS => ?_)
    obtain ⟨hP, hK9, hD9⟩ := hB
    rw [ht] at hP
    have hD := hD9.weaken (fun _ q _ h => hf9 q.1 h)
    refine lv_aload_n hx hb dX6_measureSixteen_64 rfl (lv_at hl 4 rfl) ?_
    refine va_get (D := D) (ci := 6) (v := va_re ad (y43.2 a 7)) (C := RX6) (T := TX6) (N := 14) hx hb hts (mus hf_X6) hown hK hP a (wld_o ct ad G y43 hc hk (by decide)) rfl 7 (by decide) (hts (.fieldLink RX6 33 "VideoSuite$Samples" "even" "[I") (mu mw_543)) (fun _ h9 => h9) rfl dX6_measureSixteen_65 ?_
    refine lv_iload hx hb dX6_measureSixteen_68 (lv_at hl 0 rfl) ?_
    refine lv_iload hx hb dX6_measureSixteen_70 (lv_at hl 1 rfl) ?_
    refine lv_iconst (v := (4 : Int32)) hx hb dX6_measureSixteen_72 (by decide) ?_
    refine lv_idiv hx hb dX6_measureSixteen_73 (by decide) ?_
    obtain ⟨x44, ex44, hF⟩ := ltt_some hF
    refine lv_topi (fun zx44 ezx44 => ?_)
    obtain rfl : x44 = zx44 := ex44.trans ezx44.symm
    refine lv_iadd hx hb dX6_measureSixteen_74 ?_
    obtain ⟨x45, ex45, hF⟩ := ltt_some hF
    refine lv_topi (fun zx45 ezx45 => ?_)
    obtain rfl : x45 = zx45 := ex45.trans ezx45.symm
    refine lv_aload_n hx hb dX6_measureSixteen_75 rfl (lv_at hl 4 rfl) ?_
    refine va_get (D := D) (ci := 6) (v := va_re ad (y43.2 a 6)) (C := RX6) (T := TX6) (N := 14) hx hb hts (mus hf_X6) hown hK hP a (wld_o ct ad G y43 hc hk (by decide)) rfl 6 (by decide) (hts (.fieldLink RX6 30 "VideoSuite$Samples" "rest" "[I") (mu mw_542)) (fun _ h9 => h9) rfl dX6_measureSixteen_76 ?_
    refine lv_iconst (v := (0 : Int32)) hx hb dX6_measureSixteen_79 (by decide) ?_
    obtain ⟨b46, ho46, hc46, hk46, hF⟩ := dr_some hF
    refine W_st (st' := [.int (0 : Int32), .ref (ad b46), .int x45, va_re ad (y43.2 a 7)]) (by rw [va_some ho46]) ?_
    obtain ⟨hvc, hF⟩ := chk_some hF
    refine va_iald hx hb hK hP b46 1 (wld_i ct ad G y43 hc46 hk46) rfl hvc dX6_measureSixteen_80 ?_
    obtain ⟨x47, ex47, hF⟩ := ltt_some hF
    refine lv_topi (fun zx47 ezx47 => ?_)
    obtain rfl : x47 = zx47 := ex47.trans ezx47.symm
    obtain ⟨b48, ho48, hc48, hk48, hF⟩ := dr_some hF
    refine W_st (st' := [.int x47, .int x45, .ref (ad b48)]) (by rw [va_some ho48]) ?_
    obtain ⟨hvc, hF⟩ := chk_some hF
    refine va_iast hx hb hK hP hD hS b48 1 (wld_i ct ad G y43 hc48 hk48) rfl hvc dX6_measureSixteen_81 (fun H locs hP hD hS => ?_)
    obtain ⟨M49, eM49, hF⟩ := ltt_some hF
    rw [set_i ct ad G y43 hc48 hk48, ← eM49] at hP hD
    refine lv_aload_n hx hb dX6_measureSixteen_82 rfl (lv_at hl 4 rfl) ?_
    refine lv_aloadq_n hx hb dX6_measureSixteen_83 rfl (lv_at hl 5 rfl) ?_
    refine W_st (st' := [.ref (ad b36), .ref (ad a)]) (by rw [va_some ho36]) ?_
    refine va_get (D := D) (ci := 9) (v := va_re ad (M49.2 b36 9)) (C := RX9) (T := TX9) (N := 20) hx hb hts (mus hf_X9) hown hK hP b36 (wld_o ct ad G M49 hc36 hk36 (by decide)) rfl 9 (by decide) (hts (.fieldLink RX6 234 "VideoSuite$Work" "level" "[I") (mu mw_456)) (fun _ h9 => h9) rfl dX6_measureSixteen_84 ?_
    refine lv_iload_n hx hb dX6_measureSixteen_87 rfl (lv_at hl 7 rfl) ?_
    refine lv_iload hx hb dX6_measureSixteen_88 (lv_at hl 2 rfl) ?_
    obtain ⟨y50, hy50, hF⟩ := bnd_some hF
    have hf9 := wA_in hD hA9 hS
    refine va_calli (va_runS (As := [.int p2, .int s2.2.1]) (rest := [va_re ad (M49.2 b36 9), .ref (ad a)]) ⟨hx, hb, hml, hown, hts⟩ (kX9_levelAt l D ct ad Z G M49 H.size p2 s2.2.1 y50 hy50) (va_cwS 2 hts gX6_measureSixteen_X9_levelAt rfl rfl rfl (by decide +kernel) ⟨Nat.le_of_ble_eq_true rfl, Nat.le_of_ble_eq_true rfl⟩) ⟨fun a U g mk q => by obtain ⟨q0, q1, qP, qK, qD, qZ, qN⟩ := q; exact ⟨q0, q1, qP, va_K.moved (u := U) (U := U.calling g mk a) (Vm.Alike.refl U.vm) qK, qD, sF.moved (u := U) (U := U.calling g mk a) (Vm.Alike.refl U.vm) qZ, nF.same rfl qN⟩, fun U hU hW => ⟨rfl, by rw [hU], by rw [hU]; exact hP, va_K.moved hW.alike hK, hD.weaken (fun _ _ _ _ => trivial), by rw [hU]; exact ((hZ.kept hS.2.1).narrow hf9).moved hW.alike, hN.warm hW⟩⟩ rfl rfl hl.1 rfl (lv_room (by simp only [List.map, va_re_cat]; exact Nat.le_of_ble_eq_true rfl)) dX6_measureSixteen_90 ⟨(Nat.zero_le _), (Nat.zero_le _)⟩) hS (fun q _ h => hf9 q h) hf9 (fun r u t H locs ht hvm hw hB hz1 hk1 hS => ?_)
    obtain ⟨hP, hK9, hD9⟩ := hB
    rw [ht] at hP
    try dsimp only at hw
    subst hw
    have hD := hD9.weaken (fun _ q _ h => hf9 q.1 h)
    refine lv_iconst (v := (1 : Int32)) hx hb dX6_measureSixteen_93 (by decide) ?_
    refine lv_iload hx hb dX6_measureSixteen_94 (lv_at hl 8 rfl) ?_
    refine lv_iconst (v := (1 : Int32)) hx hb dX6_measureSixteen_96 (by decide) ?_
    obtain ⟨y51, hy51, hF⟩ := bnd_some hF
    have hf9 := wA_in hD hA9 hS
    refine va_calli (va_runV (As := [va_re ad (M49.2 b36 9), .int y50.2, .int (1 : Int32), .int p3, .int (1 : Int32)]) (rest := []) ⟨hx, hb, hml, hown, hts⟩ (kX6_measure l D ct ad Z G y50.1 H.size a ((M49.2 b36 9)) y50.2 ((1 : Int32)) p3 ((1 : Int32)) y51 hc hk hy51) (cwV 5 hts gX6_measureSixteen_X6_measure rfl rfl rfl (by decide +kernel) ⟨Nat.le_of_ble_eq_true rfl, Nat.le_of_ble_eq_true rfl⟩) ⟨fun a U g mk q => by obtain ⟨q0, q1, qP, qK, qD, qZ, qN⟩ := q; exact ⟨q0, q1, qP, va_K.moved (u := U) (U := U.calling g mk a) (Vm.Alike.refl U.vm) qK, qD, sF.moved (u := U) (U := U.calling g mk a) (Vm.Alike.refl U.vm) qZ, nF.same rfl qN⟩, va_recv hK hP (ci := 6) (q0 := a) rfl (wld_o ct ad G y50.1 hc hk (by decide)), fun U hU hW => ⟨rfl, by rw [hU], by rw [hU]; exact hP, va_K.moved hW.alike hK, hD.weaken (fun _ _ _ _ => trivial), by rw [hU]; exact ((hZ.kept hS.2.1).narrow hf9).moved hW.alike, hN.warm hW⟩⟩ rfl rfl hl.1 rfl (lv_room (Nat.le_of_ble_eq_true rfl)) dX6_measureSixteen_97 ⟨(Nat.zero_le _), (Nat.zero_le _)⟩) hS (fun q _ h => hf9 q h) hf9 (fun r u t H locs ht hvm hw hB hz1 hk1 hS => ?_)
    obtain ⟨hP, hK9, hD9⟩ := hB
    rw [ht] at hP
    try dsimp only at hw
    subst hw
    have hD := hD9.weaken (fun _ q _ h => hf9 q.1 h)
    refine lv_istore (lv' := [(9, .int y51.2), (8, .int y35.2), (7, .int y34.2), (6, .int s2.2.1), (5, .int s2.1), (0, .ref (ad a)), (1, va_re ad p0), (2, va_re ad p1), (3, .int p2), (4, .int p3)]) hx hb dX6_measureSixteen_100 hl (by decide) rfl (fun ls hl => ?_)
    refine lv_aloadq_n hx hb dX6_measureSixteen_102 rfl (lv_at hl 6 rfl) ?_
    refine W_st (st' := [.ref (ad b36)]) (by rw [va_some ho36]) ?_
    refine va_get (D := D) (ci := 9) (v := va_re ad (y51.1.2 b36 8)) (C := RX9) (T := TX9) (N := 20) hx hb hts (mus hf_X9) hown hK hP b36 (wld_o ct ad G y51.1 hc36 hk36 (by decide)) rfl 8 (by decide) (hts (.fieldLink RX6 277 "VideoSuite$Work" "total" "[I") (mu mw_452)) (fun _ h9 => h9) rfl dX6_measureSixteen_103 ?_
    refine lv_bipush (v := (24 : Int32)) hx hb dX6_measureSixteen_106 (by decide) ?_
    refine lv_iload_n hx hb dX6_measureSixteen_108 rfl (lv_at hl 8 rfl) ?_
    refine lv_imul hx hb dX6_measureSixteen_109 ?_
    obtain ⟨x52, ex52, hF⟩ := ltt_some hF
    refine lv_topi (fun zx52 ezx52 => ?_)
    obtain rfl : x52 = zx52 := ex52.trans ezx52.symm
    refine lv_iload hx hb dX6_measureSixteen_110 (lv_at hl 3 rfl) ?_
    refine lv_iadd hx hb dX6_measureSixteen_112 ?_
    obtain ⟨x53, ex53, hF⟩ := ltt_some hF
    refine lv_topi (fun zx53 ezx53 => ?_)
    obtain rfl : x53 = zx53 := ex53.trans ezx53.symm
    refine lv_iload hx hb dX6_measureSixteen_113 (lv_at hl 0 rfl) ?_
    obtain ⟨b54, ho54, hc54, hk54, hF⟩ := dr_some hF
    refine W_st (st' := [.int y51.2, .int x53, .ref (ad b54)]) (by rw [va_some ho54]) ?_
    obtain ⟨hvc, hF⟩ := chk_some hF
    refine va_iast hx hb hK hP hD hS b54 1 (wld_i ct ad G y51.1 hc54 hk54) rfl hvc dX6_measureSixteen_115 (fun H locs hP hD hS => ?_)
    obtain ⟨M55, eM55, hF⟩ := ltt_some hF
    rw [set_i ct ad G y51.1 hc54 hk54, ← eM55] at hP hD
    refine lv_iload hx hb dX6_measureSixteen_116 (lv_at hl 4 rfl) ?_
    refine lv_iload hx hb dX6_measureSixteen_118 (lv_at hl 0 rfl) ?_
    refine lv_iadd hx hb dX6_measureSixteen_120 ?_
    obtain ⟨x56, ex56, hF⟩ := ltt_some hF
    refine lv_topi (fun zx56 ezx56 => ?_)
    obtain rfl : x56 = zx56 := ex56.trans ezx56.symm
    refine lv_istore (lv' := [(5, .int x56), (9, .int y51.2), (8, .int y35.2), (7, .int y34.2), (6, .int s2.2.1), (0, .ref (ad a)), (1, va_re ad p0), (2, va_re ad p1), (3, .int p2), (4, .int p3)]) hx hb dX6_measureSixteen_121 hl (by decide) rfl (fun ls hl => ?_)
    obtain ⟨x57, ex57, hF⟩ := ltt_some hF
    refine lv_iinc (v := x57) (lv' := [(6, .int x57), (5, .int x56), (9, .int y51.2), (8, .int y35.2), (7, .int y34.2), (0, .ref (ad a)), (1, va_re ad p0), (2, va_re ad p1), (3, .int p2), (4, .int p3)]) hx hb dX6_measureSixteen_123 hl (k := 4) rfl (by rw [ex57]; rfl) (by decide) rfl (fun ls hl => ?_)
    refine lv_goto (tgt := 6) hx hb dX6_measureSixteen_126 (by decide) ?_
    obtain rfl := Option.some.inj hF
    exact hwz32 _ _ _ hP hD hS (lv_sub hl [0, 1, 5, 6, 7, 8, 9] rfl)
