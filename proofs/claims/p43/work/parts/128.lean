theorem ggX6_colourMean_X6_sumAround : GoodIn wsX6_colourMean wsX6_sumAround := goodIn_r _ [5, 6, 7, 8, 9, 10, 11, 12, 13, 14, 15, 16, 17, 18, 19, 20] (by decide +kernel) (by decide +kernel)
set_option maxRecDepth 20000 in
theorem gX6_colourMean_X6_sumAround : GoodIn wsX6_colourMean (wsV RX6 203 RX6 yX6_sumAround wsX6_sumAround) := goodIn_app (goodIn_of _ (by decide +kernel)) ggX6_colourMean_X6_sumAround
theorem dX6_colourMean_0 : decode cX6_colourMean 0 = .ok (.iload_n 2, 1) := by decide +kernel
theorem dX6_colourMean_1 : decode cX6_colourMean 1 = .ok (.iconst 1, 1) := by decide +kernel
theorem dX6_colourMean_2 : decode cX6_colourMean 2 = .ok (.iand, 1) := by decide +kernel
theorem dX6_colourMean_3 : decode cX6_colourMean 3 = .ok (.ifCond .eq 7, 3) := by decide +kernel
theorem dX6_colourMean_6 : decode cX6_colourMean 6 = .ok (.iconst 1, 1) := by decide +kernel
theorem dX6_colourMean_7 : decode cX6_colourMean 7 = .ok (.goto 4, 3) := by decide +kernel
theorem dX6_colourMean_10 : decode cX6_colourMean 10 = .ok (.iconst 0, 1) := by decide +kernel
theorem dX6_colourMean_11 : decode cX6_colourMean 11 = .ok (.istore_n 3, 1) := by decide +kernel
theorem dX6_colourMean_12 : decode cX6_colourMean 12 = .ok (.iload_n 2, 1) := by decide +kernel
theorem dX6_colourMean_13 : decode cX6_colourMean 13 = .ok (.iconst 2, 1) := by decide +kernel
theorem dX6_colourMean_14 : decode cX6_colourMean 14 = .ok (.iand, 1) := by decide +kernel
theorem dX6_colourMean_15 : decode cX6_colourMean 15 = .ok (.ifCond .eq 7, 3) := by decide +kernel
theorem dX6_colourMean_18 : decode cX6_colourMean 18 = .ok (.iconst 1, 1) := by decide +kernel
theorem dX6_colourMean_19 : decode cX6_colourMean 19 = .ok (.goto 4, 3) := by decide +kernel
theorem dX6_colourMean_22 : decode cX6_colourMean 22 = .ok (.iconst 0, 1) := by decide +kernel
theorem dX6_colourMean_23 : decode cX6_colourMean 23 = .ok (.istore 4, 2) := by decide +kernel
theorem dX6_colourMean_25 : decode cX6_colourMean 25 = .ok (.aload_n 0, 1) := by decide +kernel
theorem dX6_colourMean_26 : decode cX6_colourMean 26 = .ok (.iconst 1, 1) := by decide +kernel
theorem dX6_colourMean_27 : decode cX6_colourMean 27 = .ok (.iload_n 1, 1) := by decide +kernel
theorem dX6_colourMean_28 : decode cX6_colourMean 28 = .ok (.iconst 2, 1) := by decide +kernel
theorem dX6_colourMean_29 : decode cX6_colourMean 29 = .ok (.irem, 1) := by decide +kernel
theorem dX6_colourMean_30 : decode cX6_colourMean 30 = .ok (.iconst 4, 1) := by decide +kernel
theorem dX6_colourMean_31 : decode cX6_colourMean 31 = .ok (.imul, 1) := by decide +kernel
theorem dX6_colourMean_32 : decode cX6_colourMean 32 = .ok (.iadd, 1) := by decide +kernel
theorem dX6_colourMean_33 : decode cX6_colourMean 33 = .ok (.iconst 4, 1) := by decide +kernel
theorem dX6_colourMean_34 : decode cX6_colourMean 34 = .ok (.invokevirtual 203, 3) := by decide +kernel
theorem dX6_colourMean_37 : decode cX6_colourMean 37 = .ok (.istore 5, 2) := by decide +kernel
theorem dX6_colourMean_39 : decode cX6_colourMean 39 = .ok (.aload_n 0, 1) := by decide +kernel
theorem dX6_colourMean_40 : decode cX6_colourMean 40 = .ok (.bipush 10, 2) := by decide +kernel
theorem dX6_colourMean_42 : decode cX6_colourMean 42 = .ok (.iload_n 1, 1) := by decide +kernel
theorem dX6_colourMean_43 : decode cX6_colourMean 43 = .ok (.iconst 2, 1) := by decide +kernel
theorem dX6_colourMean_44 : decode cX6_colourMean 44 = .ok (.idiv, 1) := by decide +kernel
theorem dX6_colourMean_45 : decode cX6_colourMean 45 = .ok (.iconst 4, 1) := by decide +kernel
theorem dX6_colourMean_46 : decode cX6_colourMean 46 = .ok (.imul, 1) := by decide +kernel
theorem dX6_colourMean_47 : decode cX6_colourMean 47 = .ok (.iadd, 1) := by decide +kernel
theorem dX6_colourMean_48 : decode cX6_colourMean 48 = .ok (.iconst 4, 1) := by decide +kernel
theorem dX6_colourMean_49 : decode cX6_colourMean 49 = .ok (.invokevirtual 203, 3) := by decide +kernel
theorem dX6_colourMean_52 : decode cX6_colourMean 52 = .ok (.istore 6, 2) := by decide +kernel
theorem dX6_colourMean_54 : decode cX6_colourMean 54 = .ok (.iload_n 3, 1) := by decide +kernel
theorem dX6_colourMean_55 : decode cX6_colourMean 55 = .ok (.ifCond .ne 12, 3) := by decide +kernel
theorem dX6_colourMean_58 : decode cX6_colourMean 58 = .ok (.iload 4, 2) := by decide +kernel
theorem dX6_colourMean_60 : decode cX6_colourMean 60 = .ok (.ifCond .ne 7, 3) := by decide +kernel
theorem dX6_colourMean_63 : decode cX6_colourMean 63 = .ok (.sipush 128, 3) := by decide +kernel
theorem dX6_colourMean_66 : decode cX6_colourMean 66 = .ok (.ireturn, 1) := by decide +kernel
theorem dX6_colourMean_67 : decode cX6_colourMean 67 = .ok (.iload_n 1, 1) := by decide +kernel
theorem dX6_colourMean_68 : decode cX6_colourMean 68 = .ok (.iconst 1, 1) := by decide +kernel
theorem dX6_colourMean_69 : decode cX6_colourMean 69 = .ok (.if_icmp .ne 20, 3) := by decide +kernel
theorem dX6_colourMean_72 : decode cX6_colourMean 72 = .ok (.iload 4, 2) := by decide +kernel
theorem dX6_colourMean_74 : decode cX6_colourMean 74 = .ok (.ifCond .eq 8, 3) := by decide +kernel
theorem dX6_colourMean_77 : decode cX6_colourMean 77 = .ok (.iload 5, 2) := by decide +kernel
theorem dX6_colourMean_79 : decode cX6_colourMean 79 = .ok (.goto 5, 3) := by decide +kernel
theorem dX6_colourMean_82 : decode cX6_colourMean 82 = .ok (.iload 6, 2) := by decide +kernel
theorem dX6_colourMean_84 : decode cX6_colourMean 84 = .ok (.iconst 2, 1) := by decide +kernel
theorem dX6_colourMean_85 : decode cX6_colourMean 85 = .ok (.iadd, 1) := by decide +kernel
theorem dX6_colourMean_86 : decode cX6_colourMean 86 = .ok (.iconst 2, 1) := by decide +kernel
theorem dX6_colourMean_87 : decode cX6_colourMean 87 = .ok (.ishr, 1) := by decide +kernel
theorem dX6_colourMean_88 : decode cX6_colourMean 88 = .ok (.ireturn, 1) := by decide +kernel
theorem dX6_colourMean_89 : decode cX6_colourMean 89 = .ok (.iload_n 1, 1) := by decide +kernel
theorem dX6_colourMean_90 : decode cX6_colourMean 90 = .ok (.iconst 2, 1) := by decide +kernel
theorem dX6_colourMean_91 : decode cX6_colourMean 91 = .ok (.if_icmp .ne 19, 3) := by decide +kernel
theorem dX6_colourMean_94 : decode cX6_colourMean 94 = .ok (.iload_n 3, 1) := by decide +kernel
theorem dX6_colourMean_95 : decode cX6_colourMean 95 = .ok (.ifCond .eq 8, 3) := by decide +kernel
theorem dX6_colourMean_98 : decode cX6_colourMean 98 = .ok (.iload 6, 2) := by decide +kernel
theorem dX6_colourMean_100 : decode cX6_colourMean 100 = .ok (.goto 5, 3) := by decide +kernel
theorem dX6_colourMean_103 : decode cX6_colourMean 103 = .ok (.iload 5, 2) := by decide +kernel
theorem dX6_colourMean_105 : decode cX6_colourMean 105 = .ok (.iconst 2, 1) := by decide +kernel
theorem dX6_colourMean_106 : decode cX6_colourMean 106 = .ok (.iadd, 1) := by decide +kernel
theorem dX6_colourMean_107 : decode cX6_colourMean 107 = .ok (.iconst 2, 1) := by decide +kernel
theorem dX6_colourMean_108 : decode cX6_colourMean 108 = .ok (.ishr, 1) := by decide +kernel
theorem dX6_colourMean_109 : decode cX6_colourMean 109 = .ok (.ireturn, 1) := by decide +kernel
theorem dX6_colourMean_110 : decode cX6_colourMean 110 = .ok (.iload_n 3, 1) := by decide +kernel
theorem dX6_colourMean_111 : decode cX6_colourMean 111 = .ok (.ifCond .eq 20, 3) := by decide +kernel
theorem dX6_colourMean_114 : decode cX6_colourMean 114 = .ok (.iload 4, 2) := by decide +kernel
theorem dX6_colourMean_116 : decode cX6_colourMean 116 = .ok (.ifCond .eq 15, 3) := by decide +kernel
theorem dX6_colourMean_119 : decode cX6_colourMean 119 = .ok (.iload 5, 2) := by decide +kernel
theorem dX6_colourMean_121 : decode cX6_colourMean 121 = .ok (.iload 6, 2) := by decide +kernel
theorem dX6_colourMean_123 : decode cX6_colourMean 123 = .ok (.iadd, 1) := by decide +kernel
theorem dX6_colourMean_124 : decode cX6_colourMean 124 = .ok (.iconst 4, 1) := by decide +kernel
theorem dX6_colourMean_125 : decode cX6_colourMean 125 = .ok (.iadd, 1) := by decide +kernel
theorem dX6_colourMean_126 : decode cX6_colourMean 126 = .ok (.iconst 3, 1) := by decide +kernel
theorem dX6_colourMean_127 : decode cX6_colourMean 127 = .ok (.ishr, 1) := by decide +kernel
theorem dX6_colourMean_128 : decode cX6_colourMean 128 = .ok (.goto 18, 3) := by decide +kernel
theorem dX6_colourMean_131 : decode cX6_colourMean 131 = .ok (.iload_n 3, 1) := by decide +kernel
theorem dX6_colourMean_132 : decode cX6_colourMean 132 = .ok (.ifCond .eq 8, 3) := by decide +kernel
theorem dX6_colourMean_135 : decode cX6_colourMean 135 = .ok (.iload 6, 2) := by decide +kernel
theorem dX6_colourMean_137 : decode cX6_colourMean 137 = .ok (.goto 5, 3) := by decide +kernel
theorem dX6_colourMean_140 : decode cX6_colourMean 140 = .ok (.iload 5, 2) := by decide +kernel
theorem dX6_colourMean_142 : decode cX6_colourMean 142 = .ok (.iconst 2, 1) := by decide +kernel
theorem dX6_colourMean_143 : decode cX6_colourMean 143 = .ok (.iadd, 1) := by decide +kernel
theorem dX6_colourMean_144 : decode cX6_colourMean 144 = .ok (.iconst 2, 1) := by decide +kernel
theorem dX6_colourMean_145 : decode cX6_colourMean 145 = .ok (.ishr, 1) := by decide +kernel
theorem dX6_colourMean_146 : decode cX6_colourMean 146 = .ok (.ireturn, 1) := by decide +kernel
def FX6_colourMean (G : GG) (M : DD) (a : Nat) (p0 : Int32) (p1 : Int32) : Option (DD × Int32) :=
  ltt ((p1 &&& ((1 : Int32)))) fun x1 =>
  bnd (if x1 = ((0 : Int32)) then (some ((0 : Int32))) else
  (some ((1 : Int32)))) fun (y2 : Int32) =>
  ltt ((p1 &&& ((2 : Int32)))) fun x3 =>
  bnd (if x3 = ((0 : Int32)) then (some ((0 : Int32))) else
  (some ((1 : Int32)))) fun (y4 : Int32) =>
  ltt (p0 - p0 / ((2 : Int32)) * ((2 : Int32))) fun x5 =>
  ltt ((x5 * ((4 : Int32)))) fun x6 =>
  ltt ((((1 : Int32)) + x6)) fun x7 =>
  bnd (FX6_sumAround G M a x7 ((4 : Int32))) fun y8 =>
  ltt (p0 / ((2 : Int32))) fun x9 =>
  ltt ((x9 * ((4 : Int32)))) fun x10 =>
  ltt ((((10 : Int32)) + x10)) fun x11 =>
  bnd (FX6_sumAround G y8.1 a x11 ((4 : Int32))) fun y12 =>
  if y2 = ((0 : Int32)) then (if y4 = ((0 : Int32)) then (some (y12.1, (128 : Int32))) else
  (if p0 = ((1 : Int32)) then (bnd (if y4 = ((0 : Int32)) then (some (y12.2)) else
  (some (y8.2))) fun (y61 : Int32) =>
  ltt ((y61 + ((2 : Int32)))) fun x62 =>
  ltt ((x62 >>> (((2 : Int32)) &&& 31))) fun x63 =>
  some (y12.1, x63)) else
  (if p0 = ((2 : Int32)) then (bnd (if y2 = ((0 : Int32)) then (some (y8.2)) else
  (some (y12.2))) fun (y57 : Int32) =>
  ltt ((y57 + ((2 : Int32)))) fun x58 =>
  ltt ((x58 >>> (((2 : Int32)) &&& 31))) fun x59 =>
  some (y12.1, x59)) else
  (bnd (if y2 = ((0 : Int32)) then (bnd (if y2 = ((0 : Int32)) then (some (y8.2)) else
  (some (y12.2))) fun (y44 : Int32) =>
  ltt ((y44 + ((2 : Int32)))) fun x45 =>
  ltt ((x45 >>> (((2 : Int32)) &&& 31))) fun x46 =>
  some (x46)) else
  (bnd (if y4 = ((0 : Int32)) then (bnd (if y2 = ((0 : Int32)) then (some (y8.2)) else
  (some (y12.2))) fun (y50 : Int32) =>
  ltt ((y50 + ((2 : Int32)))) fun x51 =>
  ltt ((x51 >>> (((2 : Int32)) &&& 31))) fun x52 =>
  some (x52)) else
  (ltt ((y8.2 + y12.2)) fun x54 =>
  ltt ((x54 + ((4 : Int32)))) fun x55 =>
  ltt ((x55 >>> (((3 : Int32)) &&& 31))) fun x56 =>
  some (x56))) fun (y48 : Int32) =>
  some (y48))) fun (y42 : Int32) =>
  some (y12.1, y42))))) else
  (if p0 = ((1 : Int32)) then (bnd (if y4 = ((0 : Int32)) then (some (y12.2)) else
  (some (y8.2))) fun (y35 : Int32) =>
  ltt ((y35 + ((2 : Int32)))) fun x36 =>
  ltt ((x36 >>> (((2 : Int32)) &&& 31))) fun x37 =>
  some (y12.1, x37)) else
  (if p0 = ((2 : Int32)) then (bnd (if y2 = ((0 : Int32)) then (some (y8.2)) else
  (some (y12.2))) fun (y31 : Int32) =>
  ltt ((y31 + ((2 : Int32)))) fun x32 =>
  ltt ((x32 >>> (((2 : Int32)) &&& 31))) fun x33 =>
  some (y12.1, x33)) else
  (bnd (if y2 = ((0 : Int32)) then (bnd (if y2 = ((0 : Int32)) then (some (y8.2)) else
  (some (y12.2))) fun (y18 : Int32) =>
  ltt ((y18 + ((2 : Int32)))) fun x19 =>
  ltt ((x19 >>> (((2 : Int32)) &&& 31))) fun x20 =>
  some (x20)) else
  (bnd (if y4 = ((0 : Int32)) then (bnd (if y2 = ((0 : Int32)) then (some (y8.2)) else
  (some (y12.2))) fun (y24 : Int32) =>
  ltt ((y24 + ((2 : Int32)))) fun x25 =>
  ltt ((x25 >>> (((2 : Int32)) &&& 31))) fun x26 =>
  some (x26)) else
  (ltt ((y8.2 + y12.2)) fun x28 =>
  ltt ((x28 + ((4 : Int32)))) fun x29 =>
  ltt ((x29 >>> (((3 : Int32)) &&& 31))) fun x30 =>
  some (x30))) fun (y22 : Int32) =>
  some (y22))) fun (y16 : Int32) =>
  some (y12.1, y16))))
set_option maxHeartbeats 4000000 in
set_option maxRecDepth 100000 in
theorem kX6_colourMean (l : Launch) (D : va_G) (ct : CT) (ad : Nat → Nat) (Z : Nat → Nat) (G : GG) (M : DD) (sz : Nat) (a : Nat) (p0 : Int32) (p1 : Int32) (y : DD × Int32) (hc : a < G.1) (hk : G.2.1 a = 6) (hF : FX6_colourMean G M a p0 p1 = some y) : Met l yX6_colourMean wsX6_colourMean ({ frames := 1, cells := 0, slots := 0, locals := 24 }) (va_Pc [.ref (ad a), .int p0, .int p1] (kB D ct ad Z G M sz)) (va_Qi (fun (q : Int32) (_ : Unit) => q = y.2) (fun _ t => kE D ct ad G (wA ad G sz) y.1 t) (wA ad G sz)) 0 0 (wA ad G sz) := by
  refine Met.ofW (cc := cX6_colourMean) (maxL := 7) (ret := (some .int)) (by decide) rfl ?_
  intro p e s m args below meth c s₁ B hml hv
  obtain ⟨rfl, hsz, hP, hK, hD0, hZ, hN⟩ := hv
  have hx := B.exec
  have hb := B.bytes
  have hr := B.returns
  have hts := atoms_spec (ws := wsX6_colourMean) B.pre
  have hown : s.vm.findClass RX6 = some m.cls := findClass_of_methodNamed B.named
  have hlocks := B.notSynchronized
  subst hsz
  have hD := wD_self (sz := s.heap.size) hD0
  have hA9 : ∀ q, s.heap.size ≤ q → wA ad G s.heap.size q := fun q h => Or.inr h
  generalize hAe : wA ad G s.heap.size = A at hD hA9 hZ ⊢
  have hS : va_S A s.heap s.heap [] := va_S.rf
  have hl := lv_entry ([.ref (ad a), .int p0, .int p1]) (n := 7) (Nat.le_of_ble_eq_true rfl)
  rw [lg_entry_eq]
  generalize (lg_sl ([.ref (ad a), .int p0, .int p1]) ++ List.replicate (7 - (lg_sl ([.ref (ad a), .int p0, .int p1])).length) Slot.unset).toArray = ls at hl ⊢
  have hl : lv_has ls 7 [(0, .ref (ad a)), (1, .int p0), (2, .int p1)] := hl
  unfold FX6_colourMean at hF
  refine lv_iload_n hx hb dX6_colourMean_0 rfl (lv_at hl 2 rfl) ?_
  refine lv_iconst (v := (1 : Int32)) hx hb dX6_colourMean_1 (by decide) ?_
  refine lv_iand hx hb dX6_colourMean_2 ?_
  obtain ⟨x1, ex1, hF⟩ := ltt_some hF
  refine lv_topi (fun zx1 ezx1 => ?_)
  obtain rfl : x1 = zx1 := ex1.trans ezx1.symm
  obtain ⟨y2, hy2, hF⟩ := bnd_some hF
  have J2 : ∀ (H : Heap) (locs : List Loc) (ls : Array Slot), va_P D classes (wld ct ad G M) H → va_D A (wld ct ad G M) → va_S A s.heap H locs → lv_has ls 7 [(0, .ref (ad a)), (1, .int p0), (2, .int p1)] → W p l e (headSpec wsX6_colourMean ({ frames := 1, cells := 0, slots := 0, locals := 24 })).room s m ([.ref (ad a), .int p0, .int p1] : List Value).toArray below meth c H locs 0 0 (MQ below (va_Qi (fun (q : Int32) (_ : Unit) => q = y.2) (fun _ t => kE D ct ad G A y.1 t) A) ([.ref (ad a), .int p0, .int p1] : List Value).toArray s 0 0 A) (F0 m 11 ls [.int y2]) := by
    intro H locs ls hP hD hS hl
    refine lv_istore_n (lv' := [(3, .int y2), (0, .ref (ad a)), (1, .int p0), (2, .int p1)]) hx hb dX6_colourMean_11 rfl hl (by decide) rfl (fun ls hl => ?_)
    refine lv_iload_n hx hb dX6_colourMean_12 rfl (lv_at hl 3 rfl) ?_
    refine lv_iconst (v := (2 : Int32)) hx hb dX6_colourMean_13 (by decide) ?_
    refine lv_iand hx hb dX6_colourMean_14 ?_
    obtain ⟨x3, ex3, hF⟩ := ltt_some hF
    refine lv_topi (fun zx3 ezx3 => ?_)
    obtain rfl : x3 = zx3 := ex3.trans ezx3.symm
    obtain ⟨y4, hy4, hF⟩ := bnd_some hF
    have J4 : ∀ (H : Heap) (locs : List Loc) (ls : Array Slot), va_P D classes (wld ct ad G M) H → va_D A (wld ct ad G M) → va_S A s.heap H locs → lv_has ls 7 [(3, .int y2), (0, .ref (ad a)), (1, .int p0), (2, .int p1)] → W p l e (headSpec wsX6_colourMean ({ frames := 1, cells := 0, slots := 0, locals := 24 })).room s m ([.ref (ad a), .int p0, .int p1] : List Value).toArray below meth c H locs 0 0 (MQ below (va_Qi (fun (q : Int32) (_ : Unit) => q = y.2) (fun _ t => kE D ct ad G A y.1 t) A) ([.ref (ad a), .int p0, .int p1] : List Value).toArray s 0 0 A) (F0 m 23 ls [.int y4]) := by
      intro H locs ls hP hD hS hl
      refine lv_istore (lv' := [(4, .int y4), (3, .int y2), (0, .ref (ad a)), (1, .int p0), (2, .int p1)]) hx hb dX6_colourMean_23 hl (by decide) rfl (fun ls hl => ?_)
      refine lv_aload_n hx hb dX6_colourMean_25 rfl (lv_at hl 2 rfl) ?_
      refine lv_iconst (v := (1 : Int32)) hx hb dX6_colourMean_26 (by decide) ?_
      refine lv_iload_n hx hb dX6_colourMean_27 rfl (lv_at hl 3 rfl) ?_
      refine lv_iconst (v := (2 : Int32)) hx hb dX6_colourMean_28 (by decide) ?_
      refine lv_irem hx hb dX6_colourMean_29 (by decide) ?_
      obtain ⟨x5, ex5, hF⟩ := ltt_some hF
      refine lv_topi (fun zx5 ezx5 => ?_)
      obtain rfl : x5 = zx5 := ex5.trans ezx5.symm
      refine lv_iconst (v := (4 : Int32)) hx hb dX6_colourMean_30 (by decide) ?_
      refine lv_imul hx hb dX6_colourMean_31 ?_
      obtain ⟨x6, ex6, hF⟩ := ltt_some hF
      refine lv_topi (fun zx6 ezx6 => ?_)
      obtain rfl : x6 = zx6 := ex6.trans ezx6.symm
      refine lv_iadd hx hb dX6_colourMean_32 ?_
      obtain ⟨x7, ex7, hF⟩ := ltt_some hF
      refine lv_topi (fun zx7 ezx7 => ?_)
      obtain rfl : x7 = zx7 := ex7.trans ezx7.symm
      refine lv_iconst (v := (4 : Int32)) hx hb dX6_colourMean_33 (by decide) ?_
      obtain ⟨y8, hy8, hF⟩ := bnd_some hF
      have hf9 := wA_in hD hA9 hS
      refine va_calli (va_runV (As := [.int x7, .int (4 : Int32)]) (rest := []) ⟨hx, hb, hml, hown, hts⟩ (kX6_sumAround l D ct ad Z G M H.size a x7 ((4 : Int32)) y8 hc hk hy8) (cwV 2 hts gX6_colourMean_X6_sumAround rfl rfl rfl (by decide +kernel) ⟨Nat.le_of_ble_eq_true rfl, Nat.le_of_ble_eq_true rfl⟩) ⟨fun a U g mk q => by obtain ⟨q0, q1, qP, qK, qD, qZ, qN⟩ := q; exact ⟨q0, q1, qP, va_K.moved (u := U) (U := U.calling g mk a) (Vm.Alike.refl U.vm) qK, qD, sF.moved (u := U) (U := U.calling g mk a) (Vm.Alike.refl U.vm) qZ, nF.same rfl qN⟩, va_recv hK hP (ci := 6) (q0 := a) rfl (wld_o ct ad G M hc hk (by decide)), fun U hU hW => ⟨rfl, by rw [hU], by rw [hU]; exact hP, va_K.moved hW.alike hK, hD.weaken (fun _ _ _ _ => trivial), by rw [hU]; exact ((hZ.kept hS.2.1).narrow hf9).moved hW.alike, hN.warm hW⟩⟩ rfl rfl hl.1 rfl (lv_room (Nat.le_of_ble_eq_true rfl)) dX6_colourMean_34 ⟨(Nat.zero_le _), (Nat.zero_le _)⟩) hS (fun q _ h => hf9 q h) hf9 (fun r u t H locs ht hvm hw hB hz1 hk1 hS => ?_)
      obtain ⟨hP, hK9, hD9⟩ := hB
      rw [ht] at hP
      try dsimp only at hw
      subst hw
      have hD := hD9.weaken (fun _ q _ h => hf9 q.1 h)
      refine lv_istore (lv' := [(5, .int y8.2), (4, .int y4), (3, .int y2), (0, .ref (ad a)), (1, .int p0), (2, .int p1)]) hx hb dX6_colourMean_37 hl (by decide) rfl (fun ls hl => ?_)
      refine lv_aload_n hx hb dX6_colourMean_39 rfl (lv_at hl 3 rfl) ?_
      refine lv_bipush (v := (10 : Int32)) hx hb dX6_colourMean_40 (by decide) ?_
      refine lv_iload_n hx hb dX6_colourMean_42 rfl (lv_at hl 4 rfl) ?_
      refine lv_iconst (v := (2 : Int32)) hx hb dX6_colourMean_43 (by decide) ?_
      refine lv_idiv hx hb dX6_colourMean_44 (by decide) ?_
      obtain ⟨x9, ex9, hF⟩ := ltt_some hF
      refine lv_topi (fun zx9 ezx9 => ?_)
      obtain rfl : x9 = zx9 := ex9.trans ezx9.symm
      refine lv_iconst (v := (4 : Int32)) hx hb dX6_colourMean_45 (by decide) ?_
      refine lv_imul hx hb dX6_colourMean_46 ?_
      obtain ⟨x10, ex10, hF⟩ := ltt_some hF
      refine lv_topi (fun zx10 ezx10 => ?_)
      obtain rfl : x10 = zx10 := ex10.trans ezx10.symm
      refine lv_iadd hx hb dX6_colourMean_47 ?_
      obtain ⟨x11, ex11, hF⟩ := ltt_some hF
      refine lv_topi (fun zx11 ezx11 => ?_)
      obtain rfl : x11 = zx11 := ex11.trans ezx11.symm
      refine lv_iconst (v := (4 : Int32)) hx hb dX6_colourMean_48 (by decide) ?_
      obtain ⟨y12, hy12, hF⟩ := bnd_some hF
      have hf9 := wA_in hD hA9 hS
      refine va_calli (va_runV (As := [.int x11, .int (4 : Int32)]) (rest := []) ⟨hx, hb, hml, hown, hts⟩ (kX6_sumAround l D ct ad Z G y8.1 H.size a x11 ((4 : Int32)) y12 hc hk hy12) (cwV 2 hts gX6_colourMean_X6_sumAround rfl rfl rfl (by decide +kernel) ⟨Nat.le_of_ble_eq_true rfl, Nat.le_of_ble_eq_true rfl⟩) ⟨fun a U g mk q => by obtain ⟨q0, q1, qP, qK, qD, qZ, qN⟩ := q; exact ⟨q0, q1, qP, va_K.moved (u := U) (U := U.calling g mk a) (Vm.Alike.refl U.vm) qK, qD, sF.moved (u := U) (U := U.calling g mk a) (Vm.Alike.refl U.vm) qZ, nF.same rfl qN⟩, va_recv hK hP (ci := 6) (q0 := a) rfl (wld_o ct ad G y8.1 hc hk (by decide)), fun U hU hW => ⟨rfl, by rw [hU], by rw [hU]; exact hP, va_K.moved hW.alike hK, hD.weaken (fun _ _ _ _ => trivial), by rw [hU]; exact ((hZ.kept hS.2.1).narrow hf9).moved hW.alike, hN.warm hW⟩⟩ rfl rfl hl.1 rfl (lv_room (Nat.le_of_ble_eq_true rfl)) dX6_colourMean_49 ⟨(Nat.zero_le _), (Nat.zero_le _)⟩) hS (fun q _ h => hf9 q h) hf9 (fun r u t H locs ht hvm hw hB hz1 hk1 hS => ?_)
      obtain ⟨hP, hK9, hD9⟩ := hB
      rw [ht] at hP
      try dsimp only at hw
      subst hw
      have hD := hD9.weaken (fun _ q _ h => hf9 q.1 h)
      refine lv_istore (lv' := [(6, .int y12.2), (5, .int y8.2), (4, .int y4), (3, .int y2), (0, .ref (ad a)), (1, .int p0), (2, .int p1)]) hx hb dX6_colourMean_52 hl (by decide) rfl (fun ls hl => ?_)
      refine lv_iload_n hx hb dX6_colourMean_54 rfl (lv_at hl 3 rfl) ?_
      refine lv_if_ne (tgt := 67) hx hb dX6_colourMean_55 (by decide) (fun c13 => ?_) (fun c13 => ?_)
      · rw [if_neg c13] at hF
        refine lv_iload_n hx hb dX6_colourMean_67 rfl (lv_at hl 5 rfl) ?_
        refine lv_iconst (v := (1 : Int32)) hx hb dX6_colourMean_68 (by decide) ?_
        refine lv_icmp_ne (tgt := 89) hx hb dX6_colourMean_69 (by decide) (fun c14 => ?_) (fun c14 => ?_)
        · rw [if_neg c14] at hF
          refine lv_iload_n hx hb dX6_colourMean_89 rfl (lv_at hl 5 rfl) ?_
          refine lv_iconst (v := (2 : Int32)) hx hb dX6_colourMean_90 (by decide) ?_
          refine lv_icmp_ne (tgt := 110) hx hb dX6_colourMean_91 (by decide) (fun c15 => ?_) (fun c15 => ?_)
          · rw [if_neg c15] at hF
            refine lv_iload_n hx hb dX6_colourMean_110 rfl (lv_at hl 3 rfl) ?_
            obtain ⟨y16, hy16, hF⟩ := bnd_some hF
            have J16 : ∀ (H : Heap) (locs : List Loc) (ls : Array Slot), va_P D classes (wld ct ad G y12.1) H → va_D A (wld ct ad G y12.1) → va_S A s.heap H locs → lv_has ls 7 [(6, .int y12.2), (5, .int y8.2), (4, .int y4), (3, .int y2), (0, .ref (ad a)), (1, .int p0), (2, .int p1)] → W p l e (headSpec wsX6_colourMean ({ frames := 1, cells := 0, slots := 0, locals := 24 })).room s m ([.ref (ad a), .int p0, .int p1] : List Value).toArray below meth c H locs 0 0 (MQ below (va_Qi (fun (q : Int32) (_ : Unit) => q = y.2) (fun _ t => kE D ct ad G A y.1 t) A) ([.ref (ad a), .int p0, .int p1] : List Value).toArray s 0 0 A) (F0 m 146 ls [.int y16]) := by
              intro H locs ls hP hD hS hl
              obtain rfl := Option.some.inj hF
              exact W.iret (v := y16) hx hb hr (fun t ht hW => ⟨⟨_, (), rfl, rfl, ⟨by rw [ht]; exact hP, va_K.moved hW.alike hK, hD⟩⟩, hS.F ht⟩) hS.2.2 dX6_colourMean_146
            clear hF
            have hF := hy16
            clear hy16
            refine lv_if_eq (tgt := 131) hx hb dX6_colourMean_111 (by decide) (fun c17 => ?_) (fun c17 => ?_)
            · rw [if_pos c17] at hF
              refine lv_iload_n hx hb dX6_colourMean_131 rfl (lv_at hl 3 rfl) ?_
              obtain ⟨y18, hy18, hF⟩ := bnd_some hF
              have J18 : ∀ (H : Heap) (locs : List Loc) (ls : Array Slot), va_P D classes (wld ct ad G y12.1) H → va_D A (wld ct ad G y12.1) → va_S A s.heap H locs → lv_has ls 7 [(6, .int y12.2), (5, .int y8.2), (4, .int y4), (3, .int y2), (0, .ref (ad a)), (1, .int p0), (2, .int p1)] → W p l e (headSpec wsX6_colourMean ({ frames := 1, cells := 0, slots := 0, locals := 24 })).room s m ([.ref (ad a), .int p0, .int p1] : List Value).toArray below meth c H locs 0 0 (MQ below (va_Qi (fun (q : Int32) (_ : Unit) => q = y.2) (fun _ t => kE D ct ad G A y.1 t) A) ([.ref (ad a), .int p0, .int p1] : List Value).toArray s 0 0 A) (F0 m 142 ls [.int y18]) := by
                intro H locs ls hP hD hS hl
                refine lv_iconst (v := (2 : Int32)) hx hb dX6_colourMean_142 (by decide) ?_
                refine lv_iadd hx hb dX6_colourMean_143 ?_
                obtain ⟨x19, ex19, hF⟩ := ltt_some hF
                refine lv_topi (fun zx19 ezx19 => ?_)
                obtain rfl : x19 = zx19 := ex19.trans ezx19.symm
                refine lv_iconst (v := (2 : Int32)) hx hb dX6_colourMean_144 (by decide) ?_
                refine lv_ishr hx hb dX6_colourMean_145 ?_
                obtain ⟨x20, ex20, hF⟩ := ltt_some hF
                refine lv_topi (fun zx20 ezx20 => ?_)
                obtain rfl : x20 = zx20 := ex20.trans ezx20.symm
                obtain rfl := Option.some.inj hF
                exact J16 _ _ _ hP hD hS (lv_sub hl [0, 1, 2, 3, 4, 5, 6] rfl)
              clear hF
              have hF := hy18
              clear hy18
              refine lv_if_eq (tgt := 140) hx hb dX6_colourMean_132 (by decide) (fun c21 => ?_) (fun c21 => ?_)
              · rw [if_pos c21] at hF
                refine lv_iload hx hb dX6_colourMean_140 (lv_at hl 1 rfl) ?_
                obtain rfl := Option.some.inj hF
                exact J18 _ _ _ hP hD hS (lv_sub hl [0, 1, 2, 3, 4, 5, 6] rfl)
              · rw [if_neg c21] at hF
                refine lv_iload hx hb dX6_colourMean_135 (lv_at hl 0 rfl) ?_
                refine lv_goto (tgt := 142) hx hb dX6_colourMean_137 (by decide) ?_
                obtain rfl := Option.some.inj hF
                exact J18 _ _ _ hP hD hS (lv_sub hl [0, 1, 2, 3, 4, 5, 6] rfl)
            · rw [if_neg c17] at hF
              refine lv_iload hx hb dX6_colourMean_114 (lv_at hl 2 rfl) ?_
              obtain ⟨y22, hy22, hF⟩ := bnd_some hF
              have J22 : ∀ (H : Heap) (locs : List Loc) (ls : Array Slot), va_P D classes (wld ct ad G y12.1) H → va_D A (wld ct ad G y12.1) → va_S A s.heap H locs → lv_has ls 7 [(6, .int y12.2), (5, .int y8.2), (4, .int y4), (3, .int y2), (0, .ref (ad a)), (1, .int p0), (2, .int p1)] → W p l e (headSpec wsX6_colourMean ({ frames := 1, cells := 0, slots := 0, locals := 24 })).room s m ([.ref (ad a), .int p0, .int p1] : List Value).toArray below meth c H locs 0 0 (MQ below (va_Qi (fun (q : Int32) (_ : Unit) => q = y.2) (fun _ t => kE D ct ad G A y.1 t) A) ([.ref (ad a), .int p0, .int p1] : List Value).toArray s 0 0 A) (F0 m 146 ls [.int y22]) := by
                intro H locs ls hP hD hS hl
                obtain rfl := Option.some.inj hF
                exact J16 _ _ _ hP hD hS (lv_sub hl [0, 1, 2, 3, 4, 5, 6] rfl)
              clear hF
              have hF := hy22
              clear hy22
              refine lv_if_eq (tgt := 131) hx hb dX6_colourMean_116 (by decide) (fun c23 => ?_) (fun c23 => ?_)
              · rw [if_pos c23] at hF
                refine lv_iload_n hx hb dX6_colourMean_131 rfl (lv_at hl 3 rfl) ?_
                obtain ⟨y24, hy24, hF⟩ := bnd_some hF
                have J24 : ∀ (H : Heap) (locs : List Loc) (ls : Array Slot), va_P D classes (wld ct ad G y12.1) H → va_D A (wld ct ad G y12.1) → va_S A s.heap H locs → lv_has ls 7 [(6, .int y12.2), (5, .int y8.2), (4, .int y4), (3, .int y2), (0, .ref (ad a)), (1, .int p0), (2, .int p1)] → W p l e (headSpec wsX6_colourMean ({ frames := 1, cells := 0, slots := 0, locals := 24 })).room s m ([.ref (ad a), .int p0, .int p1] : List Value).toArray below meth c H locs 0 0 (MQ below (va_Qi (fun (q : Int32) (_ : Unit) => q = y.2) (fun _ t => kE D ct ad G A y.1 t) A) ([.ref (ad a), .int p0, .int p1] : List Value).toArray s 0 0 A) (F0 m 142 ls [.int y24]) := by
                  intro H locs ls hP hD hS hl
                  refine lv_iconst (v := (2 : Int32)) hx hb dX6_colourMean_142 (by decide) ?_
                  refine lv_iadd hx hb dX6_colourMean_143 ?_
                  obtain ⟨x25, ex25, hF⟩ := ltt_some hF
                  refine lv_topi (fun zx25 ezx25 => ?_)
                  obtain rfl : x25 = zx25 := ex25.trans ezx25.symm
                  refine lv_iconst (v := (2 : Int32)) hx hb dX6_colourMean_144 (by decide) ?_
                  refine lv_ishr hx hb dX6_colourMean_145 ?_
                  obtain ⟨x26, ex26, hF⟩ := ltt_some hF
                  refine lv_topi (fun zx26 ezx26 => ?_)
                  obtain rfl : x26 = zx26 := ex26.trans ezx26.symm
                  obtain rfl := Option.some.inj hF
                  exact J22 _ _ _ hP hD hS (lv_sub hl [0, 1, 2, 3, 4, 5, 6] rfl)
                clear hF
                have hF := hy24
                clear hy24
                refine lv_if_eq (tgt := 140) hx hb dX6_colourMean_132 (by decide) (fun c27 => ?_) (fun c27 => ?_)
                · rw [if_pos c27] at hF
                  refine lv_iload hx hb dX6_colourMean_140 (lv_at hl 1 rfl) ?_
                  obtain rfl := Option.some.inj hF
                  exact J24 _ _ _ hP hD hS (lv_sub hl [0, 1, 2, 3, 4, 5, 6] rfl)
                · rw [if_neg c27] at hF
                  refine lv_iload hx hb dX6_colourMean_135 (lv_at hl 0 rfl) ?_
                  refine lv_goto (tgt := 142) hx hb dX6_colourMean_137 (by decide) ?_
                  obtain rfl := Option.some.inj hF
                  exact J24 _ _ _ hP hD hS (lv_sub hl [0, 1, 2, 3, 4, 5, 6] rfl)
              · rw [if_neg c23] at hF
                refine lv_iload hx hb dX6_colourMean_119 (lv_at hl 1 rfl) ?_
                refine lv_iload hx hb dX6_colourMean_121 (lv_at hl 0 rfl) ?_
                refine lv_iadd hx hb dX6_colourMean_123 ?_
                obtain ⟨x28, ex28, hF⟩ := ltt_some hF
                refine lv_topi (fun zx28 ezx28 => ?_)
                obtain rfl : x28 = zx28 := ex28.trans ezx28.symm
                refine lv_iconst (v := (4 : Int32)) hx hb dX6_colourMean_124 (by decide) ?_
                refine lv_iadd hx hb dX6_colourMean_125 ?_
                obtain ⟨x29, ex29, hF⟩ := ltt_some hF
                refine lv_topi (fun zx29 ezx29 => ?_)
                obtain rfl : x29 = zx29 := ex29.trans ezx29.symm
                refine lv_iconst (v := (3 : Int32)) hx hb dX6_colourMean_126 (by decide) ?_
                refine lv_ishr hx hb dX6_colourMean_127 ?_
                obtain ⟨x30, ex30, hF⟩ := ltt_some hF
                refine lv_topi (fun zx30 ezx30 => ?_)
                obtain rfl : x30 = zx30 := ex30.trans ezx30.symm
                refine lv_goto (tgt := 146) hx hb dX6_colourMean_128 (by decide) ?_
                obtain rfl := Option.some.inj hF
                exact J22 _ _ _ hP hD hS (lv_sub hl [0, 1, 2, 3, 4, 5, 6] rfl)
          · rw [if_pos c15] at hF
            refine lv_iload_n hx hb dX6_colourMean_94 rfl (lv_at hl 3 rfl) ?_
            obtain ⟨y31, hy31, hF⟩ := bnd_some hF
            have J31 : ∀ (H : Heap) (locs : List Loc) (ls : Array Slot), va_P D classes (wld ct ad G y12.1) H → va_D A (wld ct ad G y12.1) → va_S A s.heap H locs → lv_has ls 7 [(6, .int y12.2), (5, .int y8.2), (4, .int y4), (3, .int y2), (0, .ref (ad a)), (1, .int p0), (2, .int p1)] → W p l e (headSpec wsX6_colourMean ({ frames := 1, cells := 0, slots := 0, locals := 24 })).room s m ([.ref (ad a), .int p0, .int p1] : List Value).toArray below meth c H locs 0 0 (MQ below (va_Qi (fun (q : Int32) (_ : Unit) => q = y.2) (fun _ t => kE D ct ad G A y.1 t) A) ([.ref (ad a), .int p0, .int p1] : List Value).toArray s 0 0 A) (F0 m 105 ls [.int y31]) := by
              intro H locs ls hP hD hS hl
              refine lv_iconst (v := (2 : Int32)) hx hb dX6_colourMean_105 (by decide) ?_
              refine lv_iadd hx hb dX6_colourMean_106 ?_
              obtain ⟨x32, ex32, hF⟩ := ltt_some hF
              refine lv_topi (fun zx32 ezx32 => ?_)
              obtain rfl : x32 = zx32 := ex32.trans ezx32.symm
              refine lv_iconst (v := (2 : Int32)) hx hb dX6_colourMean_107 (by decide) ?_
              refine lv_ishr hx hb dX6_colourMean_108 ?_
              obtain ⟨x33, ex33, hF⟩ := ltt_some hF
              refine lv_topi (fun zx33 ezx33 => ?_)
              obtain rfl : x33 = zx33 := ex33.trans ezx33.symm
              obtain rfl := Option.some.inj hF
              exact W.iret (v := x33) hx hb hr (fun t ht hW => ⟨⟨_, (), rfl, rfl, ⟨by rw [ht]; exact hP, va_K.moved hW.alike hK, hD⟩⟩, hS.F ht⟩) hS.2.2 dX6_colourMean_109
            clear hF
            have hF := hy31
            clear hy31
            refine lv_if_eq (tgt := 103) hx hb dX6_colourMean_95 (by decide) (fun c34 => ?_) (fun c34 => ?_)
            · rw [if_pos c34] at hF
              refine lv_iload hx hb dX6_colourMean_103 (lv_at hl 1 rfl) ?_
              obtain rfl := Option.some.inj hF
              exact J31 _ _ _ hP hD hS (lv_sub hl [0, 1, 2, 3, 4, 5, 6] rfl)
            · rw [if_neg c34] at hF
              refine lv_iload hx hb dX6_colourMean_98 (lv_at hl 0 rfl) ?_
              refine lv_goto (tgt := 105) hx hb dX6_colourMean_100 (by decide) ?_
              obtain rfl := Option.some.inj hF
              exact J31 _ _ _ hP hD hS (lv_sub hl [0, 1, 2, 3, 4, 5, 6] rfl)
        · rw [if_pos c14] at hF
          refine lv_iload hx hb dX6_colourMean_72 (lv_at hl 2 rfl) ?_
          obtain ⟨y35, hy35, hF⟩ := bnd_some hF
          have J35 : ∀ (H : Heap) (locs : List Loc) (ls : Array Slot), va_P D classes (wld ct ad G y12.1) H → va_D A (wld ct ad G y12.1) → va_S A s.heap H locs → lv_has ls 7 [(6, .int y12.2), (5, .int y8.2), (4, .int y4), (3, .int y2), (0, .ref (ad a)), (1, .int p0), (2, .int p1)] → W p l e (headSpec wsX6_colourMean ({ frames := 1, cells := 0, slots := 0, locals := 24 })).room s m ([.ref (ad a), .int p0, .int p1] : List Value).toArray below meth c H locs 0 0 (MQ below (va_Qi (fun (q : Int32) (_ : Unit) => q = y.2) (fun _ t => kE D ct ad G A y.1 t) A) ([.ref (ad a), .int p0, .int p1] : List Value).toArray s 0 0 A) (F0 m 84 ls [.int y35]) := by
            intro H locs ls hP hD hS hl
            refine lv_iconst (v := (2 : Int32)) hx hb dX6_colourMean_84 (by decide) ?_
            refine lv_iadd hx hb dX6_colourMean_85 ?_
            obtain ⟨x36, ex36, hF⟩ := ltt_some hF
            refine lv_topi (fun zx36 ezx36 => ?_)
            obtain rfl : x36 = zx36 := ex36.trans ezx36.symm
            refine lv_iconst (v := (2 : Int32)) hx hb dX6_colourMean_86 (by decide) ?_
            refine lv_ishr hx hb dX6_colourMean_87 ?_
            obtain ⟨x37, ex37, hF⟩ := ltt_some hF
            refine lv_topi (fun zx37 ezx37 => ?_)
            obtain rfl : x37 = zx37 := ex37.trans ezx37.symm
            obtain rfl := Option.some.inj hF
            exact W.iret (v := x37) hx hb hr (fun t ht hW => ⟨⟨_, (), rfl, rfl, ⟨by rw [ht]; exact hP, va_K.moved hW.alike hK, hD⟩⟩, hS.F ht⟩) hS.2.2 dX6_colourMean_88
          clear hF
          have hF := hy35
          clear hy35
          refine lv_if_eq (tgt := 82) hx hb dX6_colourMean_74 (by decide) (fun c38 => ?_) (fun c38 => ?_)
          · rw [if_pos c38] at hF
            refine lv_iload hx hb dX6_colourMean_82 (lv_at hl 0 rfl) ?_
            obtain rfl := Option.some.inj hF
            exact J35 _ _ _ hP hD hS (lv_sub hl [0, 1, 2, 3, 4, 5, 6] rfl)
          · rw [if_neg c38] at hF
            refine lv_iload hx hb dX6_colourMean_77 (lv_at hl 1 rfl) ?_
            refine lv_goto (tgt := 84) hx hb dX6_colourMean_79 (by decide) ?_
            obtain rfl := Option.some.inj hF
            exact J35 _ _ _ hP hD hS (lv_sub hl [0, 1, 2, 3, 4, 5, 6] rfl)
      · rw [if_pos c13] at hF
        refine lv_iload hx hb dX6_colourMean_58 (lv_at hl 2 rfl) ?_
        refine lv_if_ne (tgt := 67) hx hb dX6_colourMean_60 (by decide) (fun c39 => ?_) (fun c39 => ?_)
        · rw [if_neg c39] at hF
          refine lv_iload_n hx hb dX6_colourMean_67 rfl (lv_at hl 5 rfl) ?_
          refine lv_iconst (v := (1 : Int32)) hx hb dX6_colourMean_68 (by decide) ?_
          refine lv_icmp_ne (tgt := 89) hx hb dX6_colourMean_69 (by decide) (fun c40 => ?_) (fun c40 => ?_)
          · rw [if_neg c40] at hF
            refine lv_iload_n hx hb dX6_colourMean_89 rfl (lv_at hl 5 rfl) ?_
            refine lv_iconst (v := (2 : Int32)) hx hb dX6_colourMean_90 (by decide) ?_
            refine lv_icmp_ne (tgt := 110) hx hb dX6_colourMean_91 (by decide) (fun c41 => ?_) (fun c41 => ?_)
            · rw [if_neg c41] at hF
              refine lv_iload_n hx hb dX6_colourMean_110 rfl (lv_at hl 3 rfl) ?_
              obtain ⟨y42, hy42, hF⟩ := bnd_some hF
              have J42 : ∀ (H : Heap) (locs : List Loc) (ls : Array Slot), va_P D classes (wld ct ad G y12.1) H → va_D A (wld ct ad G y12.1) → va_S A s.heap H locs → lv_has ls 7 [(6, .int y12.2), (5, .int y8.2), (4, .int y4), (3, .int y2), (0, .ref (ad a)), (1, .int p0), (2, .int p1)] → W p l e (headSpec wsX6_colourMean ({ frames := 1, cells := 0, slots := 0, locals := 24 })).room s m ([.ref (ad a), .int p0, .int p1] : List Value).toArray below meth c H locs 0 0 (MQ below (va_Qi (fun (q : Int32) (_ : Unit) => q = y.2) (fun _ t => kE D ct ad G A y.1 t) A) ([.ref (ad a), .int p0, .int p1] : List Value).toArray s 0 0 A) (F0 m 146 ls [.int y42]) := by
                intro H locs ls hP hD hS hl
                obtain rfl := Option.some.inj hF
                exact W.iret (v := y42) hx hb hr (fun t ht hW => ⟨⟨_, (), rfl, rfl, ⟨by rw [ht]; exact hP, va_K.moved hW.alike hK, hD⟩⟩, hS.F ht⟩) hS.2.2 dX6_colourMean_146
              clear hF
              have hF := hy42
              clear hy42
              refine lv_if_eq (tgt := 131) hx hb dX6_colourMean_111 (by decide) (fun c43 => ?_) (fun c43 => ?_)
              · rw [if_pos c43] at hF
                refine lv_iload_n hx hb dX6_colourMean_131 rfl (lv_at hl 3 rfl) ?_
                obtain ⟨y44, hy44, hF⟩ := bnd_some hF
                have J44 : ∀ (H : Heap) (locs : List Loc) (ls : Array Slot), va_P D classes (wld ct ad G y12.1) H → va_D A (wld ct ad G y12.1) → va_S A s.heap H locs → lv_has ls 7 [(6, .int y12.2), (5, .int y8.2), (4, .int y4), (3, .int y2), (0, .ref (ad a)), (1, .int p0), (2, .int p1)] → W p l e (headSpec wsX6_colourMean ({ frames := 1, cells := 0, slots := 0, locals := 24 })).room s m ([.ref (ad a), .int p0, .int p1] : List Value).toArray below meth c H locs 0 0 (MQ below (va_Qi (fun (q : Int32) (_ : Unit) => q = y.2) (fun _ t => kE D ct ad G A y.1 t) A) ([.ref (ad a), .int p0, .int p1] : List Value).toArray s 0 0 A) (F0 m 142 ls [.int y44]) := by
                  intro H locs ls hP hD hS hl
                  refine lv_iconst (v := (2 : Int32)) hx hb dX6_colourMean_142 (by decide) ?_
                  refine lv_iadd hx hb dX6_colourMean_143 ?_
                  obtain ⟨x45, ex45, hF⟩ := ltt_some hF
                  refine lv_topi (fun zx45 ezx45 => ?_)
                  obtain rfl : x45 = zx45 := ex45.trans ezx45.symm
                  refine lv_iconst (v := (2 : Int32)) hx hb dX6_colourMean_144 (by decide) ?_
                  refine lv_ishr hx hb dX6_colourMean_145 ?_
                  obtain ⟨x46, ex46, hF⟩ := ltt_some hF
                  refine lv_topi (fun zx46 ezx46 => ?_)
                  obtain rfl : x46 = zx46 := ex46.trans ezx46.symm
                  obtain rfl := Option.some.inj hF
                  exact J42 _ _ _ hP hD hS (lv_sub hl [0, 1, 2, 3, 4, 5, 6] rfl)
                clear hF
                have hF := hy44
                clear hy44
                refine lv_if_eq (tgt := 140) hx hb dX6_colourMean_132 (by decide) (fun c47 => ?_) (fun c47 => ?_)
                · rw [if_pos c47] at hF
                  refine lv_iload hx hb dX6_colourMean_140 (lv_at hl 1 rfl) ?_
                  obtain rfl := Option.some.inj hF
                  exact J44 _ _ _ hP hD hS (lv_sub hl [0, 1, 2, 3, 4, 5, 6] rfl)
                · rw [if_neg c47] at hF
                  refine lv_iload hx hb dX6_colourMean_135 (lv_at hl 0 rfl) ?_
                  refine lv_goto (tgt := 142) hx hb dX6_colourMean_137 (by decide) ?_
                  obtain rfl := Option.some.inj hF
                  exact J44 _ _ _ hP hD hS (lv_sub hl [0, 1, 2, 3, 4, 5, 6] rfl)
              · rw [if_neg c43] at hF
                refine lv_iload hx hb dX6_colourMean_114 (lv_at hl 2 rfl) ?_
                obtain ⟨y48, hy48, hF⟩ := bnd_some hF
                have J48 : ∀ (H : Heap) (locs : List Loc) (ls : Array Slot), va_P D classes (wld ct ad G y12.1) H → va_D A (wld ct ad G y12.1) → va_S A s.heap H locs → lv_has ls 7 [(6, .int y12.2), (5, .int y8.2), (4, .int y4), (3, .int y2), (0, .ref (ad a)), (1, .int p0), (2, .int p1)] → W p l e (headSpec wsX6_colourMean ({ frames := 1, cells := 0, slots := 0, locals := 24 })).room s m ([.ref (ad a), .int p0, .int p1] : List Value).toArray below meth c H locs 0 0 (MQ below (va_Qi (fun (q : Int32) (_ : Unit) => q = y.2) (fun _ t => kE D ct ad G A y.1 t) A) ([.ref (ad a), .int p0, .int p1] : List Value).toArray s 0 0 A) (F0 m 146 ls [.int y48]) := by
                  intro H locs ls hP hD hS hl
                  obtain rfl := Option.some.inj hF
                  exact J42 _ _ _ hP hD hS (lv_sub hl [0, 1, 2, 3, 4, 5, 6] rfl)
                clear hF
                have hF := hy48
                clear hy48
                refine lv_if_eq (tgt := 131) hx hb dX6_colourMean_116 (by decide) (fun c49 => ?_) (fun c49 => ?_)
                · rw [if_pos c49] at hF
                  refine lv_iload_n hx hb dX6_colourMean_131 rfl (lv_at hl 3 rfl) ?_
                  obtain ⟨y50, hy50, hF⟩ := bnd_some hF
                  have J50 : ∀ (H : Heap) (locs : List Loc) (ls : Array Slot), va_P D classes (wld ct ad G y12.1) H → va_D A (wld ct ad G y12.1) → va_S A s.heap H locs → lv_has ls 7 [(6, .int y12.2), (5, .int y8.2), (4, .int y4), (3, .int y2), (0, .ref (ad a)), (1, .int p0), (2, .int p1)] → W p l e (headSpec wsX6_colourMean ({ frames := 1, cells := 0, slots := 0, locals := 24 })).room s m ([.ref (ad a), .int p0, .int p1] : List Value).toArray below meth c H locs 0 0 (MQ below (va_Qi (fun (q : Int32) (_ : Unit) => q = y.2) (fun _ t => kE D ct ad G A y.1 t) A) ([.ref (ad a), .int p0, .int p1] : List Value).toArray s 0 0 A) (F0 m 142 ls [.int y50]) := by
                    intro H locs ls hP hD hS hl
                    refine lv_iconst (v := (2 : Int32)) hx hb dX6_colourMean_142 (by decide) ?_
                    refine lv_iadd hx hb dX6_colourMean_143 ?_
                    obtain ⟨x51, ex51, hF⟩ := ltt_some hF
                    refine lv_topi (fun zx51 ezx51 => ?_)
                    obtain rfl : x51 = zx51 := ex51.trans ezx51.symm
                    refine lv_iconst (v := (2 : Int32)) hx hb dX6_colourMean_144 (by decide) ?_
                    refine lv_ishr hx hb dX6_colourMean_145 ?_
                    obtain ⟨x52, ex52, hF⟩ := ltt_some hF
                    refine lv_topi (fun zx52 ezx52 => ?_)
                    obtain rfl : x52 = zx52 := ex52.trans ezx52.symm
                    obtain rfl := Option.some.inj hF
                    exact J48 _ _ _ hP hD hS (lv_sub hl [0, 1, 2, 3, 4, 5, 6] rfl)
                  clear hF
                  have hF := hy50
                  clear hy50
                  refine lv_if_eq (tgt := 140) hx hb dX6_colourMean_132 (by decide) (fun c53 => ?_) (fun c53 => ?_)
                  · rw [if_pos c53] at hF
                    refine lv_iload hx hb dX6_colourMean_140 (lv_at hl 1 rfl) ?_
                    obtain rfl := Option.some.inj hF
                    exact J50 _ _ _ hP hD hS (lv_sub hl [0, 1, 2, 3, 4, 5, 6] rfl)
                  · rw [if_neg c53] at hF
                    refine lv_iload hx hb dX6_colourMean_135 (lv_at hl 0 rfl) ?_
                    refine lv_goto (tgt := 142) hx hb dX6_colourMean_137 (by decide) ?_
                    obtain rfl := Option.some.inj hF
                    exact J50 _ _ _ hP hD hS (lv_sub hl [0, 1, 2, 3, 4, 5, 6] rfl)
                · rw [if_neg c49] at hF
                  refine lv_iload hx hb dX6_colourMean_119 (lv_at hl 1 rfl) ?_
                  refine lv_iload hx hb dX6_colourMean_121 (lv_at hl 0 rfl) ?_
                  refine lv_iadd hx hb dX6_colourMean_123 ?_
                  obtain ⟨x54, ex54, hF⟩ := ltt_some hF
                  refine lv_topi (fun zx54 ezx54 => ?_)
                  obtain rfl : x54 = zx54 := ex54.trans ezx54.symm
                  refine lv_iconst (v := (4 : Int32)) hx hb dX6_colourMean_124 (by decide) ?_
                  refine lv_iadd hx hb dX6_colourMean_125 ?_
                  obtain ⟨x55, ex55, hF⟩ := ltt_some hF
                  refine lv_topi (fun zx55 ezx55 => ?_)
                  obtain rfl : x55 = zx55 := ex55.trans ezx55.symm
                  refine lv_iconst (v := (3 : Int32)) hx hb dX6_colourMean_126 (by decide) ?_
                  refine lv_ishr hx hb dX6_colourMean_127 ?_
                  obtain ⟨x56, ex56, hF⟩ := ltt_some hF
                  refine lv_topi (fun zx56 ezx56 => ?_)
                  obtain rfl : x56 = zx56 := ex56.trans ezx56.symm
                  refine lv_goto (tgt := 146) hx hb dX6_colourMean_128 (by decide) ?_
                  obtain rfl := Option.some.inj hF
                  exact J48 _ _ _ hP hD hS (lv_sub hl [0, 1, 2, 3, 4, 5, 6] rfl)
            · rw [if_pos c41] at hF
              refine lv_iload_n hx hb dX6_colourMean_94 rfl (lv_at hl 3 rfl) ?_
              obtain ⟨y57, hy57, hF⟩ := bnd_some hF
              have J57 : ∀ (H : Heap) (locs : List Loc) (ls : Array Slot), va_P D classes (wld ct ad G y12.1) H → va_D A (wld ct ad G y12.1) → va_S A s.heap H locs → lv_has ls 7 [(6, .int y12.2), (5, .int y8.2), (4, .int y4), (3, .int y2), (0, .ref (ad a)), (1, .int p0), (2, .int p1)] → W p l e (headSpec wsX6_colourMean ({ frames := 1, cells := 0, slots := 0, locals := 24 })).room s m ([.ref (ad a), .int p0, .int p1] : List Value).toArray below meth c H locs 0 0 (MQ below (va_Qi (fun (q : Int32) (_ : Unit) => q = y.2) (fun _ t => kE D ct ad G A y.1 t) A) ([.ref (ad a), .int p0, .int p1] : List Value).toArray s 0 0 A) (F0 m 105 ls [.int y57]) := by
                intro H locs ls hP hD hS hl
                refine lv_iconst (v := (2 : Int32)) hx hb dX6_colourMean_105 (by decide) ?_
                refine lv_iadd hx hb dX6_colourMean_106 ?_
                obtain ⟨x58, ex58, hF⟩ := ltt_some hF
                refine lv_topi (fun zx58 ezx58 => ?_)
                obtain rfl : x58 = zx58 := ex58.trans ezx58.symm
                refine lv_iconst (v := (2 : Int32)) hx hb dX6_colourMean_107 (by decide) ?_
                refine lv_ishr hx hb dX6_colourMean_108 ?_
                obtain ⟨x59, ex59, hF⟩ := ltt_some hF
                refine lv_topi (fun zx59 ezx59 => ?_)
                obtain rfl : x59 = zx59 := ex59.trans ezx59.symm
                obtain rfl := Option.some.inj hF
                exact W.iret (v := x59) hx hb hr (fun t ht hW => ⟨⟨_, (), rfl, rfl, ⟨by rw [ht]; exact hP, va_K.moved hW.alike hK, hD⟩⟩, hS.F ht⟩) hS.2.2 dX6_colourMean_109
              clear hF
              have hF := hy57
              clear hy57
              refine lv_if_eq (tgt := 103) hx hb dX6_colourMean_95 (by decide) (fun c60 => ?_) (fun c60 => ?_)
              · rw [if_pos c60] at hF
                refine lv_iload hx hb dX6_colourMean_103 (lv_at hl 1 rfl) ?_
                obtain rfl := Option.some.inj hF
                exact J57 _ _ _ hP hD hS (lv_sub hl [0, 1, 2, 3, 4, 5, 6] rfl)
              · rw [if_neg c60] at hF
                refine lv_iload hx hb dX6_colourMean_98 (lv_at hl 0 rfl) ?_
                refine lv_goto (tgt := 105) hx hb dX6_colourMean_100 (by decide) ?_
                obtain rfl := Option.some.inj hF
                exact J57 _ _ _ hP hD hS (lv_sub hl [0, 1, 2, 3, 4, 5, 6] rfl)
          · rw [if_pos c40] at hF
            refine lv_iload hx hb dX6_colourMean_72 (lv_at hl 2 rfl) ?_
            obtain ⟨y61, hy61, hF⟩ := bnd_some hF
            have J61 : ∀ (H : Heap) (locs : List Loc) (ls : Array Slot), va_P D classes (wld ct ad G y12.1) H → va_D A (wld ct ad G y12.1) → va_S A s.heap H locs → lv_has ls 7 [(6, .int y12.2), (5, .int y8.2), (4, .int y4), (3, .int y2), (0, .ref (ad a)), (1, .int p0), (2, .int p1)] → W p l e (headSpec wsX6_colourMean ({ frames := 1, cells := 0, slots := 0, locals := 24 })).room s m ([.ref (ad a), .int p0, .int p1] : List Value).toArray below meth c H locs 0 0 (MQ below (va_Qi (fun (q : Int32) (_ : Unit) => q = y.2) (fun _ t => kE D ct ad G A y.1 t) A) ([.ref (ad a), .int p0, .int p1] : List Value).toArray s 0 0 A) (F0 m 84 ls [.int y61]) := by
              intro H locs ls hP hD hS hl
              refine lv_iconst (v := (2 : Int32)) hx hb dX6_colourMean_84 (by decide) ?_
              refine lv_iadd hx hb dX6_colourMean_85 ?_
              obtain ⟨x62, ex62, hF⟩ := ltt_some hF
              refine lv_topi (fun zx62 ezx62 => ?_)
              obtain rfl : x62 = zx62 := ex62.trans ezx62.symm
              refine lv_iconst (v := (2 : Int32)) hx hb dX6_colourMean_86 (by decide) ?_
              refine lv_ishr hx hb dX6_colourMean_87 ?_
              obtain ⟨x63, ex63, hF⟩ := ltt_some hF
              refine lv_topi (fun zx63 ezx63 => ?_)
              obtain rfl : x63 = zx63 := ex63.trans ezx63.symm
              obtain rfl := Option.some.inj hF
              exact W.iret (v := x63) hx hb hr (fun t ht hW => ⟨⟨_, (), rfl, rfl, ⟨by rw [ht]; exact hP, va_K.moved hW.alike hK, hD⟩⟩, hS.F ht⟩) hS.2.2 dX6_colourMean_88
            clear hF
            have hF := hy61
            clear hy61
            refine lv_if_eq (tgt := 82) hx hb dX6_colourMean_74 (by decide) (fun c64 => ?_) (fun c64 => ?_)
            · rw [if_pos c64] at hF
              refine lv_iload hx hb dX6_colourMean_82 (lv_at hl 0 rfl) ?_
              obtain rfl := Option.some.inj hF
              exact J61 _ _ _ hP hD hS (lv_sub hl [0, 1, 2, 3, 4, 5, 6] rfl)
            · rw [if_neg c64] at hF
              refine lv_iload hx hb dX6_colourMean_77 (lv_at hl 1 rfl) ?_
              refine lv_goto (tgt := 84) hx hb dX6_colourMean_79 (by decide) ?_
              obtain rfl := Option.some.inj hF
              exact J61 _ _ _ hP hD hS (lv_sub hl [0, 1, 2, 3, 4, 5, 6] rfl)
        · rw [if_pos c39] at hF
          refine lv_sipush (v := (128 : Int32)) hx hb dX6_colourMean_63 (by decide) ?_
          obtain rfl := Option.some.inj hF
          exact W.iret (v := (128 : Int32)) hx hb hr (fun t ht hW => ⟨⟨_, (), rfl, rfl, ⟨by rw [ht]; exact hP, va_K.moved hW.alike hK, hD⟩⟩, hS.F ht⟩) hS.2.2 dX6_colourMean_66
    clear hF
    have hF := hy4
    clear hy4
    refine lv_if_eq (tgt := 22) hx hb dX6_colourMean_15 (by decide) (fun c65 => ?_) (fun c65 => ?_)
    · rw [if_pos c65] at hF
      refine lv_iconst (v := (0 : Int32)) hx hb dX6_colourMean_22 (by decide) ?_
      obtain rfl := Option.some.inj hF
      exact J4 _ _ _ hP hD hS (lv_sub hl [0, 1, 2, 3] rfl)
    · rw [if_neg c65] at hF
      refine lv_iconst (v := (1 : Int32)) hx hb dX6_colourMean_18 (by decide) ?_
      refine lv_goto (tgt := 23) hx hb dX6_colourMean_19 (by decide) ?_
      obtain rfl := Option.some.inj hF
      exact J4 _ _ _ hP hD hS (lv_sub hl [0, 1, 2, 3] rfl)
  clear hF
  have hF := hy2
  clear hy2
  refine lv_if_eq (tgt := 10) hx hb dX6_colourMean_3 (by decide) (fun c66 => ?_) (fun c66 => ?_)
  · rw [if_pos c66] at hF
    refine lv_iconst (v := (0 : Int32)) hx hb dX6_colourMean_10 (by decide) ?_
    obtain rfl := Option.some.inj hF
    exact J2 _ _ _ hP hD hS (lv_sub hl [0, 1, 2] rfl)
  · rw [if_neg c66] at hF
    refine lv_iconst (v := (1 : Int32)) hx hb dX6_colourMean_6 (by decide) ?_
    refine lv_goto (tgt := 11) hx hb dX6_colourMean_7 (by decide) ?_
    obtain rfl := Option.some.inj hF
    exact J2 _ _ _ hP hD hS (lv_sub hl [0, 1, 2] rfl)
theorem ggX6_differences_X9_pieceX : GoodIn wsX6_differences wsX9_pieceX := goodIn_r _ [6] (by decide +kernel) (by decide +kernel)
set_option maxRecDepth 20000 in
theorem gX6_differences_X9_pieceX : GoodIn wsX6_differences (va_wsS RX6 76 yX9_pieceX wsX9_pieceX) := goodIn_app (goodIn_of _ (by decide +kernel)) ggX6_differences_X9_pieceX
set_option maxRecDepth 20000 in
theorem ggX6_differences_X9_pieceY : GoodIn wsX6_differences wsX9_pieceY := goodIn_r _ [9] (by decide +kernel) (by decide +kernel)
set_option maxRecDepth 20000 in
theorem gX6_differences_X9_pieceY : GoodIn wsX6_differences (va_wsS RX6 80 yX9_pieceY wsX9_pieceY) := goodIn_app (goodIn_of _ (by decide +kernel)) ggX6_differences_X9_pieceY
set_option maxRecDepth 20000 in
theorem ggX6_differences_X6_lumaAt : GoodIn wsX6_differences wsX6_lumaAt := goodIn_r _ [13, 14, 49, 50, 51, 52, 53, 54, 55, 56, 57, 58, 59, 60, 61, 62, 63, 64, 65, 66] (by decide +kernel) (by decide +kernel)
set_option maxRecDepth 20000 in
theorem gX6_differences_X6_lumaAt : GoodIn wsX6_differences (va_wsS RX6 175 yX6_lumaAt wsX6_lumaAt) := goodIn_app (goodIn_of _ (by decide +kernel)) ggX6_differences_X6_lumaAt
theorem dX6_differences_0 : decode cX6_differences 0 = .ok (.iload 4, 2) := by decide +kernel
theorem dX6_differences_2 : decode cX6_differences 2 = .ok (.invokestatic 76, 3) := by decide +kernel
theorem dX6_differences_5 : decode cX6_differences 5 = .ok (.istore 6, 2) := by decide +kernel
theorem dX6_differences_7 : decode cX6_differences 7 = .ok (.iload 4, 2) := by decide +kernel
theorem dX6_differences_9 : decode cX6_differences 9 = .ok (.invokestatic 80, 3) := by decide +kernel
theorem dX6_differences_12 : decode cX6_differences 12 = .ok (.istore 7, 2) := by decide +kernel
theorem dX6_differences_14 : decode cX6_differences 14 = .ok (.iconst 0, 1) := by decide +kernel
theorem dX6_differences_15 : decode cX6_differences 15 = .ok (.istore 8, 2) := by decide +kernel
theorem dX6_differences_17 : decode cX6_differences 17 = .ok (.iconst 0, 1) := by decide +kernel
theorem dX6_differences_18 : decode cX6_differences 18 = .ok (.istore 9, 2) := by decide +kernel
theorem dX6_differences_20 : decode cX6_differences 20 = .ok (.iload 9, 2) := by decide +kernel
theorem dX6_differences_22 : decode cX6_differences 22 = .ok (.iload 5, 2) := by decide +kernel
theorem dX6_differences_24 : decode cX6_differences 24 = .ok (.if_icmp .ge 89, 3) := by decide +kernel
theorem dX6_differences_27 : decode cX6_differences 27 = .ok (.aload_n 1, 1) := by decide +kernel
theorem dX6_differences_28 : decode cX6_differences 28 = .ok (.getfield 46, 3) := by decide +kernel
theorem dX6_differences_31 : decode cX6_differences 31 = .ok (.iload_n 3, 1) := by decide +kernel
theorem dX6_differences_32 : decode cX6_differences 32 = .ok (.iload 6, 2) := by decide +kernel
theorem dX6_differences_34 : decode cX6_differences 34 = .ok (.iload 7, 2) := by decide +kernel
theorem dX6_differences_36 : decode cX6_differences 36 = .ok (.iload 9, 2) := by decide +kernel
theorem dX6_differences_38 : decode cX6_differences 38 = .ok (.iadd, 1) := by decide +kernel
theorem dX6_differences_39 : decode cX6_differences 39 = .ok (.invokestatic 175, 3) := by decide +kernel
theorem dX6_differences_42 : decode cX6_differences 42 = .ok (.istore 10, 2) := by decide +kernel
theorem dX6_differences_44 : decode cX6_differences 44 = .ok (.iconst 0, 1) := by decide +kernel
theorem dX6_differences_45 : decode cX6_differences 45 = .ok (.istore 11, 2) := by decide +kernel
theorem dX6_differences_47 : decode cX6_differences 47 = .ok (.iload 11, 2) := by decide +kernel
theorem dX6_differences_49 : decode cX6_differences 49 = .ok (.iload 5, 2) := by decide +kernel
theorem dX6_differences_51 : decode cX6_differences 51 = .ok (.if_icmp .ge 56, 3) := by decide +kernel
theorem dX6_differences_54 : decode cX6_differences 54 = .ok (.aload_n 2, 1) := by decide +kernel
theorem dX6_differences_55 : decode cX6_differences 55 = .ok (.iload 10, 2) := by decide +kernel
theorem dX6_differences_57 : decode cX6_differences 57 = .ok (.iload 11, 2) := by decide +kernel
theorem dX6_differences_59 : decode cX6_differences 59 = .ok (.iadd, 1) := by decide +kernel
theorem dX6_differences_60 : decode cX6_differences 60 = .ok (.iaload, 1) := by decide +kernel
theorem dX6_differences_61 : decode cX6_differences 61 = .ok (.aload_n 0, 1) := by decide +kernel
theorem dX6_differences_62 : decode cX6_differences 62 = .ok (.getfield 9, 3) := by decide +kernel
theorem dX6_differences_65 : decode cX6_differences 65 = .ok (.bipush 16, 2) := by decide +kernel
theorem dX6_differences_67 : decode cX6_differences 67 = .ok (.iload 7, 2) := by decide +kernel
theorem dX6_differences_69 : decode cX6_differences 69 = .ok (.iload 9, 2) := by decide +kernel
theorem dX6_differences_71 : decode cX6_differences 71 = .ok (.iadd, 1) := by decide +kernel
theorem dX6_differences_72 : decode cX6_differences 72 = .ok (.imul, 1) := by decide +kernel
theorem dX6_differences_73 : decode cX6_differences 73 = .ok (.iload 6, 2) := by decide +kernel
theorem dX6_differences_75 : decode cX6_differences 75 = .ok (.iadd, 1) := by decide +kernel
theorem dX6_differences_76 : decode cX6_differences 76 = .ok (.iload 11, 2) := by decide +kernel
theorem dX6_differences_78 : decode cX6_differences 78 = .ok (.iadd, 1) := by decide +kernel
theorem dX6_differences_79 : decode cX6_differences 79 = .ok (.iaload, 1) := by decide +kernel
theorem dX6_differences_80 : decode cX6_differences 80 = .ok (.isub, 1) := by decide +kernel
theorem dX6_differences_81 : decode cX6_differences 81 = .ok (.istore 12, 2) := by decide +kernel
theorem dX6_differences_83 : decode cX6_differences 83 = .ok (.iload 8, 2) := by decide +kernel
theorem dX6_differences_85 : decode cX6_differences 85 = .ok (.iload 12, 2) := by decide +kernel
theorem dX6_differences_87 : decode cX6_differences 87 = .ok (.ifCond .ge 9, 3) := by decide +kernel
theorem dX6_differences_90 : decode cX6_differences 90 = .ok (.iload 12, 2) := by decide +kernel
theorem dX6_differences_92 : decode cX6_differences 92 = .ok (.ineg, 1) := by decide +kernel
theorem dX6_differences_93 : decode cX6_differences 93 = .ok (.goto 5, 3) := by decide +kernel
theorem dX6_differences_96 : decode cX6_differences 96 = .ok (.iload 12, 2) := by decide +kernel
theorem dX6_differences_98 : decode cX6_differences 98 = .ok (.iadd, 1) := by decide +kernel
theorem dX6_differences_99 : decode cX6_differences 99 = .ok (.istore 8, 2) := by decide +kernel
theorem dX6_differences_101 : decode cX6_differences 101 = .ok (.iinc 11 1, 3) := by decide +kernel
theorem dX6_differences_104 : decode cX6_differences 104 = .ok (.goto (-57), 3) := by decide +kernel
theorem dX6_differences_107 : decode cX6_differences 107 = .ok (.iinc 9 1, 3) := by decide +kernel
theorem dX6_differences_110 : decode cX6_differences 110 = .ok (.goto (-90), 3) := by decide +kernel
theorem dX6_differences_113 : decode cX6_differences 113 = .ok (.iload 8, 2) := by decide +kernel
theorem dX6_differences_115 : decode cX6_differences 115 = .ok (.ireturn, 1) := by decide +kernel
def FX6_differences (G : GG) (M : DD) (a : Nat) (p0 : Option Nat) (p1 : Option Nat) (p2 : Int32) (p3 : Int32) (p4 : Int32) : Option (DD × Int32) :=
  bnd (FX9_pieceX G M p3) fun y1 =>
  bnd (FX9_pieceY G y1.1 p3) fun y2 =>
  bnd (itr (fun (s4 : Int32 × Int32 × DD) => ((if p4 ≤ s4.2.1 then (some (.inr (s4.1, s4.2.1, s4.2.2))) else
  (dr G 9 p0 fun b8 =>
  ltt ((y2.2 + s4.2.1)) fun x9 =>
  bnd (FX6_lumaAt G s4.2.2 ((s4.2.2.2 b8 0)) p2 y1.2 x9) fun y10 =>
  bnd (itr (fun (s12 : Int32 × Int32) => ((if p4 ≤ s12.2 then (some (.inr (s12.1, s12.2))) else
  (ltt ((y10.2 + s12.2)) fun x17 =>
  dr G 13 p1 fun b18 =>
  chk (¬ (x17 < 0 ∨ G.2.2 b18 ≤ x17.toNatClampNeg)) <|
  ltt (y10.1.1 b18 x17.toNatClampNeg) fun x19 =>
  ltt ((y2.2 + s4.2.1)) fun x20 =>
  ltt ((((16 : Int32)) * x20)) fun x21 =>
  ltt ((x21 + y1.2)) fun x22 =>
  ltt ((x22 + s12.2)) fun x23 =>
  dr G 13 ((y10.1.2 a 0)) fun b24 =>
  chk (¬ (x23 < 0 ∨ G.2.2 b24 ≤ x23.toNatClampNeg)) <|
  ltt (y10.1.1 b24 x23.toNatClampNeg) fun x25 =>
  ltt ((x19 - x25)) fun x26 =>
  bnd (if ((0 : Int32)) ≤ x26 then (some (x26)) else
  (ltt (-x26) fun x31 =>
  some (x31))) fun (y27 : Int32) =>
  ltt ((s12.1 + y27)) fun x28 =>
  ltt (s12.2 + (1 : Int32)) fun x29 =>
  some (.inl (x28, x29)))) : Option ((Int32 × Int32) ⊕ (Int32 × Int32)))) 1000000 (s4.1, (0 : Int32))) fun (y11 : Int32 × Int32) =>
  ltt (s4.2.1 + (1 : Int32)) fun x14 =>
  some (.inl (y11.1, x14, y10.1)))) : Option ((Int32 × Int32 × DD) ⊕ (Int32 × Int32 × DD)))) 1000000 ((0 : Int32), (0 : Int32), y2.1)) fun (y3 : Int32 × Int32 × DD) =>
  some (y3.2.2, y3.1)
set_option maxHeartbeats 4000000 in
set_option maxRecDepth 100000 in
theorem kX6_differences (l : Launch) (D : va_G) (ct : CT) (ad : Nat → Nat) (Z : Nat → Nat) (G : GG) (M : DD) (sz : Nat) (a : Nat) (p0 : Option Nat) (p1 : Option Nat) (p2 : Int32) (p3 : Int32) (p4 : Int32) (y : DD × Int32) (hc : a < G.1) (hk : G.2.1 a = 6) (hF : FX6_differences G M a p0 p1 p2 p3 p4 = some y) : Met l yX6_differences wsX6_differences ({ frames := 1, cells := 0, slots := 0, locals := 23 }) (va_Pc [.ref (ad a), va_re ad p0, va_re ad p1, .int p2, .int p3, .int p4] (kB D ct ad Z G M sz)) (va_Qi (fun (q : Int32) (_ : Unit) => q = y.2) (fun _ t => kE D ct ad G (wA ad G sz) y.1 t) (wA ad G sz)) 0 0 (wA ad G sz) := by
  refine Met.ofW (cc := cX6_differences) (maxL := 13) (ret := (some .int)) (by decide) rfl ?_
  intro p e s m args below meth c s₁ B hml hv
  obtain ⟨rfl, hsz, hP, hK, hD0, hZ, hN⟩ := hv
  have hx := B.exec
  have hb := B.bytes
  have hr := B.returns
  have hts := atoms_spec (ws := wsX6_differences) B.pre
  have hown : s.vm.findClass RX6 = some m.cls := findClass_of_methodNamed B.named
  have hlocks := B.notSynchronized
  subst hsz
  have hD := wD_self (sz := s.heap.size) hD0
  have hA9 : ∀ q, s.heap.size ≤ q → wA ad G s.heap.size q := fun q h => Or.inr h
  generalize hAe : wA ad G s.heap.size = A at hD hA9 hZ ⊢
  have hS : va_S A s.heap s.heap [] := va_S.rf
  have hl := lv_entry ([.ref (ad a), va_re ad p0, va_re ad p1, .int p2, .int p3, .int p4]) (n := 13) (by cases p0 <;> cases p1 <;> exact Nat.le_of_ble_eq_true rfl)
  rw [lg_entry_eq]
  generalize (lg_sl ([.ref (ad a), va_re ad p0, va_re ad p1, .int p2, .int p3, .int p4]) ++ List.replicate (13 - (lg_sl ([.ref (ad a), va_re ad p0, va_re ad p1, .int p2, .int p3, .int p4])).length) Slot.unset).toArray = ls at hl ⊢
  have hl : lv_has ls 13 [(0, .ref (ad a)), (1, va_re ad p0), (2, va_re ad p1), (3, .int p2), (4, .int p3), (5, .int p4)] := by have e9 : lv_args 0 [.ref (ad a), va_re ad p0, va_re ad p1, .int p2, .int p3, .int p4] = [(0, .ref (ad a)), (1, va_re ad p0), (2, va_re ad p1), (3, .int p2), (4, .int p3), (5, .int p4)] := (by cases p0 <;> cases p1 <;> rfl); rw [e9] at hl; exact hl
  unfold FX6_differences at hF
  refine lv_iload hx hb dX6_differences_0 (lv_at hl 4 rfl) ?_
  obtain ⟨y1, hy1, hF⟩ := bnd_some hF
  have hf9 := wA_in hD hA9 hS
  refine va_calli (va_runS (As := [.int p3]) (rest := []) ⟨hx, hb, hml, hown, hts⟩ (kX9_pieceX l D ct ad Z G M s.heap.size p3 y1 hy1) (va_cwS 1 hts gX6_differences_X9_pieceX rfl rfl rfl (by decide +kernel) ⟨Nat.le_of_ble_eq_true rfl, Nat.le_of_ble_eq_true rfl⟩) ⟨fun a U g mk q => by obtain ⟨q0, q1, qP, qK, qD, qZ, qN⟩ := q; exact ⟨q0, q1, qP, va_K.moved (u := U) (U := U.calling g mk a) (Vm.Alike.refl U.vm) qK, qD, sF.moved (u := U) (U := U.calling g mk a) (Vm.Alike.refl U.vm) qZ, nF.same rfl qN⟩, fun U hU hW => ⟨rfl, by rw [hU], by rw [hU]; exact hP, va_K.moved hW.alike hK, hD.weaken (fun _ _ _ _ => trivial), by rw [hU]; exact ((hZ.kept hS.2.1).narrow hf9).moved hW.alike, hN.warm hW⟩⟩ rfl rfl hl.1 rfl (lv_room (Nat.le_of_ble_eq_true rfl)) dX6_differences_2 ⟨(Nat.zero_le _), (Nat.zero_le _)⟩) hS (fun q _ h => hf9 q h) hf9 (fun r u t H locs ht hvm hw hB hz1 hk1 hS => ?_)
  obtain ⟨hP, hK9, hD9⟩ := hB
  rw [ht] at hP
  try dsimp only at hw
  subst hw
  have hD := hD9.weaken (fun _ q _ h => hf9 q.1 h)
  refine lv_istore (lv' := [(6, .int y1.2), (0, .ref (ad a)), (1, va_re ad p0), (2, va_re ad p1), (3, .int p2), (4, .int p3), (5, .int p4)]) hx hb dX6_differences_5 hl (by decide) rfl (fun ls hl => ?_)
  refine lv_iload hx hb dX6_differences_7 (lv_at hl 5 rfl) ?_
  obtain ⟨y2, hy2, hF⟩ := bnd_some hF
  have hf9 := wA_in hD hA9 hS
  refine va_calli (va_runS (As := [.int p3]) (rest := []) ⟨hx, hb, hml, hown, hts⟩ (kX9_pieceY l D ct ad Z G y1.1 H.size p3 y2 hy2) (va_cwS 1 hts gX6_differences_X9_pieceY rfl rfl rfl (by decide +kernel) ⟨Nat.le_of_ble_eq_true rfl, Nat.le_of_ble_eq_true rfl⟩) ⟨fun a U g mk q => by obtain ⟨q0, q1, qP, qK, qD, qZ, qN⟩ := q; exact ⟨q0, q1, qP, va_K.moved (u := U) (U := U.calling g mk a) (Vm.Alike.refl U.vm) qK, qD, sF.moved (u := U) (U := U.calling g mk a) (Vm.Alike.refl U.vm) qZ, nF.same rfl qN⟩, fun U hU hW => ⟨rfl, by rw [hU], by rw [hU]; exact hP, va_K.moved hW.alike hK, hD.weaken (fun _ _ _ _ => trivial), by rw [hU]; exact ((hZ.kept hS.2.1).narrow hf9).moved hW.alike, hN.warm hW⟩⟩ rfl rfl hl.1 rfl (lv_room (Nat.le_of_ble_eq_true rfl)) dX6_differences_9 ⟨(Nat.zero_le _), (Nat.zero_le _)⟩) hS (fun q _ h => hf9 q h) hf9 (fun r u t H locs ht hvm hw hB hz1 hk1 hS => ?_)
  obtain ⟨hP, hK9, hD9⟩ := hB
  rw [ht] at hP
  try dsimp only at hw
  subst hw
  have hD := hD9.weaken (fun _ q _ h => hf9 q.1 h)
  refine lv_istore (lv' := [(7, .int y2.2), (6, .int y1.2), (0, .ref (ad a)), (1, va_re ad p0), (2, va_re ad p1), (3, .int p2), (4, .int p3), (5, .int p4)]) hx hb dX6_differences_12 hl (by decide) rfl (fun ls hl => ?_)
  refine lv_iconst (v := (0 : Int32)) hx hb dX6_differences_14 (by decide) ?_
  refine lv_istore (lv' := [(8, .int (0 : Int32)), (7, .int y2.2), (6, .int y1.2), (0, .ref (ad a)), (1, va_re ad p0), (2, va_re ad p1), (3, .int p2), (4, .int p3), (5, .int p4)]) hx hb dX6_differences_15 hl (by decide) rfl (fun ls hl => ?_)
  refine lv_iconst (v := (0 : Int32)) hx hb dX6_differences_17 (by decide) ?_
  refine lv_istore (lv' := [(9, .int (0 : Int32)), (8, .int (0 : Int32)), (7, .int y2.2), (6, .int y1.2), (0, .ref (ad a)), (1, va_re ad p0), (2, va_re ad p1), (3, .int p2), (4, .int p3), (5, .int p4)]) hx hb dX6_differences_18 hl (by decide) rfl (fun ls hl => ?_)
  obtain ⟨y3, hy3, hF⟩ := bnd_some hF
  have K3 : ∀ (H : Heap) (locs : List Loc) (ls : Array Slot), va_P D classes (wld ct ad G y3.2.2) H → va_D A (wld ct ad G y3.2.2) → va_S A s.heap H locs → lv_has ls 13 [(9, .int y3.2.1), (8, .int y3.1), (7, .int y2.2), (6, .int y1.2), (0, .ref (ad a)), (1, va_re ad p0), (2, va_re ad p1), (3, .int p2), (4, .int p3), (5, .int p4)] → W p l e (headSpec wsX6_differences ({ frames := 1, cells := 0, slots := 0, locals := 23 })).room s m ([.ref (ad a), va_re ad p0, va_re ad p1, .int p2, .int p3, .int p4] : List Value).toArray below meth c H locs 0 0 (MQ below (va_Qi (fun (q : Int32) (_ : Unit) => q = y.2) (fun _ t => kE D ct ad G A y.1 t) A) ([.ref (ad a), va_re ad p0, va_re ad p1, .int p2, .int p3, .int p4] : List Value).toArray s 0 0 A) (F0 m 113 ls []) := by
    intro H locs ls hP hD hS hl
    refine lv_iload hx hb dX6_differences_113 (lv_at hl 1 rfl) ?_
    obtain rfl := Option.some.inj hF
    exact W.iret (v := y3.1) hx hb hr (fun t ht hW => ⟨⟨_, (), rfl, rfl, ⟨by rw [ht]; exact hP, va_K.moved hW.alike hK, hD⟩⟩, hS.F ht⟩) hS.2.2 dX6_differences_115
  clear hF
  refine itr_rule (fun (s4 : Int32 × Int32 × DD) => ∀ (H : Heap) (locs : List Loc) (ls : Array Slot), va_P D classes (wld ct ad G s4.2.2) H → va_D A (wld ct ad G s4.2.2) → va_S A s.heap H locs → lv_has ls 13 [(9, .int s4.2.1), (8, .int s4.1), (7, .int y2.2), (6, .int y1.2), (0, .ref (ad a)), (1, va_re ad p0), (2, va_re ad p1), (3, .int p2), (4, .int p3), (5, .int p4)] → W p l e (headSpec wsX6_differences ({ frames := 1, cells := 0, slots := 0, locals := 23 })).room s m ([.ref (ad a), va_re ad p0, va_re ad p1, .int p2, .int p3, .int p4] : List Value).toArray below meth c H locs 0 0 (MQ below (va_Qi (fun (q : Int32) (_ : Unit) => q = y.2) (fun _ t => kE D ct ad G A y.1 t) A) ([.ref (ad a), va_re ad p0, va_re ad p1, .int p2, .int p3, .int p4] : List Value).toArray s 0 0 A) (F0 m 20 ls [])) ?_ _ _ hy3 _ _ _ hP hD hS (lv_sub hl [0, 1, 2, 3, 4, 5, 6, 7, 8, 9] rfl)
  rintro s4 ⟨z6, hF, hwz6⟩ H locs ls hP hD hS hl
  try dsimp only at hF
  refine lv_iload hx hb dX6_differences_20 (lv_at hl 0 rfl) ?_
  refine lv_iload hx hb dX6_differences_22 (lv_at hl 9 rfl) ?_
  refine lv_icmp_ge (tgt := 113) hx hb dX6_differences_24 (by decide) (fun c7 => ?_) (fun c7 => ?_)
  · rw [if_pos c7] at hF
    obtain rfl := Option.some.inj hF
    subst hwz6
    exact K3 _ _ _ hP hD hS (lv_sub hl [0, 1, 2, 3, 4, 5, 6, 7, 8, 9] rfl)
  · rw [if_neg c7] at hF
    refine lv_aloadq_n hx hb dX6_differences_27 rfl (lv_at hl 5 rfl) ?_
    obtain ⟨b8, ho8, hc8, hk8, hF⟩ := dr_some hF
    refine W_st (st' := [.ref (ad b8)]) (by rw [va_some ho8]) ?_
    refine va_get (D := D) (ci := 9) (v := va_re ad (s4.2.2.2 b8 0)) (C := RX9) (T := TX9) (N := 20) hx hb hts (by decide +kernel) hown hK hP b8 (wld_o ct ad G s4.2.2 hc8 hk8 (by decide)) rfl 0 (by decide) (hts (.fieldLink RX6 46 "VideoSuite$Work" "pic" "LVideoSuite$Picture;") (by decide +kernel)) (fun _ h9 => h9) rfl dX6_differences_28 ?_
    refine lv_iload_n hx hb dX6_differences_31 rfl (lv_at hl 7 rfl) ?_
    refine lv_iload hx hb dX6_differences_32 (lv_at hl 3 rfl) ?_
    refine lv_iload hx hb dX6_differences_34 (lv_at hl 2 rfl) ?_
    refine lv_iload hx hb dX6_differences_36 (lv_at hl 0 rfl) ?_
    refine lv_iadd hx hb dX6_differences_38 ?_
    obtain ⟨x9, ex9, hF⟩ := ltt_some hF
    refine lv_topi (fun zx9 ezx9 => ?_)
    obtain rfl : x9 = zx9 := ex9.trans ezx9.symm
    obtain ⟨y10, hy10, hF⟩ := bnd_some hF
    have hf9 := wA_in hD hA9 hS
    refine va_calli (va_runS (As := [va_re ad (s4.2.2.2 b8 0), .int p2, .int y1.2, .int x9]) (rest := []) ⟨hx, hb, hml, hown, hts⟩ (kX6_lumaAt l D ct ad Z G s4.2.2 H.size ((s4.2.2.2 b8 0)) p2 y1.2 x9 y10 hy10) (va_cwS 4 hts gX6_differences_X6_lumaAt rfl rfl rfl (by decide +kernel) ⟨Nat.le_of_ble_eq_true rfl, Nat.le_of_ble_eq_true rfl⟩) ⟨fun a U g mk q => by obtain ⟨q0, q1, qP, qK, qD, qZ, qN⟩ := q; exact ⟨q0, q1, qP, va_K.moved (u := U) (U := U.calling g mk a) (Vm.Alike.refl U.vm) qK, qD, sF.moved (u := U) (U := U.calling g mk a) (Vm.Alike.refl U.vm) qZ, nF.same rfl qN⟩, fun U hU hW => ⟨rfl, by rw [hU], by rw [hU]; exact hP, va_K.moved hW.alike hK, hD.weaken (fun _ _ _ _ => trivial), by rw [hU]; exact ((hZ.kept hS.2.1).narrow hf9).moved hW.alike, hN.warm hW⟩⟩ rfl rfl hl.1 rfl (lv_room (Nat.le_of_ble_eq_true rfl)) dX6_differences_39 ⟨(Nat.zero_le _), (Nat.zero_le _)⟩) hS (fun q _ h => hf9 q h) hf9 (fun r u t H locs ht hvm hw hB hz1 hk1 hS => ?_)
    obtain ⟨hP, hK9, hD9⟩ := hB
    rw [ht] at hP
    try dsimp only at hw
    subst hw
    have hD := hD9.weaken (fun _ q _ h => hf9 q.1 h)
    refine lv_istore (lv' := [(10, .int y10.2), (9, .int s4.2.1), (8, .int s4.1), (7, .int y2.2), (6, .int y1.2), (0, .ref (ad a)), (1, va_re ad p0), (2, va_re ad p1), (3, .int p2), (4, .int p3), (5, .int p4)]) hx hb dX6_differences_42 hl (by decide) rfl (fun ls hl => ?_)
    refine lv_iconst (v := (0 : Int32)) hx hb dX6_differences_44 (by decide) ?_
    refine lv_istore (lv' := [(11, .int (0 : Int32)), (10, .int y10.2), (9, .int s4.2.1), (8, .int s4.1), (7, .int y2.2), (6, .int y1.2), (0, .ref (ad a)), (1, va_re ad p0), (2, va_re ad p1), (3, .int p2), (4, .int p3), (5, .int p4)]) hx hb dX6_differences_45 hl (by decide) rfl (fun ls hl => ?_)
    obtain ⟨y11, hy11, hF⟩ := bnd_some hF
    have K11 : ∀ (H : Heap) (locs : List Loc) (ls : Array Slot), va_P D classes (wld ct ad G y10.1) H → va_D A (wld ct ad G y10.1) → va_S A s.heap H locs → lv_has ls 13 [(11, .int y11.2), (10, .int y10.2), (9, .int s4.2.1), (8, .int y11.1), (7, .int y2.2), (6, .int y1.2), (0, .ref (ad a)), (1, va_re ad p0), (2, va_re ad p1), (3, .int p2), (4, .int p3), (5, .int p4)] → W p l e (headSpec wsX6_differences ({ frames := 1, cells := 0, slots := 0, locals := 23 })).room s m ([.ref (ad a), va_re ad p0, va_re ad p1, .int p2, .int p3, .int p4] : List Value).toArray below meth c H locs 0 0 (MQ below (va_Qi (fun (q : Int32) (_ : Unit) => q = y.2) (fun _ t => kE D ct ad G A y.1 t) A) ([.ref (ad a), va_re ad p0, va_re ad p1, .int p2, .int p3, .int p4] : List Value).toArray s 0 0 A) (F0 m 107 ls []) := by
      intro H locs ls hP hD hS hl
      obtain ⟨x14, ex14, hF⟩ := ltt_some hF
      refine lv_iinc (v := x14) (lv' := [(9, .int x14), (11, .int y11.2), (10, .int y10.2), (8, .int y11.1), (7, .int y2.2), (6, .int y1.2), (0, .ref (ad a)), (1, va_re ad p0), (2, va_re ad p1), (3, .int p2), (4, .int p3), (5, .int p4)]) hx hb dX6_differences_107 hl (k := 2) rfl (by rw [ex14]; rfl) (by decide) rfl (fun ls hl => ?_)
      refine lv_goto (tgt := 20) hx hb dX6_differences_110 (by decide) ?_
      obtain rfl := Option.some.inj hF
      exact hwz6 _ _ _ hP hD hS (lv_sub hl [0, 3, 4, 5, 6, 7, 8, 9, 10, 11] rfl)
    clear hF
    refine itr_rule (fun (s12 : Int32 × Int32) => ∀ (H : Heap) (locs : List Loc) (ls : Array Slot), va_P D classes (wld ct ad G y10.1) H → va_D A (wld ct ad G y10.1) → va_S A s.heap H locs → lv_has ls 13 [(11, .int s12.2), (10, .int y10.2), (9, .int s4.2.1), (8, .int s12.1), (7, .int y2.2), (6, .int y1.2), (0, .ref (ad a)), (1, va_re ad p0), (2, va_re ad p1), (3, .int p2), (4, .int p3), (5, .int p4)] → W p l e (headSpec wsX6_differences ({ frames := 1, cells := 0, slots := 0, locals := 23 })).room s m ([.ref (ad a), va_re ad p0, va_re ad p1, .int p2, .int p3, .int p4] : List Value).toArray below meth c H locs 0 0 (MQ below (va_Qi (fun (q : Int32) (_ : Unit) => q = y.2) (fun _ t => kE D ct ad G A y.1 t) A) ([.ref (ad a), va_re ad p0, va_re ad p1, .int p2, .int p3, .int p4] : List Value).toArray s 0 0 A) (F0 m 47 ls [])) ?_ _ _ hy11 _ _ _ hP hD hS (lv_sub hl [0, 1, 2, 3, 4, 5, 6, 7, 8, 9, 10, 11] rfl)
    rintro s12 ⟨z15, hF, hwz15⟩ H locs ls hP hD hS hl
    try dsimp only at hF
    refine lv_iload hx hb dX6_differences_47 (lv_at hl 0 rfl) ?_
    refine lv_iload hx hb dX6_differences_49 (lv_at hl 11 rfl) ?_
    refine lv_icmp_ge (tgt := 107) hx hb dX6_differences_51 (by decide) (fun c16 => ?_) (fun c16 => ?_)
    · rw [if_pos c16] at hF
      obtain rfl := Option.some.inj hF
      subst hwz15
      exact K11 _ _ _ hP hD hS (lv_sub hl [0, 1, 2, 3, 4, 5, 6, 7, 8, 9, 10, 11] rfl)
    · rw [if_neg c16] at hF
      refine lv_aloadq_n hx hb dX6_differences_54 rfl (lv_at hl 8 rfl) ?_
      refine lv_iload hx hb dX6_differences_55 (lv_at hl 1 rfl) ?_
      refine lv_iload hx hb dX6_differences_57 (lv_at hl 0 rfl) ?_
      refine lv_iadd hx hb dX6_differences_59 ?_
      obtain ⟨x17, ex17, hF⟩ := ltt_some hF
      refine lv_topi (fun zx17 ezx17 => ?_)
      obtain rfl : x17 = zx17 := ex17.trans ezx17.symm
      obtain ⟨b18, ho18, hc18, hk18, hF⟩ := dr_some hF
      refine W_st (st' := [.int x17, .ref (ad b18)]) (by rw [va_some ho18]) ?_
      obtain ⟨hvc, hF⟩ := chk_some hF
      refine va_iald hx hb hK hP b18 1 (wld_i ct ad G y10.1 hc18 hk18) rfl hvc dX6_differences_60 ?_
      obtain ⟨x19, ex19, hF⟩ := ltt_some hF
      refine lv_topi (fun zx19 ezx19 => ?_)
      obtain rfl : x19 = zx19 := ex19.trans ezx19.symm
      refine lv_aload_n hx hb dX6_differences_61 rfl (lv_at hl 6 rfl) ?_
      refine va_get (D := D) (ci := 6) (v := va_re ad (y10.1.2 a 0)) (C := RX6) (T := TX6) (N := 14) hx hb hts (by decide +kernel) hown hK hP a (wld_o ct ad G y10.1 hc hk (by decide)) rfl 0 (by decide) (hts (.fieldLink RX6 9 "VideoSuite$Samples" "guess" "[I") (by decide +kernel)) (fun _ h9 => h9) rfl dX6_differences_62 ?_
      refine lv_bipush (v := (16 : Int32)) hx hb dX6_differences_65 (by decide) ?_
      refine lv_iload hx hb dX6_differences_67 (lv_at hl 4 rfl) ?_
      refine lv_iload hx hb dX6_differences_69 (lv_at hl 2 rfl) ?_
      refine lv_iadd hx hb dX6_differences_71 ?_
      obtain ⟨x20, ex20, hF⟩ := ltt_some hF
      refine lv_topi (fun zx20 ezx20 => ?_)
      obtain rfl : x20 = zx20 := ex20.trans ezx20.symm
      refine lv_imul hx hb dX6_differences_72 ?_
      obtain ⟨x21, ex21, hF⟩ := ltt_some hF
      refine lv_topi (fun zx21 ezx21 => ?_)
      obtain rfl : x21 = zx21 := ex21.trans ezx21.symm
      refine lv_iload hx hb dX6_differences_73 (lv_at hl 5 rfl) ?_
      refine lv_iadd hx hb dX6_differences_75 ?_
      obtain ⟨x22, ex22, hF⟩ := ltt_some hF
      refine lv_topi (fun zx22 ezx22 => ?_)
      obtain rfl : x22 = zx22 := ex22.trans ezx22.symm
      refine lv_iload hx hb dX6_differences_76 (lv_at hl 0 rfl) ?_
      refine lv_iadd hx hb dX6_differences_78 ?_
      obtain ⟨x23, ex23, hF⟩ := ltt_some hF
      refine lv_topi (fun zx23 ezx23 => ?_)
      obtain rfl : x23 = zx23 := ex23.trans ezx23.symm
      obtain ⟨b24, ho24, hc24, hk24, hF⟩ := dr_some hF
      refine W_st (st' := [.int x23, .ref (ad b24), .int x19]) (by rw [va_some ho24]) ?_
      obtain ⟨hvc, hF⟩ := chk_some hF
      refine va_iald hx hb hK hP b24 1 (wld_i ct ad G y10.1 hc24 hk24) rfl hvc dX6_differences_79 ?_
      obtain ⟨x25, ex25, hF⟩ := ltt_some hF
      refine lv_topi (fun zx25 ezx25 => ?_)
      obtain rfl : x25 = zx25 := ex25.trans ezx25.symm
      refine lv_isub hx hb dX6_differences_80 ?_
      obtain ⟨x26, ex26, hF⟩ := ltt_some hF
      refine lv_topi (fun zx26 ezx26 => ?_)
      obtain rfl : x26 = zx26 := ex26.trans ezx26.symm
      refine lv_istore (lv' := [(12, .int x26), (11, .int s12.2), (10, .int y10.2), (9, .int s4.2.1), (8, .int s12.1), (7, .int y2.2), (6, .int y1.2), (0, .ref (ad a)), (1, va_re ad p0), (2, va_re ad p1), (3, .int p2), (4, .int p3), (5, .int p4)]) hx hb dX6_differences_81 hl (by decide) rfl (fun ls hl => ?_)
      refine lv_iload hx hb dX6_differences_83 (lv_at hl 4 rfl) ?_
      refine lv_iload hx hb dX6_differences_85 (lv_at hl 0 rfl) ?_
      obtain ⟨y27, hy27, hF⟩ := bnd_some hF
      have J27 : ∀ (H : Heap) (locs : List Loc) (ls : Array Slot), va_P D classes (wld ct ad G y10.1) H → va_D A (wld ct ad G y10.1) → va_S A s.heap H locs → lv_has ls 13 [(12, .int x26), (11, .int s12.2), (10, .int y10.2), (9, .int s4.2.1), (8, .int s12.1), (7, .int y2.2), (6, .int y1.2), (0, .ref (ad a)), (1, va_re ad p0), (2, va_re ad p1), (3, .int p2), (4, .int p3), (5, .int p4)] → W p l e (headSpec wsX6_differences ({ frames := 1, cells := 0, slots := 0, locals := 23 })).room s m ([.ref (ad a), va_re ad p0, va_re ad p1, .int p2, .int p3, .int p4] : List Value).toArray below meth c H locs 0 0 (MQ below (va_Qi (fun (q : Int32) (_ : Unit) => q = y.2) (fun _ t => kE D ct ad G A y.1 t) A) ([.ref (ad a), va_re ad p0, va_re ad p1, .int p2, .int p3, .int p4] : List Value).toArray s 0 0 A) (F0 m 98 ls [.int y27, .int s12.1]) := by
        intro H locs ls hP hD hS hl
        refine lv_iadd hx hb dX6_differences_98 ?_
        obtain ⟨x28, ex28, hF⟩ := ltt_some hF
        refine lv_topi (fun zx28 ezx28 => ?_)
        obtain rfl : x28 = zx28 := ex28.trans ezx28.symm
        refine lv_istore (lv' := [(8, .int x28), (12, .int x26), (11, .int s12.2), (10, .int y10.2), (9, .int s4.2.1), (7, .int y2.2), (6, .int y1.2), (0, .ref (ad a)), (1, va_re ad p0), (2, va_re ad p1), (3, .int p2), (4, .int p3), (5, .int p4)]) hx hb dX6_differences_99 hl (by decide) rfl (fun ls hl => ?_)
        obtain ⟨x29, ex29, hF⟩ := ltt_some hF
        refine lv_iinc (v := x29) (lv' := [(11, .int x29), (8, .int x28), (12, .int x26), (10, .int y10.2), (9, .int s4.2.1), (7, .int y2.2), (6, .int y1.2), (0, .ref (ad a)), (1, va_re ad p0), (2, va_re ad p1), (3, .int p2), (4, .int p3), (5, .int p4)]) hx hb dX6_differences_101 hl (k := 2) rfl (by rw [ex29]; rfl) (by decide) rfl (fun ls hl => ?_)
        refine lv_goto (tgt := 47) hx hb dX6_differences_104 (by decide) ?_
        obtain rfl := Option.some.inj hF
        exact hwz15 _ _ _ hP hD hS (lv_sub hl [0, 3, 4, 1, 5, 6, 7, 8, 9, 10, 11, 12] rfl)
      clear hF
      have hF := hy27
      clear hy27
      refine lv_if_ge (tgt := 96) hx hb dX6_differences_87 (by decide) (fun c30 => ?_) (fun c30 => ?_)
      · rw [if_pos c30] at hF
        refine lv_iload hx hb dX6_differences_96 (lv_at hl 0 rfl) ?_
        obtain rfl := Option.some.inj hF
        exact J27 _ _ _ hP hD hS (lv_sub hl [0, 1, 2, 3, 4, 5, 6, 7, 8, 9, 10, 11, 12] rfl)
      · rw [if_neg c30] at hF
        refine lv_iload hx hb dX6_differences_90 (lv_at hl 0 rfl) ?_
        refine lv_ineg hx hb dX6_differences_92 ?_
        obtain ⟨x31, ex31, hF⟩ := ltt_some hF
        refine lv_topi (fun zx31 ezx31 => ?_)
        obtain rfl : x31 = zx31 := ex31.trans ezx31.symm
        refine lv_goto (tgt := 98) hx hb dX6_differences_93 (by decide) ?_
        obtain rfl := Option.some.inj hF
        exact J27 _ _ _ hP hD hS (lv_sub hl [0, 1, 2, 3, 4, 5, 6, 7, 8, 9, 10, 11, 12] rfl)
theorem ggX6_fillPiece_X6_turnBack : GoodIn wsX6_fillPiece wsX6_turnBack := goodIn_r _ [7, 2, 8, 9, 10, 11, 12, 13, 14, 15, 16, 17, 18, 19, 20, 21] (by decide +kernel) (by decide +kernel)
set_option maxRecDepth 20000 in
theorem gX6_fillPiece_X6_turnBack : GoodIn wsX6_fillPiece (wsV RX6 230 RX6 yX6_turnBack wsX6_turnBack) := goodIn_app (goodIn_of _ (by decide +kernel)) ggX6_fillPiece_X6_turnBack
theorem dX6_fillPiece_0 : decode cX6_fillPiece 0 = .ok (.aload_n 0, 1) := by decide +kernel
theorem dX6_fillPiece_1 : decode cX6_fillPiece 1 = .ok (.iconst 1, 1) := by decide +kernel
theorem dX6_fillPiece_2 : decode cX6_fillPiece 2 = .ok (.iconst 4, 1) := by decide +kernel
theorem dX6_fillPiece_3 : decode cX6_fillPiece 3 = .ok (.invokevirtual 230, 3) := by decide +kernel
theorem dX6_fillPiece_6 : decode cX6_fillPiece 6 = .ok (.aload_n 0, 1) := by decide +kernel
theorem dX6_fillPiece_7 : decode cX6_fillPiece 7 = .ok (.iconst 4, 1) := by decide +kernel
theorem dX6_fillPiece_8 : decode cX6_fillPiece 8 = .ok (.iconst 1, 1) := by decide +kernel
theorem dX6_fillPiece_9 : decode cX6_fillPiece 9 = .ok (.invokevirtual 230, 3) := by decide +kernel
theorem dX6_fillPiece_12 : decode cX6_fillPiece 12 = .ok (.iconst 0, 1) := by decide +kernel
theorem dX6_fillPiece_13 : decode cX6_fillPiece 13 = .ok (.istore 6, 2) := by decide +kernel
theorem dX6_fillPiece_15 : decode cX6_fillPiece 15 = .ok (.iload 6, 2) := by decide +kernel
theorem dX6_fillPiece_17 : decode cX6_fillPiece 17 = .ok (.bipush 16, 2) := by decide +kernel
theorem dX6_fillPiece_19 : decode cX6_fillPiece 19 = .ok (.if_icmp .ge 85, 3) := by decide +kernel
theorem dX6_fillPiece_22 : decode cX6_fillPiece 22 = .ok (.aload_n 0, 1) := by decide +kernel
theorem dX6_fillPiece_23 : decode cX6_fillPiece 23 = .ok (.getfield 9, 3) := by decide +kernel
theorem dX6_fillPiece_26 : decode cX6_fillPiece 26 = .ok (.iload 4, 2) := by decide +kernel
theorem dX6_fillPiece_28 : decode cX6_fillPiece 28 = .ok (.iload 6, 2) := by decide +kernel
theorem dX6_fillPiece_30 : decode cX6_fillPiece 30 = .ok (.iconst 4, 1) := by decide +kernel
theorem dX6_fillPiece_31 : decode cX6_fillPiece 31 = .ok (.idiv, 1) := by decide +kernel
theorem dX6_fillPiece_32 : decode cX6_fillPiece 32 = .ok (.iload 5, 2) := by decide +kernel
theorem dX6_fillPiece_34 : decode cX6_fillPiece 34 = .ok (.imul, 1) := by decide +kernel
theorem dX6_fillPiece_35 : decode cX6_fillPiece 35 = .ok (.iadd, 1) := by decide +kernel
theorem dX6_fillPiece_36 : decode cX6_fillPiece 36 = .ok (.iload 6, 2) := by decide +kernel
theorem dX6_fillPiece_38 : decode cX6_fillPiece 38 = .ok (.iconst 4, 1) := by decide +kernel
theorem dX6_fillPiece_39 : decode cX6_fillPiece 39 = .ok (.irem, 1) := by decide +kernel
theorem dX6_fillPiece_40 : decode cX6_fillPiece 40 = .ok (.iadd, 1) := by decide +kernel
theorem dX6_fillPiece_41 : decode cX6_fillPiece 41 = .ok (.iaload, 1) := by decide +kernel
theorem dX6_fillPiece_42 : decode cX6_fillPiece 42 = .ok (.aload_n 0, 1) := by decide +kernel
theorem dX6_fillPiece_43 : decode cX6_fillPiece 43 = .ok (.getfield 30, 3) := by decide +kernel
theorem dX6_fillPiece_46 : decode cX6_fillPiece 46 = .ok (.iload 6, 2) := by decide +kernel
theorem dX6_fillPiece_48 : decode cX6_fillPiece 48 = .ok (.iaload, 1) := by decide +kernel
theorem dX6_fillPiece_49 : decode cX6_fillPiece 49 = .ok (.bipush 32, 2) := by decide +kernel
theorem dX6_fillPiece_51 : decode cX6_fillPiece 51 = .ok (.iadd, 1) := by decide +kernel
theorem dX6_fillPiece_52 : decode cX6_fillPiece 52 = .ok (.bipush 6, 2) := by decide +kernel
theorem dX6_fillPiece_54 : decode cX6_fillPiece 54 = .ok (.ishr, 1) := by decide +kernel
theorem dX6_fillPiece_55 : decode cX6_fillPiece 55 = .ok (.iadd, 1) := by decide +kernel
theorem dX6_fillPiece_56 : decode cX6_fillPiece 56 = .ok (.istore 7, 2) := by decide +kernel
theorem dX6_fillPiece_58 : decode cX6_fillPiece 58 = .ok (.aload_n 1, 1) := by decide +kernel
theorem dX6_fillPiece_59 : decode cX6_fillPiece 59 = .ok (.iload_n 2, 1) := by decide +kernel
theorem dX6_fillPiece_60 : decode cX6_fillPiece 60 = .ok (.iload 6, 2) := by decide +kernel
theorem dX6_fillPiece_62 : decode cX6_fillPiece 62 = .ok (.iconst 4, 1) := by decide +kernel
theorem dX6_fillPiece_63 : decode cX6_fillPiece 63 = .ok (.idiv, 1) := by decide +kernel
theorem dX6_fillPiece_64 : decode cX6_fillPiece 64 = .ok (.iload_n 3, 1) := by decide +kernel
theorem dX6_fillPiece_65 : decode cX6_fillPiece 65 = .ok (.imul, 1) := by decide +kernel
theorem dX6_fillPiece_66 : decode cX6_fillPiece 66 = .ok (.iadd, 1) := by decide +kernel
theorem dX6_fillPiece_67 : decode cX6_fillPiece 67 = .ok (.iload 6, 2) := by decide +kernel
theorem dX6_fillPiece_69 : decode cX6_fillPiece 69 = .ok (.iconst 4, 1) := by decide +kernel
theorem dX6_fillPiece_70 : decode cX6_fillPiece 70 = .ok (.irem, 1) := by decide +kernel
theorem dX6_fillPiece_71 : decode cX6_fillPiece 71 = .ok (.iadd, 1) := by decide +kernel
theorem dX6_fillPiece_72 : decode cX6_fillPiece 72 = .ok (.iload 7, 2) := by decide +kernel
theorem dX6_fillPiece_74 : decode cX6_fillPiece 74 = .ok (.ifCond .ge 7, 3) := by decide +kernel
theorem dX6_fillPiece_77 : decode cX6_fillPiece 77 = .ok (.iconst 0, 1) := by decide +kernel
theorem dX6_fillPiece_78 : decode cX6_fillPiece 78 = .ok (.goto 19, 3) := by decide +kernel
theorem dX6_fillPiece_81 : decode cX6_fillPiece 81 = .ok (.iload 7, 2) := by decide +kernel
theorem dX6_fillPiece_83 : decode cX6_fillPiece 83 = .ok (.sipush 255, 3) := by decide +kernel
theorem dX6_fillPiece_86 : decode cX6_fillPiece 86 = .ok (.if_icmp .le 9, 3) := by decide +kernel
theorem dX6_fillPiece_89 : decode cX6_fillPiece 89 = .ok (.sipush 255, 3) := by decide +kernel
theorem dX6_fillPiece_92 : decode cX6_fillPiece 92 = .ok (.goto 5, 3) := by decide +kernel
theorem dX6_fillPiece_95 : decode cX6_fillPiece 95 = .ok (.iload 7, 2) := by decide +kernel
theorem dX6_fillPiece_97 : decode cX6_fillPiece 97 = .ok (.iastore, 1) := by decide +kernel
theorem dX6_fillPiece_98 : decode cX6_fillPiece 98 = .ok (.iinc 6 1, 3) := by decide +kernel
theorem dX6_fillPiece_101 : decode cX6_fillPiece 101 = .ok (.goto (-86), 3) := by decide +kernel
theorem dX6_fillPiece_104 : decode cX6_fillPiece 104 = .ok (.return_, 1) := by decide +kernel
def FX6_fillPiece (G : GG) (M : DD) (a : Nat) (p0 : Option Nat) (p1 : Int32) (p2 : Int32) (p3 : Int32) (p4 : Int32) : Option (DD) :=
  bnd (FX6_turnBack G M a ((1 : Int32)) ((4 : Int32))) fun y1 =>
  bnd (FX6_turnBack G y1 a ((4 : Int32)) ((1 : Int32))) fun y2 =>
  bnd (itr (fun (s4 : Int32 × DD) => ((if ((16 : Int32)) ≤ s4.1 then (some (.inr (s4.1, s4.2))) else
  (ltt (s4.1 / ((4 : Int32))) fun x8 =>
  ltt ((x8 * p4)) fun x9 =>
  ltt ((p3 + x9)) fun x10 =>
  ltt (s4.1 - s4.1 / ((4 : Int32)) * ((4 : Int32))) fun x11 =>
  ltt ((x10 + x11)) fun x12 =>
  dr G 13 ((s4.2.2 a 0)) fun b13 =>
  chk (¬ (x12 < 0 ∨ G.2.2 b13 ≤ x12.toNatClampNeg)) <|
  ltt (s4.2.1 b13 x12.toNatClampNeg) fun x14 =>
  dr G 13 ((s4.2.2 a 6)) fun b15 =>
  chk (¬ (s4.1 < 0 ∨ G.2.2 b15 ≤ s4.1.toNatClampNeg)) <|
  ltt (s4.2.1 b15 s4.1.toNatClampNeg) fun x16 =>
  ltt ((x16 + ((32 : Int32)))) fun x17 =>
  ltt ((x17 >>> (((6 : Int32)) &&& 31))) fun x18 =>
  ltt ((x14 + x18)) fun x19 =>
  ltt (s4.1 / ((4 : Int32))) fun x20 =>
  ltt ((x20 * p2)) fun x21 =>
  ltt ((p1 + x21)) fun x22 =>
  ltt (s4.1 - s4.1 / ((4 : Int32)) * ((4 : Int32))) fun x23 =>
  ltt ((x22 + x23)) fun x24 =>
  bnd (if ((0 : Int32)) ≤ x19 then (bnd (if x19 ≤ ((255 : Int32)) then (some (x19)) else
  (some ((255 : Int32)))) fun (y30 : Int32) =>
  some (y30)) else
  (some ((0 : Int32)))) fun (y25 : Int32) =>
  dr G 13 p0 fun b26 =>
  chk (¬ (x24 < 0 ∨ G.2.2 b26 ≤ x24.toNatClampNeg)) <|
  ltt (uI s4.2 b26 x24.toNatClampNeg y25) fun M27 =>
  ltt (s4.1 + (1 : Int32)) fun x28 =>
  some (.inl (x28, M27)))) : Option ((Int32 × DD) ⊕ (Int32 × DD)))) 1000000 ((0 : Int32), y2)) fun (y3 : Int32 × DD) =>
  some y3.2
set_option maxHeartbeats 4000000 in
set_option maxRecDepth 100000 in
theorem kX6_fillPiece (l : Launch) (D : va_G) (ct : CT) (ad : Nat → Nat) (Z : Nat → Nat) (G : GG) (M : DD) (sz : Nat) (a : Nat) (p0 : Option Nat) (p1 : Int32) (p2 : Int32) (p3 : Int32) (p4 : Int32) (y : DD) (hc : a < G.1) (hk : G.2.1 a = 6) (hF : FX6_fillPiece G M a p0 p1 p2 p3 p4 = some y) : Met l yX6_fillPiece wsX6_fillPiece ({ frames := 1, cells := 0, slots := 0, locals := 28 }) (va_Pc [.ref (ad a), va_re ad p0, .int p1, .int p2, .int p3, .int p4] (kB D ct ad Z G M sz)) (va_Qv (fun (_ : Unit) => True) (fun _ t => kE D ct ad G (wA ad G sz) y t) (wA ad G sz)) 0 0 (wA ad G sz) := by
  refine Met.ofW (cc := cX6_fillPiece) (maxL := 8) (ret := none) (by decide) rfl ?_
  intro p e s m args below meth c s₁ B hml hv
  obtain ⟨rfl, hsz, hP, hK, hD0, hZ, hN⟩ := hv
  have hx := B.exec
  have hb := B.bytes
  have hr := B.returns
  have hts := atoms_spec (ws := wsX6_fillPiece) B.pre
  have hown : s.vm.findClass RX6 = some m.cls := findClass_of_methodNamed B.named
  have hlocks := B.notSynchronized
  subst hsz
  have hD := wD_self (sz := s.heap.size) hD0
  have hA9 : ∀ q, s.heap.size ≤ q → wA ad G s.heap.size q := fun q h => Or.inr h
  generalize hAe : wA ad G s.heap.size = A at hD hA9 hZ ⊢
  have hS : va_S A s.heap s.heap [] := va_S.rf
  have hl := lv_entry ([.ref (ad a), va_re ad p0, .int p1, .int p2, .int p3, .int p4]) (n := 8) (by cases p0 <;> exact Nat.le_of_ble_eq_true rfl)
  rw [lg_entry_eq]
  generalize (lg_sl ([.ref (ad a), va_re ad p0, .int p1, .int p2, .int p3, .int p4]) ++ List.replicate (8 - (lg_sl ([.ref (ad a), va_re ad p0, .int p1, .int p2, .int p3, .int p4])).length) Slot.unset).toArray = ls at hl ⊢
  have hl : lv_has ls 8 [(0, .ref (ad a)), (1, va_re ad p0), (2, .int p1), (3, .int p2), (4, .int p3), (5, .int p4)] := by have e9 : lv_args 0 [.ref (ad a), va_re ad p0, .int p1, .int p2, .int p3, .int p4] = [(0, .ref (ad a)), (1, va_re ad p0), (2, .int p1), (3, .int p2), (4, .int p3), (5, .int p4)] := (by cases p0 <;> rfl); rw [e9] at hl; exact hl
  unfold FX6_fillPiece at hF
  refine lv_aload_n hx hb dX6_fillPiece_0 rfl (lv_at hl 0 rfl) ?_
  refine lv_iconst (v := (1 : Int32)) hx hb dX6_fillPiece_1 (by decide) ?_
  refine lv_iconst (v := (4 : Int32)) hx hb dX6_fillPiece_2 (by decide) ?_
  obtain ⟨y1, hy1, hF⟩ := bnd_some hF
  have hf9 := wA_in hD hA9 hS
  refine va_callv (va_runV (As := [.int (1 : Int32), .int (4 : Int32)]) (rest := []) ⟨hx, hb, hml, hown, hts⟩ (kX6_turnBack l D ct ad Z G M s.heap.size a ((1 : Int32)) ((4 : Int32)) y1 hc hk hy1) (cwV 2 hts gX6_fillPiece_X6_turnBack rfl rfl rfl (by decide +kernel) ⟨Nat.le_of_ble_eq_true rfl, Nat.le_of_ble_eq_true rfl⟩) ⟨fun a U g mk q => by obtain ⟨q0, q1, qP, qK, qD, qZ, qN⟩ := q; exact ⟨q0, q1, qP, va_K.moved (u := U) (U := U.calling g mk a) (Vm.Alike.refl U.vm) qK, qD, sF.moved (u := U) (U := U.calling g mk a) (Vm.Alike.refl U.vm) qZ, nF.same rfl qN⟩, va_recv hK hP (ci := 6) (q0 := a) rfl (wld_o ct ad G M hc hk (by decide)), fun U hU hW => ⟨rfl, by rw [hU], by rw [hU]; exact hP, va_K.moved hW.alike hK, hD.weaken (fun _ _ _ _ => trivial), by rw [hU]; exact ((hZ.kept hS.2.1).narrow hf9).moved hW.alike, hN.warm hW⟩⟩ rfl rfl hl.1 rfl (lv_room (Nat.le_of_ble_eq_true rfl)) dX6_fillPiece_3 ⟨(Nat.zero_le _), (Nat.zero_le _)⟩) hS (fun q _ h => hf9 q h) hf9 (fun u t H locs ht hvm hw hB hz1 hk1 hS => ?_)
  obtain ⟨hP, hK9, hD9⟩ := hB
  rw [ht] at hP
  have hD := hD9.weaken (fun _ q _ h => hf9 q.1 h)
  refine lv_aload_n hx hb dX6_fillPiece_6 rfl (lv_at hl 0 rfl) ?_
  refine lv_iconst (v := (4 : Int32)) hx hb dX6_fillPiece_7 (by decide) ?_
  refine lv_iconst (v := (1 : Int32)) hx hb dX6_fillPiece_8 (by decide) ?_
  obtain ⟨y2, hy2, hF⟩ := bnd_some hF
  have hf9 := wA_in hD hA9 hS
  refine va_callv (va_runV (As := [.int (4 : Int32), .int (1 : Int32)]) (rest := []) ⟨hx, hb, hml, hown, hts⟩ (kX6_turnBack l D ct ad Z G y1 H.size a ((4 : Int32)) ((1 : Int32)) y2 hc hk hy2) (cwV 2 hts gX6_fillPiece_X6_turnBack rfl rfl rfl (by decide +kernel) ⟨Nat.le_of_ble_eq_true rfl, Nat.le_of_ble_eq_true rfl⟩) ⟨fun a U g mk q => by obtain ⟨q0, q1, qP, qK, qD, qZ, qN⟩ := q; exact ⟨q0, q1, qP, va_K.moved (u := U) (U := U.calling g mk a) (Vm.Alike.refl U.vm) qK, qD, sF.moved (u := U) (U := U.calling g mk a) (Vm.Alike.refl U.vm) qZ, nF.same rfl qN⟩, va_recv hK hP (ci := 6) (q0 := a) rfl (wld_o ct ad G y1 hc hk (by decide)), fun U hU hW => ⟨rfl, by rw [hU], by rw [hU]; exact hP, va_K.moved hW.alike hK, hD.weaken (fun _ _ _ _ => trivial), by rw [hU]; exact ((hZ.kept hS.2.1).narrow hf9).moved hW.alike, hN.warm hW⟩⟩ rfl rfl hl.1 rfl (lv_room (Nat.le_of_ble_eq_true rfl)) dX6_fillPiece_9 ⟨(Nat.zero_le _), (Nat.zero_le _)⟩) hS (fun q _ h => hf9 q h) hf9 (fun u t H locs ht hvm hw hB hz1 hk1 hS => ?_)
  obtain ⟨hP, hK9, hD9⟩ := hB
  rw [ht] at hP
  have hD := hD9.weaken (fun _ q _ h => hf9 q.1 h)
  refine lv_iconst (v := (0 : Int32)) hx hb dX6_fillPiece_12 (by decide) ?_
  refine lv_istore (lv' := [(6, .int (0 : Int32)), (0, .ref (ad a)), (1, va_re ad p0), (2, .int p1), (3, .int p2), (4, .int p3), (5, .int p4)]) hx hb dX6_fillPiece_13 hl (by decide) rfl (fun ls hl => ?_)
  obtain ⟨y3, hy3, hF⟩ := bnd_some hF
  have K3 : ∀ (H : Heap) (locs : List Loc) (ls : Array Slot), va_P D classes (wld ct ad G y3.2) H → va_D A (wld ct ad G y3.2) → va_S A s.heap H locs → lv_has ls 8 [(6, .int y3.1), (0, .ref (ad a)), (1, va_re ad p0), (2, .int p1), (3, .int p2), (4, .int p3), (5, .int p4)] → W p l e (headSpec wsX6_fillPiece ({ frames := 1, cells := 0, slots := 0, locals := 28 })).room s m ([.ref (ad a), va_re ad p0, .int p1, .int p2, .int p3, .int p4] : List Value).toArray below meth c H locs 0 0 (MQ below (va_Qv (fun (_ : Unit) => True) (fun _ t => kE D ct ad G A y t) A) ([.ref (ad a), va_re ad p0, .int p1, .int p2, .int p3, .int p4] : List Value).toArray s 0 0 A) (F0 m 104 ls []) := by
    intro H locs ls hP hD hS hl
    obtain rfl := Option.some.inj hF
    exact W.vret hx hb hr (fun t ht hW => ⟨⟨(), rfl, trivial, ⟨by rw [ht]; exact hP, va_K.moved hW.alike hK, hD⟩⟩, hS.F ht⟩) hS.2.2 dX6_fillPiece_104
  clear hF
  refine itr_rule (fun (s4 : Int32 × DD) => ∀ (H : Heap) (locs : List Loc) (ls : Array Slot), va_P D classes (wld ct ad G s4.2) H → va_D A (wld ct ad G s4.2) → va_S A s.heap H locs → lv_has ls 8 [(6, .int s4.1), (0, .ref (ad a)), (1, va_re ad p0), (2, .int p1), (3, .int p2), (4, .int p3), (5, .int p4)] → W p l e (headSpec wsX6_fillPiece ({ frames := 1, cells := 0, slots := 0, locals := 28 })).room s m ([.ref (ad a), va_re ad p0, .int p1, .int p2, .int p3, .int p4] : List Value).toArray below meth c H locs 0 0 (MQ below (va_Qv (fun (_ : Unit) => True) (fun _ t => kE D ct ad G A y t) A) ([.ref (ad a), va_re ad p0, .int p1, .int p2, .int p3, .int p4] : List Value).toArray s 0 0 A) (F0 m 15 ls [])) ?_ _ _ hy3 _ _ _ hP hD hS (lv_sub hl [0, 1, 2, 3, 4, 5, 6] rfl)
  rintro s4 ⟨z6, hF, hwz6⟩ H locs ls hP hD hS hl
  try dsimp only at hF
  refine lv_iload hx hb dX6_fillPiece_15 (lv_at hl 0 rfl) ?_
  refine lv_bipush (v := (16 : Int32)) hx hb dX6_fillPiece_17 (by decide) ?_
  refine lv_icmp_ge (tgt := 104) hx hb dX6_fillPiece_19 (by decide) (fun c7 => ?_) (fun c7 => ?_)
  · rw [if_pos c7] at hF
    obtain rfl := Option.some.inj hF
    subst hwz6
    exact K3 _ _ _ hP hD hS (lv_sub hl [0, 1, 2, 3, 4, 5, 6] rfl)
  · rw [if_neg c7] at hF
    refine lv_aload_n hx hb dX6_fillPiece_22 rfl (lv_at hl 1 rfl) ?_
    refine va_get (D := D) (ci := 6) (v := va_re ad (s4.2.2 a 0)) (C := RX6) (T := TX6) (N := 14) hx hb hts (by decide +kernel) hown hK hP a (wld_o ct ad G s4.2 hc hk (by decide)) rfl 0 (by decide) (hts (.fieldLink RX6 9 "VideoSuite$Samples" "guess" "[I") (by decide +kernel)) (fun _ h9 => h9) rfl dX6_fillPiece_23 ?_
    refine lv_iload hx hb dX6_fillPiece_26 (lv_at hl 5 rfl) ?_
    refine lv_iload hx hb dX6_fillPiece_28 (lv_at hl 0 rfl) ?_
    refine lv_iconst (v := (4 : Int32)) hx hb dX6_fillPiece_30 (by decide) ?_
    refine lv_idiv hx hb dX6_fillPiece_31 (by decide) ?_
    obtain ⟨x8, ex8, hF⟩ := ltt_some hF
    refine lv_topi (fun zx8 ezx8 => ?_)
    obtain rfl : x8 = zx8 := ex8.trans ezx8.symm
    refine lv_iload hx hb dX6_fillPiece_32 (lv_at hl 6 rfl) ?_
    refine lv_imul hx hb dX6_fillPiece_34 ?_
    obtain ⟨x9, ex9, hF⟩ := ltt_some hF
    refine lv_topi (fun zx9 ezx9 => ?_)
    obtain rfl : x9 = zx9 := ex9.trans ezx9.symm
    refine lv_iadd hx hb dX6_fillPiece_35 ?_
    obtain ⟨x10, ex10, hF⟩ := ltt_some hF
    refine lv_topi (fun zx10 ezx10 => ?_)
    obtain rfl : x10 = zx10 := ex10.trans ezx10.symm
    refine lv_iload hx hb dX6_fillPiece_36 (lv_at hl 0 rfl) ?_
    refine lv_iconst (v := (4 : Int32)) hx hb dX6_fillPiece_38 (by decide) ?_
    refine lv_irem hx hb dX6_fillPiece_39 (by decide) ?_
    obtain ⟨x11, ex11, hF⟩ := ltt_some hF
    refine lv_topi (fun zx11 ezx11 => ?_)
    obtain rfl : x11 = zx11 := ex11.trans ezx11.symm
    refine lv_iadd hx hb dX6_fillPiece_40 ?_
    obtain ⟨x12, ex12, hF⟩ := ltt_some hF
    refine lv_topi (fun zx12 ezx12 => ?_)
    obtain rfl : x12 = zx12 := ex12.trans ezx12.symm
    obtain ⟨b13, ho13, hc13, hk13, hF⟩ := dr_some hF
    refine W_st (st' := [.int x12, .ref (ad b13)]) (by rw [va_some ho13]) ?_
    obtain ⟨hvc, hF⟩ := chk_some hF
    refine va_iald hx hb hK hP b13 1 (wld_i ct ad G s4.2 hc13 hk13) rfl hvc dX6_fillPiece_41 ?_
    obtain ⟨x14, ex14, hF⟩ := ltt_some hF
    refine lv_topi (fun zx14 ezx14 => ?_)
    obtain rfl : x14 = zx14 := ex14.trans ezx14.symm
    refine lv_aload_n hx hb dX6_fillPiece_42 rfl (lv_at hl 1 rfl) ?_
    refine va_get (D := D) (ci := 6) (v := va_re ad (s4.2.2 a 6)) (C := RX6) (T := TX6) (N := 14) hx hb hts (by decide +kernel) hown hK hP a (wld_o ct ad G s4.2 hc hk (by decide)) rfl 6 (by decide) (hts (.fieldLink RX6 30 "VideoSuite$Samples" "rest" "[I") (by decide +kernel)) (fun _ h9 => h9) rfl dX6_fillPiece_43 ?_
    refine lv_iload hx hb dX6_fillPiece_46 (lv_at hl 0 rfl) ?_
    obtain ⟨b15, ho15, hc15, hk15, hF⟩ := dr_some hF
    refine W_st (st' := [.int s4.1, .ref (ad b15), .int x14]) (by rw [va_some ho15]) ?_
    obtain ⟨hvc, hF⟩ := chk_some hF
    refine va_iald hx hb hK hP b15 1 (wld_i ct ad G s4.2 hc15 hk15) rfl hvc dX6_fillPiece_48 ?_
    obtain ⟨x16, ex16, hF⟩ := ltt_some hF
    refine lv_topi (fun zx16 ezx16 => ?_)
    obtain rfl : x16 = zx16 := ex16.trans ezx16.symm
    refine lv_bipush (v := (32 : Int32)) hx hb dX6_fillPiece_49 (by decide) ?_
    refine lv_iadd hx hb dX6_fillPiece_51 ?_
    obtain ⟨x17, ex17, hF⟩ := ltt_some hF
    refine lv_topi (fun zx17 ezx17 => ?_)
    obtain rfl : x17 = zx17 := ex17.trans ezx17.symm
    refine lv_bipush (v := (6 : Int32)) hx hb dX6_fillPiece_52 (by decide) ?_
    refine lv_ishr hx hb dX6_fillPiece_54 ?_
    obtain ⟨x18, ex18, hF⟩ := ltt_some hF
    refine lv_topi (fun zx18 ezx18 => ?_)
    obtain rfl : x18 = zx18 := ex18.trans ezx18.symm
    refine lv_iadd hx hb dX6_fillPiece_55 ?_
    obtain ⟨x19, ex19, hF⟩ := ltt_some hF
    refine lv_topi (fun zx19 ezx19 => ?_)
    obtain rfl : x19 = zx19 := ex19.trans ezx19.symm
    refine lv_istore (lv' := [(7, .int x19), (6, .int s4.1), (0, .ref (ad a)), (1, va_re ad p0), (2, .int p1), (3, .int p2), (4, .int p3), (5, .int p4)]) hx hb dX6_fillPiece_56 hl (by decide) rfl (fun ls hl => ?_)
    refine lv_aloadq_n hx hb dX6_fillPiece_58 rfl (lv_at hl 3 rfl) ?_
    refine lv_iload_n hx hb dX6_fillPiece_59 rfl (lv_at hl 4 rfl) ?_
    refine lv_iload hx hb dX6_fillPiece_60 (lv_at hl 1 rfl) ?_
    refine lv_iconst (v := (4 : Int32)) hx hb dX6_fillPiece_62 (by decide) ?_
    refine lv_idiv hx hb dX6_fillPiece_63 (by decide) ?_
    obtain ⟨x20, ex20, hF⟩ := ltt_some hF
    refine lv_topi (fun zx20 ezx20 => ?_)
    obtain rfl : x20 = zx20 := ex20.trans ezx20.symm
    refine lv_iload_n hx hb dX6_fillPiece_64 rfl (lv_at hl 5 rfl) ?_
    refine lv_imul hx hb dX6_fillPiece_65 ?_
    obtain ⟨x21, ex21, hF⟩ := ltt_some hF
    refine lv_topi (fun zx21 ezx21 => ?_)
    obtain rfl : x21 = zx21 := ex21.trans ezx21.symm
    refine lv_iadd hx hb dX6_fillPiece_66 ?_
    obtain ⟨x22, ex22, hF⟩ := ltt_some hF
    refine lv_topi (fun zx22 ezx22 => ?_)
    obtain rfl : x22 = zx22 := ex22.trans ezx22.symm
    refine lv_iload hx hb dX6_fillPiece_67 (lv_at hl 1 rfl) ?_
    refine lv_iconst (v := (4 : Int32)) hx hb dX6_fillPiece_69 (by decide) ?_
    refine lv_irem hx hb dX6_fillPiece_70 (by decide) ?_
    obtain ⟨x23, ex23, hF⟩ := ltt_some hF
    refine lv_topi (fun zx23 ezx23 => ?_)
    obtain rfl : x23 = zx23 := ex23.trans ezx23.symm
    refine lv_iadd hx hb dX6_fillPiece_71 ?_
    obtain ⟨x24, ex24, hF⟩ := ltt_some hF
    refine lv_topi (fun zx24 ezx24 => ?_)
    obtain rfl : x24 = zx24 := ex24.trans ezx24.symm
    refine lv_iload hx hb dX6_fillPiece_72 (lv_at hl 0 rfl) ?_
    obtain ⟨y25, hy25, hF⟩ := bnd_some hF
    have J25 : ∀ (H : Heap) (locs : List Loc) (ls : Array Slot), va_P D classes (wld ct ad G s4.2) H → va_D A (wld ct ad G s4.2) → va_S A s.heap H locs → lv_has ls 8 [(7, .int x19), (6, .int s4.1), (0, .ref (ad a)), (1, va_re ad p0), (2, .int p1), (3, .int p2), (4, .int p3), (5, .int p4)] → W p l e (headSpec wsX6_fillPiece ({ frames := 1, cells := 0, slots := 0, locals := 28 })).room s m ([.ref (ad a), va_re ad p0, .int p1, .int p2, .int p3, .int p4] : List Value).toArray below meth c H locs 0 0 (MQ below (va_Qv (fun (_ : Unit) => True) (fun _ t => kE D ct ad G A y t) A) ([.ref (ad a), va_re ad p0, .int p1, .int p2, .int p3, .int p4] : List Value).toArray s 0 0 A) (F0 m 97 ls [.int y25, .int x24, va_re ad p0]) := by
      intro H locs ls hP hD hS hl
      obtain ⟨b26, ho26, hc26, hk26, hF⟩ := dr_some hF
      refine W_st (st' := [.int y25, .int x24, .ref (ad b26)]) (by rw [va_some ho26]) ?_
      obtain ⟨hvc, hF⟩ := chk_some hF
      refine va_iast hx hb hK hP hD hS b26 1 (wld_i ct ad G s4.2 hc26 hk26) rfl hvc dX6_fillPiece_97 (fun H locs hP hD hS => ?_)
      obtain ⟨M27, eM27, hF⟩ := ltt_some hF
      rw [set_i ct ad G s4.2 hc26 hk26, ← eM27] at hP hD
      obtain ⟨x28, ex28, hF⟩ := ltt_some hF
      refine lv_iinc (v := x28) (lv' := [(6, .int x28), (7, .int x19), (0, .ref (ad a)), (1, va_re ad p0), (2, .int p1), (3, .int p2), (4, .int p3), (5, .int p4)]) hx hb dX6_fillPiece_98 hl (k := 1) rfl (by rw [ex28]; rfl) (by decide) rfl (fun ls hl => ?_)
      refine lv_goto (tgt := 15) hx hb dX6_fillPiece_101 (by decide) ?_
      obtain rfl := Option.some.inj hF
      exact hwz6 _ _ _ hP hD hS (lv_sub hl [0, 2, 3, 4, 5, 6, 7] rfl)
    clear hF
    have hF := hy25
    clear hy25
    refine lv_if_ge (tgt := 81) hx hb dX6_fillPiece_74 (by decide) (fun c29 => ?_) (fun c29 => ?_)
    · rw [if_pos c29] at hF
      refine lv_iload hx hb dX6_fillPiece_81 (lv_at hl 0 rfl) ?_
      refine lv_sipush (v := (255 : Int32)) hx hb dX6_fillPiece_83 (by decide) ?_
      obtain ⟨y30, hy30, hF⟩ := bnd_some hF
      have J30 : ∀ (H : Heap) (locs : List Loc) (ls : Array Slot), va_P D classes (wld ct ad G s4.2) H → va_D A (wld ct ad G s4.2) → va_S A s.heap H locs → lv_has ls 8 [(7, .int x19), (6, .int s4.1), (0, .ref (ad a)), (1, va_re ad p0), (2, .int p1), (3, .int p2), (4, .int p3), (5, .int p4)] → W p l e (headSpec wsX6_fillPiece ({ frames := 1, cells := 0, slots := 0, locals := 28 })).room s m ([.ref (ad a), va_re ad p0, .int p1, .int p2, .int p3, .int p4] : List Value).toArray below meth c H locs 0 0 (MQ below (va_Qv (fun (_ : Unit) => True) (fun _ t => kE D ct ad G A y t) A) ([.ref (ad a), va_re ad p0, .int p1, .int p2, .int p3, .int p4] : List Value).toArray s 0 0 A) (F0 m 97 ls [.int y30, .int x24, va_re ad p0]) := by
        intro H locs ls hP hD hS hl
        obtain rfl := Option.some.inj hF
        exact J25 _ _ _ hP hD hS (lv_sub hl [0, 1, 2, 3, 4, 5, 6, 7] rfl)
      clear hF
      have hF := hy30
      clear hy30
      refine lv_icmp_le (tgt := 95) hx hb dX6_fillPiece_86 (by decide) (fun c31 => ?_) (fun c31 => ?_)
      · rw [if_pos c31] at hF
        refine lv_iload hx hb dX6_fillPiece_95 (lv_at hl 0 rfl) ?_
        obtain rfl := Option.some.inj hF
        exact J30 _ _ _ hP hD hS (lv_sub hl [0, 1, 2, 3, 4, 5, 6, 7] rfl)
      · rw [if_neg c31] at hF
        refine lv_sipush (v := (255 : Int32)) hx hb dX6_fillPiece_89 (by decide) ?_
        refine lv_goto (tgt := 97) hx hb dX6_fillPiece_92 (by decide) ?_
        obtain rfl := Option.some.inj hF
        exact J30 _ _ _ hP hD hS (lv_sub hl [0, 1, 2, 3, 4, 5, 6, 7] rfl)
    · rw [if_neg c29] at hF
      refine lv_iconst (v := (0 : Int32)) hx hb dX6_fillPiece_77 (by decide) ?_
      refine lv_goto (tgt := 97) hx hb dX6_fillPiece_78 (by decide) ?_
      obtain rfl := Option.some.inj hF
      exact J25 _ _ _ hP hD hS (lv_sub hl [0, 1, 2, 3, 4, 5, 6, 7] rfl)
theorem ggX6_fillRaw_X6_colourAt : GoodIn wsX6_fillRaw wsX6_colourAt := goodIn_r _ [15, 12, 50, 51, 52, 53, 54, 55, 56, 57, 58, 59, 60, 61, 62, 63, 64, 65, 66, 67] (by decide +kernel) (by decide +kernel)
set_option maxRecDepth 20000 in
theorem gX6_fillRaw_X6_colourAt : GoodIn wsX6_fillRaw (va_wsS RX6 206 yX6_colourAt wsX6_colourAt) := goodIn_app (goodIn_of _ (by decide +kernel)) ggX6_fillRaw_X6_colourAt
theorem ggX6_fillRaw_X6_lumaAt : GoodIn wsX6_fillRaw wsX6_lumaAt := goodIn_r _ [11, 12, 50, 51, 52, 53, 54, 55, 56, 57, 58, 59, 60, 61, 62, 63, 64, 65, 66, 67] (by decide +kernel) (by decide +kernel)
set_option maxRecDepth 20000 in
theorem gX6_fillRaw_X6_lumaAt : GoodIn wsX6_fillRaw (va_wsS RX6 175 yX6_lumaAt wsX6_lumaAt) := goodIn_app (goodIn_of _ (by decide +kernel)) ggX6_fillRaw_X6_lumaAt
set_option maxRecDepth 20000 in
theorem dX6_fillRaw_0 : decode cX6_fillRaw 0 = .ok (.iconst 0, 1) := by decide +kernel
theorem dX6_fillRaw_1 : decode cX6_fillRaw 1 = .ok (.istore_n 3, 1) := by decide +kernel
theorem dX6_fillRaw_2 : decode cX6_fillRaw 2 = .ok (.iload_n 3, 1) := by decide +kernel
theorem dX6_fillRaw_3 : decode cX6_fillRaw 3 = .ok (.bipush 16, 2) := by decide +kernel
theorem dX6_fillRaw_5 : decode cX6_fillRaw 5 = .ok (.if_icmp .ge 41, 3) := by decide +kernel
theorem dX6_fillRaw_8 : decode cX6_fillRaw 8 = .ok (.aload_n 0, 1) := by decide +kernel
theorem dX6_fillRaw_9 : decode cX6_fillRaw 9 = .ok (.getfield 9, 3) := by decide +kernel
theorem dX6_fillRaw_12 : decode cX6_fillRaw 12 = .ok (.bipush 16, 2) := by decide +kernel
theorem dX6_fillRaw_14 : decode cX6_fillRaw 14 = .ok (.iload_n 3, 1) := by decide +kernel
theorem dX6_fillRaw_15 : decode cX6_fillRaw 15 = .ok (.imul, 1) := by decide +kernel
theorem dX6_fillRaw_16 : decode cX6_fillRaw 16 = .ok (.aload_n 1, 1) := by decide +kernel
theorem dX6_fillRaw_17 : decode cX6_fillRaw 17 = .ok (.getfield 46, 3) := by decide +kernel
theorem dX6_fillRaw_20 : decode cX6_fillRaw 20 = .ok (.getfield 121, 3) := by decide +kernel
theorem dX6_fillRaw_23 : decode cX6_fillRaw 23 = .ok (.iconst 0, 1) := by decide +kernel
theorem dX6_fillRaw_24 : decode cX6_fillRaw 24 = .ok (.aaload, 1) := by decide +kernel
theorem dX6_fillRaw_25 : decode cX6_fillRaw 25 = .ok (.aload_n 1, 1) := by decide +kernel
theorem dX6_fillRaw_26 : decode cX6_fillRaw 26 = .ok (.getfield 46, 3) := by decide +kernel
theorem dX6_fillRaw_29 : decode cX6_fillRaw 29 = .ok (.iload_n 2, 1) := by decide +kernel
theorem dX6_fillRaw_30 : decode cX6_fillRaw 30 = .ok (.iconst 0, 1) := by decide +kernel
theorem dX6_fillRaw_31 : decode cX6_fillRaw 31 = .ok (.iload_n 3, 1) := by decide +kernel
theorem dX6_fillRaw_32 : decode cX6_fillRaw 32 = .ok (.invokestatic 175, 3) := by decide +kernel
theorem dX6_fillRaw_35 : decode cX6_fillRaw 35 = .ok (.bipush 16, 2) := by decide +kernel
theorem dX6_fillRaw_37 : decode cX6_fillRaw 37 = .ok (.invokestatic 250, 3) := by decide +kernel
theorem dX6_fillRaw_40 : decode cX6_fillRaw 40 = .ok (.iinc 3 1, 3) := by decide +kernel
theorem dX6_fillRaw_43 : decode cX6_fillRaw 43 = .ok (.goto (-41), 3) := by decide +kernel
theorem dX6_fillRaw_46 : decode cX6_fillRaw 46 = .ok (.iconst 1, 1) := by decide +kernel
theorem dX6_fillRaw_47 : decode cX6_fillRaw 47 = .ok (.istore_n 3, 1) := by decide +kernel
theorem dX6_fillRaw_48 : decode cX6_fillRaw 48 = .ok (.iload_n 3, 1) := by decide +kernel
theorem dX6_fillRaw_49 : decode cX6_fillRaw 49 = .ok (.iconst 3, 1) := by decide +kernel
theorem dX6_fillRaw_50 : decode cX6_fillRaw 50 = .ok (.if_icmp .ge 68, 3) := by decide +kernel
theorem dX6_fillRaw_53 : decode cX6_fillRaw 53 = .ok (.iconst 0, 1) := by decide +kernel
theorem dX6_fillRaw_54 : decode cX6_fillRaw 54 = .ok (.istore 4, 2) := by decide +kernel
theorem dX6_fillRaw_56 : decode cX6_fillRaw 56 = .ok (.iload 4, 2) := by decide +kernel
theorem dX6_fillRaw_58 : decode cX6_fillRaw 58 = .ok (.bipush 8, 2) := by decide +kernel
theorem dX6_fillRaw_60 : decode cX6_fillRaw 60 = .ok (.if_icmp .ge 52, 3) := by decide +kernel
theorem dX6_fillRaw_63 : decode cX6_fillRaw 63 = .ok (.aload_n 0, 1) := by decide +kernel
theorem dX6_fillRaw_64 : decode cX6_fillRaw 64 = .ok (.getfield 9, 3) := by decide +kernel
theorem dX6_fillRaw_67 : decode cX6_fillRaw 67 = .ok (.sipush 192, 3) := by decide +kernel
theorem dX6_fillRaw_70 : decode cX6_fillRaw 70 = .ok (.bipush 64, 2) := by decide +kernel
theorem dX6_fillRaw_72 : decode cX6_fillRaw 72 = .ok (.iload_n 3, 1) := by decide +kernel
theorem dX6_fillRaw_73 : decode cX6_fillRaw 73 = .ok (.imul, 1) := by decide +kernel
theorem dX6_fillRaw_74 : decode cX6_fillRaw 74 = .ok (.iadd, 1) := by decide +kernel
theorem dX6_fillRaw_75 : decode cX6_fillRaw 75 = .ok (.bipush 8, 2) := by decide +kernel
theorem dX6_fillRaw_77 : decode cX6_fillRaw 77 = .ok (.iload 4, 2) := by decide +kernel
theorem dX6_fillRaw_79 : decode cX6_fillRaw 79 = .ok (.imul, 1) := by decide +kernel
theorem dX6_fillRaw_80 : decode cX6_fillRaw 80 = .ok (.iadd, 1) := by decide +kernel
theorem dX6_fillRaw_81 : decode cX6_fillRaw 81 = .ok (.aload_n 1, 1) := by decide +kernel
theorem dX6_fillRaw_82 : decode cX6_fillRaw 82 = .ok (.getfield 46, 3) := by decide +kernel
theorem dX6_fillRaw_85 : decode cX6_fillRaw 85 = .ok (.getfield 121, 3) := by decide +kernel
theorem dX6_fillRaw_88 : decode cX6_fillRaw 88 = .ok (.iload_n 3, 1) := by decide +kernel
theorem dX6_fillRaw_89 : decode cX6_fillRaw 89 = .ok (.aaload, 1) := by decide +kernel
theorem dX6_fillRaw_90 : decode cX6_fillRaw 90 = .ok (.aload_n 1, 1) := by decide +kernel
theorem dX6_fillRaw_91 : decode cX6_fillRaw 91 = .ok (.getfield 46, 3) := by decide +kernel
theorem dX6_fillRaw_94 : decode cX6_fillRaw 94 = .ok (.iload_n 2, 1) := by decide +kernel
theorem dX6_fillRaw_95 : decode cX6_fillRaw 95 = .ok (.iconst 0, 1) := by decide +kernel
theorem dX6_fillRaw_96 : decode cX6_fillRaw 96 = .ok (.iload 4, 2) := by decide +kernel
theorem dX6_fillRaw_98 : decode cX6_fillRaw 98 = .ok (.invokestatic 206, 3) := by decide +kernel
theorem dX6_fillRaw_101 : decode cX6_fillRaw 101 = .ok (.bipush 8, 2) := by decide +kernel
theorem dX6_fillRaw_103 : decode cX6_fillRaw 103 = .ok (.invokestatic 250, 3) := by decide +kernel
theorem dX6_fillRaw_106 : decode cX6_fillRaw 106 = .ok (.iinc 4 1, 3) := by decide +kernel
theorem dX6_fillRaw_109 : decode cX6_fillRaw 109 = .ok (.goto (-53), 3) := by decide +kernel
theorem dX6_fillRaw_112 : decode cX6_fillRaw 112 = .ok (.iinc 3 1, 3) := by decide +kernel
theorem dX6_fillRaw_115 : decode cX6_fillRaw 115 = .ok (.goto (-67), 3) := by decide +kernel
theorem dX6_fillRaw_118 : decode cX6_fillRaw 118 = .ok (.return_, 1) := by decide +kernel
def FX6_fillRaw (G : GG) (M : DD) (a : Nat) (p0 : Option Nat) (p1 : Int32) : Option (DD) :=
  bnd (itr (fun (s2 : Int32 × DD) => ((if ((16 : Int32)) ≤ s2.1 then (some (.inr (s2.1, s2.2))) else
  (ltt ((((16 : Int32)) * s2.1)) fun x29 =>
  dr G 9 p0 fun b30 =>
  dr G 4 ((s2.2.2 b30 0)) fun b31 =>
  dr G 15 ((s2.2.2 b31 4)) fun b32 =>
  chk (¬ (((0 : Int32)) < 0 ∨ G.2.2 b32 ≤ ((0 : Int32)).toNatClampNeg)) <|
  bnd (FX6_lumaAt G s2.2 ((s2.2.2 b30 0)) p1 ((0 : Int32)) s2.1) fun y33 =>
  dr G 13 ((s2.2.2 a 0)) fun b34 =>
  dr G 13 ((s2.2.2 b32 ((0 : Int32)).toNatClampNeg)) fun b35 =>
  chk (¬ x29 < 0 ∧ ¬ y33.2 < 0 ∧ ¬ ((16 : Int32)) < 0 ∧ x29.toNatClampNeg + ((16 : Int32)).toNatClampNeg ≤ G.2.2 b34 ∧ y33.2.toNatClampNeg + ((16 : Int32)).toNatClampNeg ≤ G.2.2 b35) <|
  ltt (rI y33.1 b35 (va_cpy (y33.1.1 b34) (y33.1.1 b35) x29.toNatClampNeg y33.2.toNatClampNeg ((16 : Int32)).toNatClampNeg)) fun M36 =>
  ltt (s2.1 + (1 : Int32)) fun x37 =>
  some (.inl (x37, M36)))) : Option ((Int32 × DD) ⊕ (Int32 × DD)))) 1000000 ((0 : Int32), M)) fun (y1 : Int32 × DD) =>
  bnd (itr (fun (s5 : Int32 × DD) => ((if ((3 : Int32)) ≤ s5.1 then (some (.inr (s5.1, s5.2))) else
  (bnd (itr (fun (s10 : Int32 × DD) => ((if ((8 : Int32)) ≤ s10.1 then (some (.inr (s10.1, s10.2))) else
  (ltt ((((64 : Int32)) * s5.1)) fun x15 =>
  ltt ((((192 : Int32)) + x15)) fun x16 =>
  ltt ((((8 : Int32)) * s10.1)) fun x17 =>
  ltt ((x16 + x17)) fun x18 =>
  dr G 9 p0 fun b19 =>
  dr G 4 ((s10.2.2 b19 0)) fun b20 =>
  dr G 15 ((s10.2.2 b20 4)) fun b21 =>
  chk (¬ (s5.1 < 0 ∨ G.2.2 b21 ≤ s5.1.toNatClampNeg)) <|
  bnd (FX6_colourAt G s10.2 ((s10.2.2 b19 0)) p1 ((0 : Int32)) s10.1) fun y22 =>
  dr G 13 ((s10.2.2 a 0)) fun b23 =>
  dr G 13 ((s10.2.2 b21 s5.1.toNatClampNeg)) fun b24 =>
  chk (¬ x18 < 0 ∧ ¬ y22.2 < 0 ∧ ¬ ((8 : Int32)) < 0 ∧ x18.toNatClampNeg + ((8 : Int32)).toNatClampNeg ≤ G.2.2 b23 ∧ y22.2.toNatClampNeg + ((8 : Int32)).toNatClampNeg ≤ G.2.2 b24) <|
  ltt (rI y22.1 b24 (va_cpy (y22.1.1 b23) (y22.1.1 b24) x18.toNatClampNeg y22.2.toNatClampNeg ((8 : Int32)).toNatClampNeg)) fun M25 =>
  ltt (s10.1 + (1 : Int32)) fun x26 =>
  some (.inl (x26, M25)))) : Option ((Int32 × DD) ⊕ (Int32 × DD)))) 1000000 ((0 : Int32), s5.2)) fun (y9 : Int32 × DD) =>
  ltt (s5.1 + (1 : Int32)) fun x12 =>
  some (.inl (x12, y9.2)))) : Option ((Int32 × DD) ⊕ (Int32 × DD)))) 1000000 ((1 : Int32), y1.2)) fun (y4 : Int32 × DD) =>
  some y4.2
set_option maxHeartbeats 4000000 in
set_option maxRecDepth 100000 in
theorem kX6_fillRaw (l : Launch) (D : va_G) (ct : CT) (ad : Nat → Nat) (Z : Nat → Nat) (G : GG) (M : DD) (sz : Nat) (a : Nat) (p0 : Option Nat) (p1 : Int32) (y : DD) (hc : a < G.1) (hk : G.2.1 a = 6) (hF : FX6_fillRaw G M a p0 p1 = some y) : Met l yX6_fillRaw wsX6_fillRaw ({ frames := 1, cells := 0, slots := 0, locals := 80 }) (va_Pc [.ref (ad a), va_re ad p0, .int p1] (kB D ct ad Z G M sz)) (va_Qv (fun (_ : Unit) => True) (fun _ t => kE D ct ad G (wA ad G sz) y t) (wA ad G sz)) 0 0 (wA ad G sz) := by
  refine Met.ofW (cc := cX6_fillRaw) (maxL := 5) (ret := none) (by decide) rfl ?_
  intro p e s m args below meth c s₁ B hml hv
  obtain ⟨rfl, hsz, hP, hK, hD0, hZ, hN⟩ := hv
  have hx := B.exec
  have hb := B.bytes
  have hr := B.returns
  have hts := atoms_spec (ws := wsX6_fillRaw) B.pre
  have hown : s.vm.findClass RX6 = some m.cls := findClass_of_methodNamed B.named
  have hlocks := B.notSynchronized
  subst hsz
  have hD := wD_self (sz := s.heap.size) hD0
  have hA9 : ∀ q, s.heap.size ≤ q → wA ad G s.heap.size q := fun q h => Or.inr h
  generalize hAe : wA ad G s.heap.size = A at hD hA9 hZ ⊢
  have hS : va_S A s.heap s.heap [] := va_S.rf
  have hl := lv_entry ([.ref (ad a), va_re ad p0, .int p1]) (n := 5) (by cases p0 <;> exact Nat.le_of_ble_eq_true rfl)
  rw [lg_entry_eq]
  generalize (lg_sl ([.ref (ad a), va_re ad p0, .int p1]) ++ List.replicate (5 - (lg_sl ([.ref (ad a), va_re ad p0, .int p1])).length) Slot.unset).toArray = ls at hl ⊢
  have hl : lv_has ls 5 [(0, .ref (ad a)), (1, va_re ad p0), (2, .int p1)] := by have e9 : lv_args 0 [.ref (ad a), va_re ad p0, .int p1] = [(0, .ref (ad a)), (1, va_re ad p0), (2, .int p1)] := (by cases p0 <;> rfl); rw [e9] at hl; exact hl
  unfold FX6_fillRaw at hF
  refine lv_iconst (v := (0 : Int32)) hx hb dX6_fillRaw_0 (by decide) ?_
  refine lv_istore_n (lv' := [(3, .int (0 : Int32)), (0, .ref (ad a)), (1, va_re ad p0), (2, .int p1)]) hx hb dX6_fillRaw_1 rfl hl (by decide) rfl (fun ls hl => ?_)
  obtain ⟨y1, hy1, hF⟩ := bnd_some hF
  have K1 : ∀ (H : Heap) (locs : List Loc) (ls : Array Slot), va_P D classes (wld ct ad G y1.2) H → va_D A (wld ct ad G y1.2) → va_S A s.heap H locs → lv_has ls 5 [(3, .int y1.1), (0, .ref (ad a)), (1, va_re ad p0), (2, .int p1)] → W p l e (headSpec wsX6_fillRaw ({ frames := 1, cells := 0, slots := 0, locals := 80 })).room s m ([.ref (ad a), va_re ad p0, .int p1] : List Value).toArray below meth c H locs 0 0 (MQ below (va_Qv (fun (_ : Unit) => True) (fun _ t => kE D ct ad G A y t) A) ([.ref (ad a), va_re ad p0, .int p1] : List Value).toArray s 0 0 A) (F0 m 46 ls []) := by
    intro H locs ls hP hD hS hl
    refine lv_iconst (v := (1 : Int32)) hx hb dX6_fillRaw_46 (by decide) ?_
    refine lv_istore_n (lv' := [(3, .int (1 : Int32)), (0, .ref (ad a)), (1, va_re ad p0), (2, .int p1)]) hx hb dX6_fillRaw_47 rfl hl (by decide) rfl (fun ls hl => ?_)
    obtain ⟨y4, hy4, hF⟩ := bnd_some hF
    have K4 : ∀ (H : Heap) (locs : List Loc) (ls : Array Slot), va_P D classes (wld ct ad G y4.2) H → va_D A (wld ct ad G y4.2) → va_S A s.heap H locs → lv_has ls 5 [(3, .int y4.1), (0, .ref (ad a)), (1, va_re ad p0), (2, .int p1)] → W p l e (headSpec wsX6_fillRaw ({ frames := 1, cells := 0, slots := 0, locals := 80 })).room s m ([.ref (ad a), va_re ad p0, .int p1] : List Value).toArray below meth c H locs 0 0 (MQ below (va_Qv (fun (_ : Unit) => True) (fun _ t => kE D ct ad G A y t) A) ([.ref (ad a), va_re ad p0, .int p1] : List Value).toArray s 0 0 A) (F0 m 118 ls []) := by
      intro H locs ls hP hD hS hl
      obtain rfl := Option.some.inj hF
      exact W.vret hx hb hr (fun t ht hW => ⟨⟨(), rfl, trivial, ⟨by rw [ht]; exact hP, va_K.moved hW.alike hK, hD⟩⟩, hS.F ht⟩) hS.2.2 dX6_fillRaw_118
    clear hF
    refine itr_rule (fun (s5 : Int32 × DD) => ∀ (H : Heap) (locs : List Loc) (ls : Array Slot), va_P D classes (wld ct ad G s5.2) H → va_D A (wld ct ad G s5.2) → va_S A s.heap H locs → lv_has ls 5 [(3, .int s5.1), (0, .ref (ad a)), (1, va_re ad p0), (2, .int p1)] → W p l e (headSpec wsX6_fillRaw ({ frames := 1, cells := 0, slots := 0, locals := 80 })).room s m ([.ref (ad a), va_re ad p0, .int p1] : List Value).toArray below meth c H locs 0 0 (MQ below (va_Qv (fun (_ : Unit) => True) (fun _ t => kE D ct ad G A y t) A) ([.ref (ad a), va_re ad p0, .int p1] : List Value).toArray s 0 0 A) (F0 m 48 ls [])) ?_ _ _ hy4 _ _ _ hP hD hS (lv_sub hl [0, 1, 2, 3] rfl)
    rintro s5 ⟨z7, hF, hwz7⟩ H locs ls hP hD hS hl
    try dsimp only at hF
    refine lv_iload_n hx hb dX6_fillRaw_48 rfl (lv_at hl 0 rfl) ?_
    refine lv_iconst (v := (3 : Int32)) hx hb dX6_fillRaw_49 (by decide) ?_
    refine lv_icmp_ge (tgt := 118) hx hb dX6_fillRaw_50 (by decide) (fun c8 => ?_) (fun c8 => ?_)
    · rw [if_pos c8] at hF
      obtain rfl := Option.some.inj hF
      subst hwz7
      exact K4 _ _ _ hP hD hS (lv_sub hl [0, 1, 2, 3] rfl)
    · rw [if_neg c8] at hF
      refine lv_iconst (v := (0 : Int32)) hx hb dX6_fillRaw_53 (by decide) ?_
      refine lv_istore (lv' := [(4, .int (0 : Int32)), (3, .int s5.1), (0, .ref (ad a)), (1, va_re ad p0), (2, .int p1)]) hx hb dX6_fillRaw_54 hl (by decide) rfl (fun ls hl => ?_)
      obtain ⟨y9, hy9, hF⟩ := bnd_some hF
      have K9 : ∀ (H : Heap) (locs : List Loc) (ls : Array Slot), va_P D classes (wld ct ad G y9.2) H → va_D A (wld ct ad G y9.2) → va_S A s.heap H locs → lv_has ls 5 [(4, .int y9.1), (3, .int s5.1), (0, .ref (ad a)), (1, va_re ad p0), (2, .int p1)] → W p l e (headSpec wsX6_fillRaw ({ frames := 1, cells := 0, slots := 0, locals := 80 })).room s m ([.ref (ad a), va_re ad p0, .int p1] : List Value).toArray below meth c H locs 0 0 (MQ below (va_Qv (fun (_ : Unit) => True) (fun _ t => kE D ct ad G A y t) A) ([.ref (ad a), va_re ad p0, .int p1] : List Value).toArray s 0 0 A) (F0 m 112 ls []) := by
        intro H locs ls hP hD hS hl
        obtain ⟨x12, ex12, hF⟩ := ltt_some hF
        refine lv_iinc (v := x12) (lv' := [(3, .int x12), (4, .int y9.1), (0, .ref (ad a)), (1, va_re ad p0), (2, .int p1)]) hx hb dX6_fillRaw_112 hl (k := 1) rfl (by rw [ex12]; rfl) (by decide) rfl (fun ls hl => ?_)
        refine lv_goto (tgt := 48) hx hb dX6_fillRaw_115 (by decide) ?_
        obtain rfl := Option.some.inj hF
        exact hwz7 _ _ _ hP hD hS (lv_sub hl [0, 2, 3, 4] rfl)
      clear hF
      refine itr_rule (fun (s10 : Int32 × DD) => ∀ (H : Heap) (locs : List Loc) (ls : Array Slot), va_P D classes (wld ct ad G s10.2) H → va_D A (wld ct ad G s10.2) → va_S A s.heap H locs → lv_has ls 5 [(4, .int s10.1), (3, .int s5.1), (0, .ref (ad a)), (1, va_re ad p0), (2, .int p1)] → W p l e (headSpec wsX6_fillRaw ({ frames := 1, cells := 0, slots := 0, locals := 80 })).room s m ([.ref (ad a), va_re ad p0, .int p1] : List Value).toArray below meth c H locs 0 0 (MQ below (va_Qv (fun (_ : Unit) => True) (fun _ t => kE D ct ad G A y t) A) ([.ref (ad a), va_re ad p0, .int p1] : List Value).toArray s 0 0 A) (F0 m 56 ls [])) ?_ _ _ hy9 _ _ _ hP hD hS (lv_sub hl [0, 1, 2, 3, 4] rfl)
      rintro s10 ⟨z13, hF, hwz13⟩ H locs ls hP hD hS hl
      try dsimp only at hF
      refine lv_iload hx hb dX6_fillRaw_56 (lv_at hl 0 rfl) ?_
      refine lv_bipush (v := (8 : Int32)) hx hb dX6_fillRaw_58 (by decide) ?_
      refine lv_icmp_ge (tgt := 112) hx hb dX6_fillRaw_60 (by decide) (fun c14 => ?_) (fun c14 => ?_)
      · rw [if_pos c14] at hF
        obtain rfl := Option.some.inj hF
        subst hwz13
        exact K9 _ _ _ hP hD hS (lv_sub hl [0, 1, 2, 3, 4] rfl)
      · rw [if_neg c14] at hF
        refine lv_aload_n hx hb dX6_fillRaw_63 rfl (lv_at hl 2 rfl) ?_
        refine va_get (D := D) (ci := 6) (v := va_re ad (s10.2.2 a 0)) (C := RX6) (T := TX6) (N := 14) hx hb hts (by decide +kernel) hown hK hP a (wld_o ct ad G s10.2 hc hk (by decide)) rfl 0 (by decide) (hts (.fieldLink RX6 9 "VideoSuite$Samples" "guess" "[I") (by decide +kernel)) (fun _ h9 => h9) rfl dX6_fillRaw_64 ?_
        refine lv_sipush (v := (192 : Int32)) hx hb dX6_fillRaw_67 (by decide) ?_
        refine lv_bipush (v := (64 : Int32)) hx hb dX6_fillRaw_70 (by decide) ?_
        refine lv_iload_n hx hb dX6_fillRaw_72 rfl (lv_at hl 1 rfl) ?_
        refine lv_imul hx hb dX6_fillRaw_73 ?_
        obtain ⟨x15, ex15, hF⟩ := ltt_some hF
        refine lv_topi (fun zx15 ezx15 => ?_)
        obtain rfl : x15 = zx15 := ex15.trans ezx15.symm
        refine lv_iadd hx hb dX6_fillRaw_74 ?_
        obtain ⟨x16, ex16, hF⟩ := ltt_some hF
        refine lv_topi (fun zx16 ezx16 => ?_)
        obtain rfl : x16 = zx16 := ex16.trans ezx16.symm
        refine lv_bipush (v := (8 : Int32)) hx hb dX6_fillRaw_75 (by decide) ?_
        refine lv_iload hx hb dX6_fillRaw_77 (lv_at hl 0 rfl) ?_
        refine lv_imul hx hb dX6_fillRaw_79 ?_
        obtain ⟨x17, ex17, hF⟩ := ltt_some hF
        refine lv_topi (fun zx17 ezx17 => ?_)
        obtain rfl : x17 = zx17 := ex17.trans ezx17.symm
        refine lv_iadd hx hb dX6_fillRaw_80 ?_
        obtain ⟨x18, ex18, hF⟩ := ltt_some hF
        refine lv_topi (fun zx18 ezx18 => ?_)
        obtain rfl : x18 = zx18 := ex18.trans ezx18.symm
        refine lv_aloadq_n hx hb dX6_fillRaw_81 rfl (lv_at hl 3 rfl) ?_
        obtain ⟨b19, ho19, hc19, hk19, hF⟩ := dr_some hF
        refine W_st (st' := [.ref (ad b19), .int x18, va_re ad (s10.2.2 a 0)]) (by rw [va_some ho19]) ?_
        refine va_get (D := D) (ci := 9) (v := va_re ad (s10.2.2 b19 0)) (C := RX9) (T := TX9) (N := 20) hx hb hts (by decide +kernel) hown hK hP b19 (wld_o ct ad G s10.2 hc19 hk19 (by decide)) rfl 0 (by decide) (hts (.fieldLink RX6 46 "VideoSuite$Work" "pic" "LVideoSuite$Picture;") (by decide +kernel)) (fun _ h9 => h9) rfl dX6_fillRaw_82 ?_
        obtain ⟨b20, ho20, hc20, hk20, hF⟩ := dr_some hF
        refine W_st (st' := [.ref (ad b20), .int x18, va_re ad (s10.2.2 a 0)]) (by rw [va_some ho20]) ?_
        refine va_get (D := D) (ci := 4) (v := va_re ad (s10.2.2 b20 4)) (C := RX4) (T := TX4) (N := 18) hx hb hts (by decide +kernel) hown hK hP b20 (wld_o ct ad G s10.2 hc20 hk20 (by decide)) rfl 4 (by decide) (hts (.fieldLink RX6 121 "VideoSuite$Picture" "plane" "[[I") (by decide +kernel)) (fun _ h9 => h9) rfl dX6_fillRaw_85 ?_
        refine lv_iload_n hx hb dX6_fillRaw_88 rfl (lv_at hl 1 rfl) ?_
        obtain ⟨b21, ho21, hc21, hk21, hF⟩ := dr_some hF
        refine W_st (st' := [.int s5.1, .ref (ad b21), .int x18, va_re ad (s10.2.2 a 0)]) (by rw [va_some ho21]) ?_
        obtain ⟨hvc, hF⟩ := chk_some hF
        refine ld_g hx hb hK hP hc21 hk21 hvc dX6_fillRaw_89 ?_
        refine lv_aloadq_n hx hb dX6_fillRaw_90 rfl (lv_at hl 3 rfl) ?_
        refine W_st (st' := [.ref (ad b19), va_re ad (s10.2.2 b21 s5.1.toNatClampNeg), .int x18, va_re ad (s10.2.2 a 0)]) (by rw [va_some ho19]) ?_
        refine va_get (D := D) (ci := 9) (v := va_re ad (s10.2.2 b19 0)) (C := RX9) (T := TX9) (N := 20) hx hb hts (by decide +kernel) hown hK hP b19 (wld_o ct ad G s10.2 hc19 hk19 (by decide)) rfl 0 (by decide) (hts (.fieldLink RX6 46 "VideoSuite$Work" "pic" "LVideoSuite$Picture;") (by decide +kernel)) (fun _ h9 => h9) rfl dX6_fillRaw_91 ?_
        refine lv_iload_n hx hb dX6_fillRaw_94 rfl (lv_at hl 4 rfl) ?_
        refine lv_iconst (v := (0 : Int32)) hx hb dX6_fillRaw_95 (by decide) ?_
        refine lv_iload hx hb dX6_fillRaw_96 (lv_at hl 0 rfl) ?_
        obtain ⟨y22, hy22, hF⟩ := bnd_some hF
        have hf9 := wA_in hD hA9 hS
        refine va_calli (va_runS (As := [va_re ad (s10.2.2 b19 0), .int p1, .int (0 : Int32), .int s10.1]) (rest := [va_re ad (s10.2.2 b21 s5.1.toNatClampNeg), .int x18, va_re ad (s10.2.2 a 0)]) ⟨hx, hb, hml, hown, hts⟩ (kX6_colourAt l D ct ad Z G s10.2 H.size ((s10.2.2 b19 0)) p1 ((0 : Int32)) s10.1 y22 hy22) (va_cwS 4 hts gX6_fillRaw_X6_colourAt rfl rfl rfl (by decide +kernel) ⟨Nat.le_of_ble_eq_true rfl, Nat.le_of_ble_eq_true rfl⟩) ⟨fun a U g mk q => by obtain ⟨q0, q1, qP, qK, qD, qZ, qN⟩ := q; exact ⟨q0, q1, qP, va_K.moved (u := U) (U := U.calling g mk a) (Vm.Alike.refl U.vm) qK, qD, sF.moved (u := U) (U := U.calling g mk a) (Vm.Alike.refl U.vm) qZ, nF.same rfl qN⟩, fun U hU hW => ⟨rfl, by rw [hU], by rw [hU]; exact hP, va_K.moved hW.alike hK, hD.weaken (fun _ _ _ _ => trivial), by rw [hU]; exact ((hZ.kept hS.2.1).narrow hf9).moved hW.alike, hN.warm hW⟩⟩ rfl rfl hl.1 rfl (lv_room (by simp only [List.map, va_re_cat]; exact Nat.le_of_ble_eq_true rfl)) dX6_fillRaw_98 ⟨(Nat.zero_le _), (Nat.zero_le _)⟩) hS (fun q _ h => hf9 q h) hf9 (fun r u t H locs ht hvm hw hB hz1 hk1 hS => ?_)
        obtain ⟨hP, hK9, hD9⟩ := hB
        rw [ht] at hP
        try dsimp only at hw
        subst hw
        have hD := hD9.weaken (fun _ q _ h => hf9 q.1 h)
        refine lv_bipush (v := (8 : Int32)) hx hb dX6_fillRaw_101 (by decide) ?_
        obtain ⟨b23, ho23, hc23, hk23, hF⟩ := dr_some hF
        refine W_st (st' := [.int (8 : Int32), .int y22.2, va_re ad (s10.2.2 b21 s5.1.toNatClampNeg), .int x18, .ref (ad b23)]) (by rw [va_some ho23]) ?_
        obtain ⟨b24, ho24, hc24, hk24, hF⟩ := dr_some hF
        refine W_st (st' := [.int (8 : Int32), .int y22.2, .ref (ad b24), .int x18, .ref (ad b23)]) (by rw [va_some ho24]) ?_
        obtain ⟨hv9, hF⟩ := chk_some hF
        refine va_copyi (ty := .int) hx hb (hml.trans hl.1.symm) hown (hts (.methodLink RX6 250 arraycopyName) (by decide +kernel)) (hts (.native arraycopyName) (by decide +kernel)) (hts (.static arraycopyName) (by decide +kernel)) (hts (.initialized "java/lang/System") (by decide +kernel)) hK hP hD hS b23 b24 1 1 (wld_i ct ad G y22.1 hc23 hk23) (wld_i ct ad G y22.1 hc24 hk24) rfl rfl rfl hv9.1 hv9.2.1 hv9.2.2.1 hv9.2.2.2.1 hv9.2.2.2.2 (fun _ _ => rfl) (Nat.le_of_ble_eq_true rfl) (by decide +kernel) dX6_fillRaw_103 (fun H locs hP hD hS => ?_)
        obtain ⟨M25, eM25, hF⟩ := ltt_some hF
        rw [set_ri ct ad G y22.1 hc24 hk24, ← eM25] at hP hD
        obtain ⟨x26, ex26, hF⟩ := ltt_some hF
        refine lv_iinc (v := x26) (lv' := [(4, .int x26), (3, .int s5.1), (0, .ref (ad a)), (1, va_re ad p0), (2, .int p1)]) hx hb dX6_fillRaw_106 hl (k := 0) rfl (by rw [ex26]; rfl) (by decide) rfl (fun ls hl => ?_)
        refine lv_goto (tgt := 56) hx hb dX6_fillRaw_109 (by decide) ?_
        obtain rfl := Option.some.inj hF
        exact hwz13 _ _ _ hP hD hS (lv_sub hl [0, 1, 2, 3, 4] rfl)
  clear hF
  refine itr_rule (fun (s2 : Int32 × DD) => ∀ (H : Heap) (locs : List Loc) (ls : Array Slot), va_P D classes (wld ct ad G s2.2) H → va_D A (wld ct ad G s2.2) → va_S A s.heap H locs → lv_has ls 5 [(3, .int s2.1), (0, .ref (ad a)), (1, va_re ad p0), (2, .int p1)] → W p l e (headSpec wsX6_fillRaw ({ frames := 1, cells := 0, slots := 0, locals := 80 })).room s m ([.ref (ad a), va_re ad p0, .int p1] : List Value).toArray below meth c H locs 0 0 (MQ below (va_Qv (fun (_ : Unit) => True) (fun _ t => kE D ct ad G A y t) A) ([.ref (ad a), va_re ad p0, .int p1] : List Value).toArray s 0 0 A) (F0 m 2 ls [])) ?_ _ _ hy1 _ _ _ hP hD hS (lv_sub hl [0, 1, 2, 3] rfl)
  rintro s2 ⟨z27, hF, hwz27⟩ H locs ls hP hD hS hl
  try dsimp only at hF
  refine lv_iload_n hx hb dX6_fillRaw_2 rfl (lv_at hl 0 rfl) ?_
  refine lv_bipush (v := (16 : Int32)) hx hb dX6_fillRaw_3 (by decide) ?_
  refine lv_icmp_ge (tgt := 46) hx hb dX6_fillRaw_5 (by decide) (fun c28 => ?_) (fun c28 => ?_)
  · rw [if_pos c28] at hF
    obtain rfl := Option.some.inj hF
    subst hwz27
    exact K1 _ _ _ hP hD hS (lv_sub hl [0, 1, 2, 3] rfl)
  · rw [if_neg c28] at hF
    refine lv_aload_n hx hb dX6_fillRaw_8 rfl (lv_at hl 1 rfl) ?_
    refine va_get (D := D) (ci := 6) (v := va_re ad (s2.2.2 a 0)) (C := RX6) (T := TX6) (N := 14) hx hb hts (by decide +kernel) hown hK hP a (wld_o ct ad G s2.2 hc hk (by decide)) rfl 0 (by decide) (hts (.fieldLink RX6 9 "VideoSuite$Samples" "guess" "[I") (by decide +kernel)) (fun _ h9 => h9) rfl dX6_fillRaw_9 ?_
    refine lv_bipush (v := (16 : Int32)) hx hb dX6_fillRaw_12 (by decide) ?_
    refine lv_iload_n hx hb dX6_fillRaw_14 rfl (lv_at hl 0 rfl) ?_
    refine lv_imul hx hb dX6_fillRaw_15 ?_
    obtain ⟨x29, ex29, hF⟩ := ltt_some hF
    refine lv_topi (fun zx29 ezx29 => ?_)
    obtain rfl : x29 = zx29 := ex29.trans ezx29.symm
    refine lv_aloadq_n hx hb dX6_fillRaw_16 rfl (lv_at hl 2 rfl) ?_
    obtain ⟨b30, ho30, hc30, hk30, hF⟩ := dr_some hF
    refine W_st (st' := [.ref (ad b30), .int x29, va_re ad (s2.2.2 a 0)]) (by rw [va_some ho30]) ?_
    refine va_get (D := D) (ci := 9) (v := va_re ad (s2.2.2 b30 0)) (C := RX9) (T := TX9) (N := 20) hx hb hts (by decide +kernel) hown hK hP b30 (wld_o ct ad G s2.2 hc30 hk30 (by decide)) rfl 0 (by decide) (hts (.fieldLink RX6 46 "VideoSuite$Work" "pic" "LVideoSuite$Picture;") (by decide +kernel)) (fun _ h9 => h9) rfl dX6_fillRaw_17 ?_
    obtain ⟨b31, ho31, hc31, hk31, hF⟩ := dr_some hF
    refine W_st (st' := [.ref (ad b31), .int x29, va_re ad (s2.2.2 a 0)]) (by rw [va_some ho31]) ?_
    refine va_get (D := D) (ci := 4) (v := va_re ad (s2.2.2 b31 4)) (C := RX4) (T := TX4) (N := 18) hx hb hts (by decide +kernel) hown hK hP b31 (wld_o ct ad G s2.2 hc31 hk31 (by decide)) rfl 4 (by decide) (hts (.fieldLink RX6 121 "VideoSuite$Picture" "plane" "[[I") (by decide +kernel)) (fun _ h9 => h9) rfl dX6_fillRaw_20 ?_
    refine lv_iconst (v := (0 : Int32)) hx hb dX6_fillRaw_23 (by decide) ?_
    obtain ⟨b32, ho32, hc32, hk32, hF⟩ := dr_some hF
    refine W_st (st' := [.int (0 : Int32), .ref (ad b32), .int x29, va_re ad (s2.2.2 a 0)]) (by rw [va_some ho32]) ?_
    obtain ⟨hvc, hF⟩ := chk_some hF
    refine ld_g hx hb hK hP hc32 hk32 hvc dX6_fillRaw_24 ?_
    refine lv_aloadq_n hx hb dX6_fillRaw_25 rfl (lv_at hl 2 rfl) ?_
    refine W_st (st' := [.ref (ad b30), va_re ad (s2.2.2 b32 ((0 : Int32)).toNatClampNeg), .int x29, va_re ad (s2.2.2 a 0)]) (by rw [va_some ho30]) ?_
    refine va_get (D := D) (ci := 9) (v := va_re ad (s2.2.2 b30 0)) (C := RX9) (T := TX9) (N := 20) hx hb hts (by decide +kernel) hown hK hP b30 (wld_o ct ad G s2.2 hc30 hk30 (by decide)) rfl 0 (by decide) (hts (.fieldLink RX6 46 "VideoSuite$Work" "pic" "LVideoSuite$Picture;") (by decide +kernel)) (fun _ h9 => h9) rfl dX6_fillRaw_26 ?_
    refine lv_iload_n hx hb dX6_fillRaw_29 rfl (lv_at hl 3 rfl) ?_
    refine lv_iconst (v := (0 : Int32)) hx hb dX6_fillRaw_30 (by decide) ?_
    refine lv_iload_n hx hb dX6_fillRaw_31 rfl (lv_at hl 0 rfl) ?_
    obtain ⟨y33, hy33, hF⟩ := bnd_some hF
    have hf9 := wA_in hD hA9 hS
    refine va_calli (va_runS (As := [va_re ad (s2.2.2 b30 0), .int p1, .int (0 : Int32), .int s2.1]) (rest := [va_re ad (s2.2.2 b32 ((0 : Int32)).toNatClampNeg), .int x29, va_re ad (s2.2.2 a 0)]) ⟨hx, hb, hml, hown, hts⟩ (kX6_lumaAt l D ct ad Z G s2.2 H.size ((s2.2.2 b30 0)) p1 ((0 : Int32)) s2.1 y33 hy33) (va_cwS 4 hts gX6_fillRaw_X6_lumaAt rfl rfl rfl (by decide +kernel) ⟨Nat.le_of_ble_eq_true rfl, Nat.le_of_ble_eq_true rfl⟩) ⟨fun a U g mk q => by obtain ⟨q0, q1, qP, qK, qD, qZ, qN⟩ := q; exact ⟨q0, q1, qP, va_K.moved (u := U) (U := U.calling g mk a) (Vm.Alike.refl U.vm) qK, qD, sF.moved (u := U) (U := U.calling g mk a) (Vm.Alike.refl U.vm) qZ, nF.same rfl qN⟩, fun U hU hW => ⟨rfl, by rw [hU], by rw [hU]; exact hP, va_K.moved hW.alike hK, hD.weaken (fun _ _ _ _ => trivial), by rw [hU]; exact ((hZ.kept hS.2.1).narrow hf9).moved hW.alike, hN.warm hW⟩⟩ rfl rfl hl.1 rfl (lv_room (by simp only [List.map, va_re_cat]; exact Nat.le_of_ble_eq_true rfl)) dX6_fillRaw_32 ⟨(Nat.zero_le _), (Nat.zero_le _)⟩) hS (fun q _ h => hf9 q h) hf9 (fun r u t H locs ht hvm hw hB hz1 hk1 hS => ?_)
    obtain ⟨hP, hK9, hD9⟩ := hB
    rw [ht] at hP
    try dsimp only at hw
    subst hw
    have hD := hD9.weaken (fun _ q _ h => hf9 q.1 h)
    refine lv_bipush (v := (16 : Int32)) hx hb dX6_fillRaw_35 (by decide) ?_
    obtain ⟨b34, ho34, hc34, hk34, hF⟩ := dr_some hF
    refine W_st (st' := [.int (16 : Int32), .int y33.2, va_re ad (s2.2.2 b32 ((0 : Int32)).toNatClampNeg), .int x29, .ref (ad b34)]) (by rw [va_some ho34]) ?_
    obtain ⟨b35, ho35, hc35, hk35, hF⟩ := dr_some hF
    refine W_st (st' := [.int (16 : Int32), .int y33.2, .ref (ad b35), .int x29, .ref (ad b34)]) (by rw [va_some ho35]) ?_
    obtain ⟨hv9, hF⟩ := chk_some hF
    refine va_copyi (ty := .int) hx hb (hml.trans hl.1.symm) hown (hts (.methodLink RX6 250 arraycopyName) (by decide +kernel)) (hts (.native arraycopyName) (by decide +kernel)) (hts (.static arraycopyName) (by decide +kernel)) (hts (.initialized "java/lang/System") (by decide +kernel)) hK hP hD hS b34 b35 1 1 (wld_i ct ad G y33.1 hc34 hk34) (wld_i ct ad G y33.1 hc35 hk35) rfl rfl rfl hv9.1 hv9.2.1 hv9.2.2.1 hv9.2.2.2.1 hv9.2.2.2.2 (fun _ _ => rfl) (Nat.le_of_ble_eq_true rfl) (by decide +kernel) dX6_fillRaw_37 (fun H locs hP hD hS => ?_)
    obtain ⟨M36, eM36, hF⟩ := ltt_some hF
    rw [set_ri ct ad G y33.1 hc35 hk35, ← eM36] at hP hD
    obtain ⟨x37, ex37, hF⟩ := ltt_some hF
    refine lv_iinc (v := x37) (lv' := [(3, .int x37), (0, .ref (ad a)), (1, va_re ad p0), (2, .int p1)]) hx hb dX6_fillRaw_40 hl (k := 0) rfl (by rw [ex37]; rfl) (by decide) rfl (fun ls hl => ?_)
    refine lv_goto (tgt := 2) hx hb dX6_fillRaw_43 (by decide) ?_
    obtain rfl := Option.some.inj hF
    exact hwz27 _ _ _ hP hD hS (lv_sub hl [0, 1, 2, 3] rfl)
theorem ggX6_fillSixteen_X9_levelAt : GoodIn wsX6_fillSixteen wsX9_levelAt := goodIn_r _ [13] (by decide +kernel) (by decide +kernel)
set_option maxRecDepth 20000 in
theorem gX6_fillSixteen_X9_levelAt : GoodIn wsX6_fillSixteen (va_wsS RX6 237 yX9_levelAt wsX9_levelAt) := goodIn_app (goodIn_of _ (by decide +kernel)) ggX6_fillSixteen_X9_levelAt
set_option maxRecDepth 20000 in
theorem ggX6_fillSixteen_X6_turnEven : GoodIn wsX6_fillSixteen wsX6_turnEven := goodIn_r _ [18, 1, 48, 49, 50, 51, 52, 53, 54, 55, 56, 57, 58, 59, 60, 61] (by decide +kernel) (by decide +kernel)
set_option maxRecDepth 20000 in
theorem gX6_fillSixteen_X6_turnEven : GoodIn wsX6_fillSixteen (wsV RX6 247 RX6 yX6_turnEven wsX6_turnEven) := goodIn_app (goodIn_of _ (by decide +kernel)) ggX6_fillSixteen_X6_turnEven
set_option maxRecDepth 20000 in
theorem ggX6_fillSixteen_X9_pieceX : GoodIn wsX6_fillSixteen wsX9_pieceX := goodIn_r _ [21] (by decide +kernel) (by decide +kernel)
set_option maxRecDepth 20000 in
theorem gX6_fillSixteen_X9_pieceX : GoodIn wsX6_fillSixteen (va_wsS RX6 76 yX9_pieceX wsX9_pieceX) := goodIn_app (goodIn_of _ (by decide +kernel)) ggX6_fillSixteen_X9_pieceX
set_option maxRecDepth 20000 in
theorem ggX6_fillSixteen_X9_pieceY : GoodIn wsX6_fillSixteen wsX9_pieceY := goodIn_r _ [24] (by decide +kernel) (by decide +kernel)
set_option maxRecDepth 20000 in
theorem gX6_fillSixteen_X9_pieceY : GoodIn wsX6_fillSixteen (va_wsS RX6 80 yX9_pieceY wsX9_pieceY) := goodIn_app (goodIn_of _ (by decide +kernel)) ggX6_fillSixteen_X9_pieceY
set_option maxRecDepth 20000 in
theorem ggX6_fillSixteen_X6_unfold : GoodIn wsX6_fillSixteen wsX6_unfold := goodIn_r _ [28, 5, 3, 2, 6, 29, 30, 31, 32, 33, 34, 17, 35, 48, 49, 50, 51, 52, 53, 54, 55, 56, 57, 58, 59, 60, 61] (by decide +kernel) (by decide +kernel)
set_option maxRecDepth 20000 in
theorem gX6_fillSixteen_X6_unfold : GoodIn wsX6_fillSixteen (wsV RX6 240 RX6 yX6_unfold wsX6_unfold) := goodIn_app (goodIn_of _ (by decide +kernel)) ggX6_fillSixteen_X6_unfold
set_option maxRecDepth 20000 in
theorem ggX6_fillSixteen_X6_normAt : GoodIn wsX6_fillSixteen wsX6_normAt := goodIn_r _ [35] (by decide +kernel) (by decide +kernel)
set_option maxRecDepth 20000 in
theorem gX6_fillSixteen_X6_normAt : GoodIn wsX6_fillSixteen (va_wsS RX6 227 yX6_normAt wsX6_normAt) := goodIn_app (goodIn_of _ (by decide +kernel)) ggX6_fillSixteen_X6_normAt
set_option maxRecDepth 20000 in
theorem ggX6_fillSixteen_X6_lumaAt : GoodIn wsX6_fillSixteen wsX6_lumaAt := goodIn_r _ [38, 9, 82, 83, 84, 85, 86, 87, 88, 89, 90, 91, 92, 93, 94, 95, 96, 97, 98, 99] (by decide +kernel) (by decide +kernel)
set_option maxRecDepth 20000 in
theorem gX6_fillSixteen_X6_lumaAt : GoodIn wsX6_fillSixteen (va_wsS RX6 175 yX6_lumaAt wsX6_lumaAt) := goodIn_app (goodIn_of _ (by decide +kernel)) ggX6_fillSixteen_X6_lumaAt
set_option maxRecDepth 20000 in
theorem ggX6_fillSixteen_X6_fillPiece : GoodIn wsX6_fillSixteen wsX6_fillPiece := goodIn_r _ [42, 43, 5, 44, 45, 46, 17, 47, 48, 49, 50, 51, 52, 53, 54, 55, 56, 57, 58, 59, 60, 61] (by decide +kernel) (by decide +kernel)
set_option maxRecDepth 20000 in
theorem gX6_fillSixteen_X6_fillPiece : GoodIn wsX6_fillSixteen (wsV RX6 244 RX6 yX6_fillPiece wsX6_fillPiece) := goodIn_app (goodIn_of _ (by decide +kernel)) ggX6_fillSixteen_X6_fillPiece
theorem dX6_fillSixteen_0 : decode cX6_fillSixteen 0 = .ok (.iload_n 2, 1) := by decide +kernel
theorem dX6_fillSixteen_1 : decode cX6_fillSixteen 1 = .ok (.bipush 16, 2) := by decide +kernel
theorem dX6_fillSixteen_3 : decode cX6_fillSixteen 3 = .ok (.invokestatic 237, 3) := by decide +kernel
theorem dX6_fillSixteen_6 : decode cX6_fillSixteen 6 = .ok (.istore 4, 2) := by decide +kernel
theorem dX6_fillSixteen_8 : decode cX6_fillSixteen 8 = .ok (.iconst 0, 1) := by decide +kernel
theorem dX6_fillSixteen_9 : decode cX6_fillSixteen 9 = .ok (.istore 5, 2) := by decide +kernel
theorem dX6_fillSixteen_11 : decode cX6_fillSixteen 11 = .ok (.iload 5, 2) := by decide +kernel
theorem dX6_fillSixteen_13 : decode cX6_fillSixteen 13 = .ok (.bipush 16, 2) := by decide +kernel
theorem dX6_fillSixteen_15 : decode cX6_fillSixteen 15 = .ok (.if_icmp .ge 39, 3) := by decide +kernel
theorem dX6_fillSixteen_18 : decode cX6_fillSixteen 18 = .ok (.aload_n 0, 1) := by decide +kernel
theorem dX6_fillSixteen_19 : decode cX6_fillSixteen 19 = .ok (.getfield 33, 3) := by decide +kernel
theorem dX6_fillSixteen_22 : decode cX6_fillSixteen 22 = .ok (.iconst 4, 1) := by decide +kernel
theorem dX6_fillSixteen_23 : decode cX6_fillSixteen 23 = .ok (.getstatic 221, 3) := by decide +kernel
theorem dX6_fillSixteen_26 : decode cX6_fillSixteen 26 = .ok (.iload 5, 2) := by decide +kernel
theorem dX6_fillSixteen_28 : decode cX6_fillSixteen 28 = .ok (.iaload, 1) := by decide +kernel
theorem dX6_fillSixteen_29 : decode cX6_fillSixteen 29 = .ok (.imul, 1) := by decide +kernel
theorem dX6_fillSixteen_30 : decode cX6_fillSixteen 30 = .ok (.getstatic 218, 3) := by decide +kernel
theorem dX6_fillSixteen_33 : decode cX6_fillSixteen 33 = .ok (.iload 5, 2) := by decide +kernel
theorem dX6_fillSixteen_35 : decode cX6_fillSixteen 35 = .ok (.iaload, 1) := by decide +kernel
theorem dX6_fillSixteen_36 : decode cX6_fillSixteen 36 = .ok (.iadd, 1) := by decide +kernel
theorem dX6_fillSixteen_37 : decode cX6_fillSixteen 37 = .ok (.aload_n 1, 1) := by decide +kernel
theorem dX6_fillSixteen_38 : decode cX6_fillSixteen 38 = .ok (.getfield 234, 3) := by decide +kernel
theorem dX6_fillSixteen_41 : decode cX6_fillSixteen 41 = .ok (.iload 4, 2) := by decide +kernel
theorem dX6_fillSixteen_43 : decode cX6_fillSixteen 43 = .ok (.iload 5, 2) := by decide +kernel
theorem dX6_fillSixteen_45 : decode cX6_fillSixteen 45 = .ok (.iadd, 1) := by decide +kernel
theorem dX6_fillSixteen_46 : decode cX6_fillSixteen 46 = .ok (.iaload, 1) := by decide +kernel
theorem dX6_fillSixteen_47 : decode cX6_fillSixteen 47 = .ok (.iastore, 1) := by decide +kernel
theorem dX6_fillSixteen_48 : decode cX6_fillSixteen 48 = .ok (.iinc 5 1, 3) := by decide +kernel
theorem dX6_fillSixteen_51 : decode cX6_fillSixteen 51 = .ok (.goto (-40), 3) := by decide +kernel
theorem dX6_fillSixteen_54 : decode cX6_fillSixteen 54 = .ok (.aload_n 0, 1) := by decide +kernel
theorem dX6_fillSixteen_55 : decode cX6_fillSixteen 55 = .ok (.invokevirtual 247, 3) := by decide +kernel
theorem dX6_fillSixteen_58 : decode cX6_fillSixteen 58 = .ok (.iconst 0, 1) := by decide +kernel
theorem dX6_fillSixteen_59 : decode cX6_fillSixteen 59 = .ok (.istore 5, 2) := by decide +kernel
theorem dX6_fillSixteen_61 : decode cX6_fillSixteen 61 = .ok (.iload 5, 2) := by decide +kernel
theorem dX6_fillSixteen_63 : decode cX6_fillSixteen 63 = .ok (.bipush 16, 2) := by decide +kernel
theorem dX6_fillSixteen_65 : decode cX6_fillSixteen 65 = .ok (.if_icmp .ge 122, 3) := by decide +kernel
theorem dX6_fillSixteen_68 : decode cX6_fillSixteen 68 = .ok (.iload 5, 2) := by decide +kernel
theorem dX6_fillSixteen_70 : decode cX6_fillSixteen 70 = .ok (.invokestatic 76, 3) := by decide +kernel
theorem dX6_fillSixteen_73 : decode cX6_fillSixteen 73 = .ok (.istore 6, 2) := by decide +kernel
theorem dX6_fillSixteen_75 : decode cX6_fillSixteen 75 = .ok (.iload 5, 2) := by decide +kernel
theorem dX6_fillSixteen_77 : decode cX6_fillSixteen 77 = .ok (.invokestatic 80, 3) := by decide +kernel
theorem dX6_fillSixteen_80 : decode cX6_fillSixteen 80 = .ok (.istore 7, 2) := by decide +kernel
theorem dX6_fillSixteen_82 : decode cX6_fillSixteen 82 = .ok (.aload_n 0, 1) := by decide +kernel
theorem dX6_fillSixteen_83 : decode cX6_fillSixteen 83 = .ok (.aload_n 1, 1) := by decide +kernel
theorem dX6_fillSixteen_84 : decode cX6_fillSixteen 84 = .ok (.getfield 234, 3) := by decide +kernel
theorem dX6_fillSixteen_87 : decode cX6_fillSixteen 87 = .ok (.iload_n 2, 1) := by decide +kernel
theorem dX6_fillSixteen_88 : decode cX6_fillSixteen 88 = .ok (.iload 5, 2) := by decide +kernel
theorem dX6_fillSixteen_90 : decode cX6_fillSixteen 90 = .ok (.invokestatic 237, 3) := by decide +kernel
theorem dX6_fillSixteen_93 : decode cX6_fillSixteen 93 = .ok (.iconst 1, 1) := by decide +kernel
theorem dX6_fillSixteen_94 : decode cX6_fillSixteen 94 = .ok (.iload_n 3, 1) := by decide +kernel
theorem dX6_fillSixteen_95 : decode cX6_fillSixteen 95 = .ok (.invokevirtual 240, 3) := by decide +kernel
theorem dX6_fillSixteen_98 : decode cX6_fillSixteen 98 = .ok (.aload_n 0, 1) := by decide +kernel
theorem dX6_fillSixteen_99 : decode cX6_fillSixteen 99 = .ok (.getfield 30, 3) := by decide +kernel
theorem dX6_fillSixteen_102 : decode cX6_fillSixteen 102 = .ok (.iconst 0, 1) := by decide +kernel
theorem dX6_fillSixteen_103 : decode cX6_fillSixteen 103 = .ok (.aload_n 0, 1) := by decide +kernel
theorem dX6_fillSixteen_104 : decode cX6_fillSixteen 104 = .ok (.getfield 33, 3) := by decide +kernel
theorem dX6_fillSixteen_107 : decode cX6_fillSixteen 107 = .ok (.iload 7, 2) := by decide +kernel
theorem dX6_fillSixteen_109 : decode cX6_fillSixteen 109 = .ok (.iload 6, 2) := by decide +kernel
theorem dX6_fillSixteen_111 : decode cX6_fillSixteen 111 = .ok (.iconst 4, 1) := by decide +kernel
theorem dX6_fillSixteen_112 : decode cX6_fillSixteen 112 = .ok (.idiv, 1) := by decide +kernel
theorem dX6_fillSixteen_113 : decode cX6_fillSixteen 113 = .ok (.iadd, 1) := by decide +kernel
theorem dX6_fillSixteen_114 : decode cX6_fillSixteen 114 = .ok (.iaload, 1) := by decide +kernel
theorem dX6_fillSixteen_115 : decode cX6_fillSixteen 115 = .ok (.getstatic 224, 3) := by decide +kernel
theorem dX6_fillSixteen_118 : decode cX6_fillSixteen 118 = .ok (.iload_n 3, 1) := by decide +kernel
theorem dX6_fillSixteen_119 : decode cX6_fillSixteen 119 = .ok (.iconst 0, 1) := by decide +kernel
theorem dX6_fillSixteen_120 : decode cX6_fillSixteen 120 = .ok (.iconst 0, 1) := by decide +kernel
theorem dX6_fillSixteen_121 : decode cX6_fillSixteen 121 = .ok (.invokestatic 227, 3) := by decide +kernel
theorem dX6_fillSixteen_124 : decode cX6_fillSixteen 124 = .ok (.iaload, 1) := by decide +kernel
theorem dX6_fillSixteen_125 : decode cX6_fillSixteen 125 = .ok (.imul, 1) := by decide +kernel
theorem dX6_fillSixteen_126 : decode cX6_fillSixteen 126 = .ok (.iload_n 3, 1) := by decide +kernel
theorem dX6_fillSixteen_127 : decode cX6_fillSixteen 127 = .ok (.bipush 6, 2) := by decide +kernel
theorem dX6_fillSixteen_129 : decode cX6_fillSixteen 129 = .ok (.idiv, 1) := by decide +kernel
theorem dX6_fillSixteen_130 : decode cX6_fillSixteen 130 = .ok (.ishl, 1) := by decide +kernel
theorem dX6_fillSixteen_131 : decode cX6_fillSixteen 131 = .ok (.iconst 2, 1) := by decide +kernel
theorem dX6_fillSixteen_132 : decode cX6_fillSixteen 132 = .ok (.iadd, 1) := by decide +kernel
theorem dX6_fillSixteen_133 : decode cX6_fillSixteen 133 = .ok (.iconst 2, 1) := by decide +kernel
theorem dX6_fillSixteen_134 : decode cX6_fillSixteen 134 = .ok (.ishr, 1) := by decide +kernel
theorem dX6_fillSixteen_135 : decode cX6_fillSixteen 135 = .ok (.iastore, 1) := by decide +kernel
theorem dX6_fillSixteen_136 : decode cX6_fillSixteen 136 = .ok (.aload_n 0, 1) := by decide +kernel
theorem dX6_fillSixteen_137 : decode cX6_fillSixteen 137 = .ok (.aload_n 1, 1) := by decide +kernel
theorem dX6_fillSixteen_138 : decode cX6_fillSixteen 138 = .ok (.getfield 46, 3) := by decide +kernel
theorem dX6_fillSixteen_141 : decode cX6_fillSixteen 141 = .ok (.getfield 121, 3) := by decide +kernel
theorem dX6_fillSixteen_144 : decode cX6_fillSixteen 144 = .ok (.iconst 0, 1) := by decide +kernel
theorem dX6_fillSixteen_145 : decode cX6_fillSixteen 145 = .ok (.aaload, 1) := by decide +kernel
theorem dX6_fillSixteen_146 : decode cX6_fillSixteen 146 = .ok (.aload_n 1, 1) := by decide +kernel
theorem dX6_fillSixteen_147 : decode cX6_fillSixteen 147 = .ok (.getfield 46, 3) := by decide +kernel
theorem dX6_fillSixteen_150 : decode cX6_fillSixteen 150 = .ok (.iload_n 2, 1) := by decide +kernel
theorem dX6_fillSixteen_151 : decode cX6_fillSixteen 151 = .ok (.iload 6, 2) := by decide +kernel
theorem dX6_fillSixteen_153 : decode cX6_fillSixteen 153 = .ok (.iload 7, 2) := by decide +kernel
theorem dX6_fillSixteen_155 : decode cX6_fillSixteen 155 = .ok (.invokestatic 175, 3) := by decide +kernel
theorem dX6_fillSixteen_158 : decode cX6_fillSixteen 158 = .ok (.bipush 16, 2) := by decide +kernel
theorem dX6_fillSixteen_160 : decode cX6_fillSixteen 160 = .ok (.aload_n 1, 1) := by decide +kernel
theorem dX6_fillSixteen_161 : decode cX6_fillSixteen 161 = .ok (.getfield 46, 3) := by decide +kernel
theorem dX6_fillSixteen_164 : decode cX6_fillSixteen 164 = .ok (.getfield 83, 3) := by decide +kernel
theorem dX6_fillSixteen_167 : decode cX6_fillSixteen 167 = .ok (.imul, 1) := by decide +kernel
theorem dX6_fillSixteen_168 : decode cX6_fillSixteen 168 = .ok (.bipush 16, 2) := by decide +kernel
theorem dX6_fillSixteen_170 : decode cX6_fillSixteen 170 = .ok (.iload 7, 2) := by decide +kernel
theorem dX6_fillSixteen_172 : decode cX6_fillSixteen 172 = .ok (.imul, 1) := by decide +kernel
theorem dX6_fillSixteen_173 : decode cX6_fillSixteen 173 = .ok (.iload 6, 2) := by decide +kernel
theorem dX6_fillSixteen_175 : decode cX6_fillSixteen 175 = .ok (.iadd, 1) := by decide +kernel
theorem dX6_fillSixteen_176 : decode cX6_fillSixteen 176 = .ok (.bipush 16, 2) := by decide +kernel
theorem dX6_fillSixteen_178 : decode cX6_fillSixteen 178 = .ok (.invokevirtual 244, 3) := by decide +kernel
theorem dX6_fillSixteen_181 : decode cX6_fillSixteen 181 = .ok (.iinc 5 1, 3) := by decide +kernel
theorem dX6_fillSixteen_184 : decode cX6_fillSixteen 184 = .ok (.goto (-123), 3) := by decide +kernel
theorem dX6_fillSixteen_187 : decode cX6_fillSixteen 187 = .ok (.return_, 1) := by decide +kernel
def FX6_fillSixteen (G : GG) (M : DD) (a : Nat) (p0 : Option Nat) (p1 : Int32) (p2 : Int32) : Option (DD) :=
  bnd (FX9_levelAt G M p1 ((16 : Int32))) fun y1 =>
  bnd (itr (fun (s3 : Int32 × DD) => ((if ((16 : Int32)) ≤ s3.1 then (some (.inr (s3.1, s3.2))) else
  (chk (¬ (s3.1 < 0 ∨ 16 ≤ s3.1.toNatClampNeg)) <|
  ltt ((sT 15).getD s3.1.toNatClampNeg 0) fun x41 =>
  ltt ((((4 : Int32)) * x41)) fun x42 =>
  chk (¬ (s3.1 < 0 ∨ 16 ≤ s3.1.toNatClampNeg)) <|
  ltt ((sT 14).getD s3.1.toNatClampNeg 0) fun x43 =>
  ltt ((x42 + x43)) fun x44 =>
  dr G 9 p0 fun b45 =>
  ltt ((y1.2 + s3.1)) fun x46 =>
  dr G 13 ((s3.2.2 b45 9)) fun b47 =>
  chk (¬ (x46 < 0 ∨ G.2.2 b47 ≤ x46.toNatClampNeg)) <|
  ltt (s3.2.1 b47 x46.toNatClampNeg) fun x48 =>
  dr G 13 ((s3.2.2 a 7)) fun b49 =>
  chk (¬ (x44 < 0 ∨ G.2.2 b49 ≤ x44.toNatClampNeg)) <|
  ltt (uI s3.2 b49 x44.toNatClampNeg x48) fun M50 =>
  ltt (s3.1 + (1 : Int32)) fun x51 =>
  some (.inl (x51, M50)))) : Option ((Int32 × DD) ⊕ (Int32 × DD)))) 1000000 ((0 : Int32), y1.1)) fun (y2 : Int32 × DD) =>
  bnd (FX6_turnEven G y2.2 a) fun y5 =>
  bnd (itr (fun (s7 : Int32 × DD) => ((if ((16 : Int32)) ≤ s7.1 then (some (.inr (s7.1, s7.2))) else
  (bnd (FX9_pieceX G s7.2 s7.1) fun y11 =>
  bnd (FX9_pieceY G y11.1 s7.1) fun y12 =>
  dr G 9 p0 fun b13 =>
  bnd (FX9_levelAt G y12.1 p1 s7.1) fun y14 =>
  bnd (FX6_unfold G y14.1 a ((y12.1.2 b13 9)) y14.2 ((1 : Int32)) p2) fun y15 =>
  ltt (y11.2 / ((4 : Int32))) fun x16 =>
  ltt ((y12.2 + x16)) fun x17 =>
  dr G 13 ((y15.2 a 7)) fun b18 =>
  chk (¬ (x17 < 0 ∨ G.2.2 b18 ≤ x17.toNatClampNeg)) <|
  ltt (y15.1 b18 x17.toNatClampNeg) fun x19 =>
  bnd (FX6_normAt G y15 p2 ((0 : Int32)) ((0 : Int32))) fun y20 =>
  chk (¬ (y20.2 < 0 ∨ 18 ≤ y20.2.toNatClampNeg)) <|
  ltt ((sT 13).getD y20.2.toNatClampNeg 0) fun x21 =>
  ltt ((x19 * x21)) fun x22 =>
  ltt (p2 / ((6 : Int32))) fun x23 =>
  ltt ((x22 <<< (x23 &&& 31))) fun x24 =>
  ltt ((x24 + ((2 : Int32)))) fun x25 =>
  ltt ((x25 >>> (((2 : Int32)) &&& 31))) fun x26 =>
  dr G 13 ((y15.2 a 6)) fun b27 =>
  chk (¬ (((0 : Int32)) < 0 ∨ G.2.2 b27 ≤ ((0 : Int32)).toNatClampNeg)) <|
  ltt (uI y20.1 b27 ((0 : Int32)).toNatClampNeg x26) fun M28 =>
  dr G 4 ((M28.2 b13 0)) fun b29 =>
  dr G 15 ((M28.2 b29 4)) fun b30 =>
  chk (¬ (((0 : Int32)) < 0 ∨ G.2.2 b30 ≤ ((0 : Int32)).toNatClampNeg)) <|
  bnd (FX6_lumaAt G M28 ((M28.2 b13 0)) p1 y11.2 y12.2) fun y31 =>
  dr G 4 ((y31.1.2 b13 0)) fun b32 =>
  ltt (y31.1.1 b32 1) fun x33 =>
  ltt ((((16 : Int32)) * x33)) fun x34 =>
  ltt ((((16 : Int32)) * y12.2)) fun x35 =>
  ltt ((x35 + y11.2)) fun x36 =>
  bnd (FX6_fillPiece G y31.1 a ((M28.2 b30 ((0 : Int32)).toNatClampNeg)) y31.2 x34 x36 ((16 : Int32))) fun y37 =>
  ltt (s7.1 + (1 : Int32)) fun x38 =>
  some (.inl (x38, y37)))) : Option ((Int32 × DD) ⊕ (Int32 × DD)))) 1000000 ((0 : Int32), y5)) fun (y6 : Int32 × DD) =>
  some y6.2
set_option maxHeartbeats 4000000 in
set_option maxRecDepth 100000 in
theorem kX6_fillSixteen (l : Launch) (D : va_G) (ct : CT) (ad : Nat → Nat) (Z : Nat → Nat) (G : GG) (M : DD) (sz : Nat) (a : Nat) (p0 : Option Nat) (p1 : Int32) (p2 : Int32) (y : DD) (hc : a < G.1) (hk : G.2.1 a = 6) (hF : FX6_fillSixteen G M a p0 p1 p2 = some y) : Met l yX6_fillSixteen wsX6_fillSixteen ({ frames := 2, cells := 0, slots := 0, locals := 55 }) (va_Pc [.ref (ad a), va_re ad p0, .int p1, .int p2] (kB D ct ad Z G M sz)) (va_Qv (fun (_ : Unit) => True) (fun _ t => kE D ct ad G (wA ad G sz) y t) (wA ad G sz)) 0 0 (wA ad G sz) := by
  refine Met.ofW (cc := cX6_fillSixteen) (maxL := 8) (ret := none) (by decide) rfl ?_
  intro p e s m args below meth c s₁ B hml hv
  obtain ⟨rfl, hsz, hP, hK, hD0, hZ, hN⟩ := hv
  have hx := B.exec
  have hb := B.bytes
  have hr := B.returns
  have hts := atoms_spec (ws := wsX6_fillSixteen) B.pre
  have hown : s.vm.findClass RX6 = some m.cls := findClass_of_methodNamed B.named
  have hlocks := B.notSynchronized
  subst hsz
  have hD := wD_self (sz := s.heap.size) hD0
  have hA9 : ∀ q, s.heap.size ≤ q → wA ad G s.heap.size q := fun q h => Or.inr h
  generalize hAe : wA ad G s.heap.size = A at hD hA9 hZ ⊢
  have hS : va_S A s.heap s.heap [] := va_S.rf
  have hl := lv_entry ([.ref (ad a), va_re ad p0, .int p1, .int p2]) (n := 8) (by cases p0 <;> exact Nat.le_of_ble_eq_true rfl)
  rw [lg_entry_eq]
  generalize (lg_sl ([.ref (ad a), va_re ad p0, .int p1, .int p2]) ++ List.replicate (8 - (lg_sl ([.ref (ad a), va_re ad p0, .int p1, .int p2])).length) Slot.unset).toArray = ls at hl ⊢
  have hl : lv_has ls 8 [(0, .ref (ad a)), (1, va_re ad p0), (2, .int p1), (3, .int p2)] := by have e9 : lv_args 0 [.ref (ad a), va_re ad p0, .int p1, .int p2] = [(0, .ref (ad a)), (1, va_re ad p0), (2, .int p1), (3, .int p2)] := (by cases p0 <;> rfl); rw [e9] at hl; exact hl
  unfold FX6_fillSixteen at hF
  refine lv_iload_n hx hb dX6_fillSixteen_0 rfl (lv_at hl 2 rfl) ?_
  refine lv_bipush (v := (16 : Int32)) hx hb dX6_fillSixteen_1 (by decide) ?_
  obtain ⟨y1, hy1, hF⟩ := bnd_some hF
  have hf9 := wA_in hD hA9 hS
  refine va_calli (va_runS (As := [.int p1, .int (16 : Int32)]) (rest := []) ⟨hx, hb, hml, hown, hts⟩ (kX9_levelAt l D ct ad Z G M s.heap.size p1 ((16 : Int32)) y1 hy1) (va_cwS 2 hts gX6_fillSixteen_X9_levelAt rfl rfl rfl (by decide +kernel) ⟨Nat.le_of_ble_eq_true rfl, Nat.le_of_ble_eq_true rfl⟩) ⟨fun a U g mk q => by obtain ⟨q0, q1, qP, qK, qD, qZ, qN⟩ := q; exact ⟨q0, q1, qP, va_K.moved (u := U) (U := U.calling g mk a) (Vm.Alike.refl U.vm) qK, qD, sF.moved (u := U) (U := U.calling g mk a) (Vm.Alike.refl U.vm) qZ, nF.same rfl qN⟩, fun U hU hW => ⟨rfl, by rw [hU], by rw [hU]; exact hP, va_K.moved hW.alike hK, hD.weaken (fun _ _ _ _ => trivial), by rw [hU]; exact ((hZ.kept hS.2.1).narrow hf9).moved hW.alike, hN.warm hW⟩⟩ rfl rfl hl.1 rfl (lv_room (Nat.le_of_ble_eq_true rfl)) dX6_fillSixteen_3 ⟨(Nat.zero_le _), (Nat.zero_le _)⟩) hS (fun q _ h => hf9 q h) hf9 (fun r u t H locs ht hvm hw hB hz1 hk1 hS => ?_)
  obtain ⟨hP, hK9, hD9⟩ := hB
  rw [ht] at hP
  try dsimp only at hw
  subst hw
  have hD := hD9.weaken (fun _ q _ h => hf9 q.1 h)
  refine lv_istore (lv' := [(4, .int y1.2), (0, .ref (ad a)), (1, va_re ad p0), (2, .int p1), (3, .int p2)]) hx hb dX6_fillSixteen_6 hl (by decide) rfl (fun ls hl => ?_)
  refine lv_iconst (v := (0 : Int32)) hx hb dX6_fillSixteen_8 (by decide) ?_
  refine lv_istore (lv' := [(5, .int (0 : Int32)), (4, .int y1.2), (0, .ref (ad a)), (1, va_re ad p0), (2, .int p1), (3, .int p2)]) hx hb dX6_fillSixteen_9 hl (by decide) rfl (fun ls hl => ?_)
  obtain ⟨y2, hy2, hF⟩ := bnd_some hF
  have K2 : ∀ (H : Heap) (locs : List Loc) (ls : Array Slot), va_P D classes (wld ct ad G y2.2) H → va_D A (wld ct ad G y2.2) → va_S A s.heap H locs → lv_has ls 8 [(5, .int y2.1), (4, .int y1.2), (0, .ref (ad a)), (1, va_re ad p0), (2, .int p1), (3, .int p2)] → W p l e (headSpec wsX6_fillSixteen ({ frames := 2, cells := 0, slots := 0, locals := 55 })).room s m ([.ref (ad a), va_re ad p0, .int p1, .int p2] : List Value).toArray below meth c H locs 0 0 (MQ below (va_Qv (fun (_ : Unit) => True) (fun _ t => kE D ct ad G A y t) A) ([.ref (ad a), va_re ad p0, .int p1, .int p2] : List Value).toArray s 0 0 A) (F0 m 54 ls []) := by
    intro H locs ls hP hD hS hl
    refine lv_aload_n hx hb dX6_fillSixteen_54 rfl (lv_at hl 2 rfl) ?_
    obtain ⟨y5, hy5, hF⟩ := bnd_some hF
    have hf9 := wA_in hD hA9 hS
    refine va_callv (va_runV (As := []) (rest := []) ⟨hx, hb, hml, hown, hts⟩ (kX6_turnEven l D ct ad Z G y2.2 H.size a y5 hc hk hy5) (cwV 0 hts gX6_fillSixteen_X6_turnEven rfl rfl rfl (by decide +kernel) ⟨Nat.le_of_ble_eq_true rfl, Nat.le_of_ble_eq_true rfl⟩) ⟨fun a U g mk q => by obtain ⟨q0, q1, qP, qK, qD, qZ, qN⟩ := q; exact ⟨q0, q1, qP, va_K.moved (u := U) (U := U.calling g mk a) (Vm.Alike.refl U.vm) qK, qD, sF.moved (u := U) (U := U.calling g mk a) (Vm.Alike.refl U.vm) qZ, nF.same rfl qN⟩, va_recv hK hP (ci := 6) (q0 := a) rfl (wld_o ct ad G y2.2 hc hk (by decide)), fun U hU hW => ⟨rfl, by rw [hU], by rw [hU]; exact hP, va_K.moved hW.alike hK, hD.weaken (fun _ _ _ _ => trivial), by rw [hU]; exact ((hZ.kept hS.2.1).narrow hf9).moved hW.alike, hN.warm hW⟩⟩ rfl rfl hl.1 rfl (lv_room (Nat.le_of_ble_eq_true rfl)) dX6_fillSixteen_55 ⟨(Nat.zero_le _), (Nat.zero_le _)⟩) hS (fun q _ h => hf9 q h) hf9 (fun u t H locs ht hvm hw hB hz1 hk1 hS => ?_)
    obtain ⟨hP, hK9, hD9⟩ := hB
    rw [ht] at hP
    have hD := hD9.weaken (fun _ q _ h => hf9 q.1 h)
    refine lv_iconst (v := (0 : Int32)) hx hb dX6_fillSixteen_58 (by decide) ?_
    refine lv_istore (lv' := [(5, .int (0 : Int32)), (4, .int y1.2), (0, .ref (ad a)), (1, va_re ad p0), (2, .int p1), (3, .int p2)]) hx hb dX6_fillSixteen_59 hl (by decide) rfl (fun ls hl => ?_)
    obtain ⟨y6, hy6, hF⟩ := bnd_some hF
    have K6 : ∀ (H : Heap) (locs : List Loc) (ls : Array Slot), va_P D classes (wld ct ad G y6.2) H → va_D A (wld ct ad G y6.2) → va_S A s.heap H locs → lv_has ls 8 [(5, .int y6.1), (4, .int y1.2), (0, .ref (ad a)), (1, va_re ad p0), (2, .int p1), (3, .int p2)] → W p l e (headSpec wsX6_fillSixteen ({ frames := 2, cells := 0, slots := 0, locals := 55 })).room s m ([.ref (ad a), va_re ad p0, .int p1, .int p2] : List Value).toArray below meth c H locs 0 0 (MQ below (va_Qv (fun (_ : Unit) => True) (fun _ t => kE D ct ad G A y t) A) ([.ref (ad a), va_re ad p0, .int p1, .int p2] : List Value).toArray s 0 0 A) (F0 m 187 ls []) := by
      intro H locs ls hP hD hS hl
      obtain rfl := Option.some.inj hF
      exact W.vret hx hb hr (fun t ht hW => ⟨⟨(), rfl, trivial, ⟨by rw [ht]; exact hP, va_K.moved hW.alike hK, hD⟩⟩, hS.F ht⟩) hS.2.2 dX6_fillSixteen_187
    clear hF
    refine itr_rule (fun (s7 : Int32 × DD) => ∀ (H : Heap) (locs : List Loc) (ls : Array Slot), va_P D classes (wld ct ad G s7.2) H → va_D A (wld ct ad G s7.2) → va_S A s.heap H locs → lv_has ls 8 [(5, .int s7.1), (4, .int y1.2), (0, .ref (ad a)), (1, va_re ad p0), (2, .int p1), (3, .int p2)] → W p l e (headSpec wsX6_fillSixteen ({ frames := 2, cells := 0, slots := 0, locals := 55 })).room s m ([.ref (ad a), va_re ad p0, .int p1, .int p2] : List Value).toArray below meth c H locs 0 0 (MQ below (va_Qv (fun (_ : Unit) => True) (fun _ t => kE D ct ad G A y t) A) ([.ref (ad a), va_re ad p0, .int p1, .int p2] : List Value).toArray s 0 0 A) (F0 m 61 ls [])) ?_ _ _ hy6 _ _ _ hP hD hS (lv_sub hl [0, 1, 2, 3, 4, 5] rfl)
    rintro s7 ⟨z9, hF, hwz9⟩ H locs ls hP hD hS hl
    try dsimp only at hF
    refine lv_iload hx hb dX6_fillSixteen_61 (lv_at hl 0 rfl) ?_
    refine lv_bipush (v := (16 : Int32)) hx hb dX6_fillSixteen_63 (by decide) ?_
    refine lv_icmp_ge (tgt := 187) hx hb dX6_fillSixteen_65 (by decide) (fun c10 => ?_) (fun c10 => ?_)
    · rw [if_pos c10] at hF
      obtain rfl := Option.some.inj hF
      subst hwz9
      exact K6 _ _ _ hP hD hS (lv_sub hl [0, 1, 2, 3, 4, 5] rfl)
    · rw [if_neg c10] at hF
      refine lv_iload hx hb dX6_fillSixteen_68 (lv_at hl 0 rfl) ?_
      obtain ⟨y11, hy11, hF⟩ := bnd_some hF
      have hf9 := wA_in hD hA9 hS
      refine va_calli (va_runS (As := [.int s7.1]) (rest := []) ⟨hx, hb, hml, hown, hts⟩ (kX9_pieceX l D ct ad Z G s7.2 H.size s7.1 y11 hy11) (va_cwS 1 hts gX6_fillSixteen_X9_pieceX rfl rfl rfl (by decide +kernel) ⟨Nat.le_of_ble_eq_true rfl, Nat.le_of_ble_eq_true rfl⟩) ⟨fun a U g mk q => by obtain ⟨q0, q1, qP, qK, qD, qZ, qN⟩ := q; exact ⟨q0, q1, qP, va_K.moved (u := U) (U := U.calling g mk a) (Vm.Alike.refl U.vm) qK, qD, sF.moved (u := U) (U := U.calling g mk a) (Vm.Alike.refl U.vm) qZ, nF.same rfl qN⟩, fun U hU hW => ⟨rfl, by rw [hU], by rw [hU]; exact hP, va_K.moved hW.alike hK, hD.weaken (fun _ _ _ _ => trivial), by rw [hU]; exact ((hZ.kept hS.2.1).narrow hf9).moved hW.alike, hN.warm hW⟩⟩ rfl rfl hl.1 rfl (lv_room (Nat.le_of_ble_eq_true rfl)) dX6_fillSixteen_70 ⟨(Nat.zero_le _), (Nat.zero_le _)⟩) hS (fun q _ h => hf9 q h) hf9 (fun r u t H locs ht hvm hw hB hz1 hk1 hS => ?_)
      obtain ⟨hP, hK9, hD9⟩ := hB
      rw [ht] at hP
      try dsimp only at hw
      subst hw
      have hD := hD9.weaken (fun _ q _ h => hf9 q.1 h)
      refine lv_istore (lv' := [(6, .int y11.2), (5, .int s7.1), (4, .int y1.2), (0, .ref (ad a)), (1, va_re ad p0), (2, .int p1), (3, .int p2)]) hx hb dX6_fillSixteen_73 hl (by decide) rfl (fun ls hl => ?_)
      refine lv_iload hx hb dX6_fillSixteen_75 (lv_at hl 1 rfl) ?_
      obtain ⟨y12, hy12, hF⟩ := bnd_some hF
      have hf9 := wA_in hD hA9 hS
      refine va_calli (va_runS (As := [.int s7.1]) (rest := []) ⟨hx, hb, hml, hown, hts⟩ (kX9_pieceY l D ct ad Z G y11.1 H.size s7.1 y12 hy12) (va_cwS 1 hts gX6_fillSixteen_X9_pieceY rfl rfl rfl (by decide +kernel) ⟨Nat.le_of_ble_eq_true rfl, Nat.le_of_ble_eq_true rfl⟩) ⟨fun a U g mk q => by obtain ⟨q0, q1, qP, qK, qD, qZ, qN⟩ := q; exact ⟨q0, q1, qP, va_K.moved (u := U) (U := U.calling g mk a) (Vm.Alike.refl U.vm) qK, qD, sF.moved (u := U) (U := U.calling g mk a) (Vm.Alike.refl U.vm) qZ, nF.same rfl qN⟩, fun U hU hW => ⟨rfl, by rw [hU], by rw [hU]; exact hP, va_K.moved hW.alike hK, hD.weaken (fun _ _ _ _ => trivial), by rw [hU]; exact ((hZ.kept hS.2.1).narrow hf9).moved hW.alike, hN.warm hW⟩⟩ rfl rfl hl.1 rfl (lv_room (Nat.le_of_ble_eq_true rfl)) dX6_fillSixteen_77 ⟨(Nat.zero_le _), (Nat.zero_le _)⟩) hS (fun q _ h => hf9 q h) hf9 (fun r u t H locs ht hvm hw hB hz1 hk1 hS => ?_)
      obtain ⟨hP, hK9, hD9⟩ := hB
      rw [ht] at hP
      try dsimp only at hw
      subst hw
      have hD := hD9.weaken (fun _ q _ h => hf9 q.1 h)
      refine lv_istore (lv' := [(7, .int y12.2), (6, .int y11.2), (5, .int s7.1), (4, .int y1.2), (0, .ref (ad a)), (1, va_re ad p0), (2, .int p1), (3, .int p2)]) hx hb dX6_fillSixteen_80 hl (by decide) rfl (fun ls hl => ?_)
      refine lv_aload_n hx hb dX6_fillSixteen_82 rfl (lv_at hl 4 rfl) ?_
      refine lv_aloadq_n hx hb dX6_fillSixteen_83 rfl (lv_at hl 5 rfl) ?_
      obtain ⟨b13, ho13, hc13, hk13, hF⟩ := dr_some hF
      refine W_st (st' := [.ref (ad b13), .ref (ad a)]) (by rw [va_some ho13]) ?_
      refine va_get (D := D) (ci := 9) (v := va_re ad (y12.1.2 b13 9)) (C := RX9) (T := TX9) (N := 20) hx hb hts (by decide +kernel) hown hK hP b13 (wld_o ct ad G y12.1 hc13 hk13 (by decide)) rfl 9 (by decide) (hts (.fieldLink RX6 234 "VideoSuite$Work" "level" "[I") (by decide +kernel)) (fun _ h9 => h9) rfl dX6_fillSixteen_84 ?_
      refine lv_iload_n hx hb dX6_fillSixteen_87 rfl (lv_at hl 6 rfl) ?_
      refine lv_iload hx hb dX6_fillSixteen_88 (lv_at hl 2 rfl) ?_
      obtain ⟨y14, hy14, hF⟩ := bnd_some hF
      have hf9 := wA_in hD hA9 hS
      refine va_calli (va_runS (As := [.int p1, .int s7.1]) (rest := [va_re ad (y12.1.2 b13 9), .ref (ad a)]) ⟨hx, hb, hml, hown, hts⟩ (kX9_levelAt l D ct ad Z G y12.1 H.size p1 s7.1 y14 hy14) (va_cwS 2 hts gX6_fillSixteen_X9_levelAt rfl rfl rfl (by decide +kernel) ⟨Nat.le_of_ble_eq_true rfl, Nat.le_of_ble_eq_true rfl⟩) ⟨fun a U g mk q => by obtain ⟨q0, q1, qP, qK, qD, qZ, qN⟩ := q; exact ⟨q0, q1, qP, va_K.moved (u := U) (U := U.calling g mk a) (Vm.Alike.refl U.vm) qK, qD, sF.moved (u := U) (U := U.calling g mk a) (Vm.Alike.refl U.vm) qZ, nF.same rfl qN⟩, fun U hU hW => ⟨rfl, by rw [hU], by rw [hU]; exact hP, va_K.moved hW.alike hK, hD.weaken (fun _ _ _ _ => trivial), by rw [hU]; exact ((hZ.kept hS.2.1).narrow hf9).moved hW.alike, hN.warm hW⟩⟩ rfl rfl hl.1 rfl (lv_room (by simp only [List.map, va_re_cat]; exact Nat.le_of_ble_eq_true rfl)) dX6_fillSixteen_90 ⟨(Nat.zero_le _), (Nat.zero_le _)⟩) hS (fun q _ h => hf9 q h) hf9 (fun r u t H locs ht hvm hw hB hz1 hk1 hS => ?_)
      obtain ⟨hP, hK9, hD9⟩ := hB
      rw [ht] at hP
      try dsimp only at hw
      subst hw
      have hD := hD9.weaken (fun _ q _ h => hf9 q.1 h)
      refine lv_iconst (v := (1 : Int32)) hx hb dX6_fillSixteen_93 (by decide) ?_
      refine lv_iload_n hx hb dX6_fillSixteen_94 rfl (lv_at hl 7 rfl) ?_
      obtain ⟨y15, hy15, hF⟩ := bnd_some hF
      have hf9 := wA_in hD hA9 hS
      refine va_callv (va_runV (As := [va_re ad (y12.1.2 b13 9), .int y14.2, .int (1 : Int32), .int p2]) (rest := []) ⟨hx, hb, hml, hown, hts⟩ (kX6_unfold l D ct ad Z G y14.1 H.size a ((y12.1.2 b13 9)) y14.2 ((1 : Int32)) p2 y15 hc hk hy15) (cwV 4 hts gX6_fillSixteen_X6_unfold rfl rfl rfl (by decide +kernel) ⟨Nat.le_of_ble_eq_true rfl, Nat.le_of_ble_eq_true rfl⟩) ⟨fun a U g mk q => by obtain ⟨q0, q1, qP, qK, qD, qZ, qN⟩ := q; exact ⟨q0, q1, qP, va_K.moved (u := U) (U := U.calling g mk a) (Vm.Alike.refl U.vm) qK, qD, sF.moved (u := U) (U := U.calling g mk a) (Vm.Alike.refl U.vm) qZ, nF.same rfl qN⟩, va_recv hK hP (ci := 6) (q0 := a) rfl (wld_o ct ad G y14.1 hc hk (by decide)), fun U hU hW => ⟨rfl, by rw [hU], by rw [hU]; exact hP, va_K.moved hW.alike hK, hD.weaken (fun _ _ _ _ => trivial), by rw [hU]; exact ((hZ.kept hS.2.1).narrow hf9).moved hW.alike, hN.warm hW⟩⟩ rfl rfl hl.1 rfl (lv_room (Nat.le_of_ble_eq_true rfl)) dX6_fillSixteen_95 ⟨(Nat.zero_le _), (Nat.zero_le _)⟩) hS (fun q _ h => hf9 q h) hf9 (fun u t H locs ht hvm hw hB hz1 hk1 hS => ?_)
      obtain ⟨hP, hK9, hD9⟩ := hB
      rw [ht] at hP
      have hD := hD9.weaken (fun _ q _ h => hf9 q.1 h)
      refine lv_aload_n hx hb dX6_fillSixteen_98 rfl (lv_at hl 4 rfl) ?_
      refine va_get (D := D) (ci := 6) (v := va_re ad (y15.2 a 6)) (C := RX6) (T := TX6) (N := 14) hx hb hts (by decide +kernel) hown hK hP a (wld_o ct ad G y15 hc hk (by decide)) rfl 6 (by decide) (hts (.fieldLink RX6 30 "VideoSuite$Samples" "rest" "[I") (by decide +kernel)) (fun _ h9 => h9) rfl dX6_fillSixteen_99 ?_
      refine lv_iconst (v := (0 : Int32)) hx hb dX6_fillSixteen_102 (by decide) ?_
      refine lv_aload_n hx hb dX6_fillSixteen_103 rfl (lv_at hl 4 rfl) ?_
      refine va_get (D := D) (ci := 6) (v := va_re ad (y15.2 a 7)) (C := RX6) (T := TX6) (N := 14) hx hb hts (by decide +kernel) hown hK hP a (wld_o ct ad G y15 hc hk (by decide)) rfl 7 (by decide) (hts (.fieldLink RX6 33 "VideoSuite$Samples" "even" "[I") (by decide +kernel)) (fun _ h9 => h9) rfl dX6_fillSixteen_104 ?_
      refine lv_iload hx hb dX6_fillSixteen_107 (lv_at hl 0 rfl) ?_
      refine lv_iload hx hb dX6_fillSixteen_109 (lv_at hl 1 rfl) ?_
      refine lv_iconst (v := (4 : Int32)) hx hb dX6_fillSixteen_111 (by decide) ?_
      refine lv_idiv hx hb dX6_fillSixteen_112 (by decide) ?_
      obtain ⟨x16, ex16, hF⟩ := ltt_some hF
      refine lv_topi (fun zx16 ezx16 => ?_)
      obtain rfl : x16 = zx16 := ex16.trans ezx16.symm
      refine lv_iadd hx hb dX6_fillSixteen_113 ?_
      obtain ⟨x17, ex17, hF⟩ := ltt_some hF
      refine lv_topi (fun zx17 ezx17 => ?_)
      obtain rfl : x17 = zx17 := ex17.trans ezx17.symm
      obtain ⟨b18, ho18, hc18, hk18, hF⟩ := dr_some hF
      refine W_st (st' := [.int x17, .ref (ad b18), .int (0 : Int32), va_re ad (y15.2 a 6)]) (by rw [va_some ho18]) ?_
      obtain ⟨hvc, hF⟩ := chk_some hF
      refine va_iald hx hb hK hP b18 1 (wld_i ct ad G y15 hc18 hk18) rfl hvc dX6_fillSixteen_114 ?_
      obtain ⟨x19, ex19, hF⟩ := ltt_some hF
      refine lv_topi (fun zx19 ezx19 => ?_)
      obtain rfl : x19 = zx19 := ex19.trans ezx19.symm
      refine va_gets hx hb (hZ.1 13 (by decide)).1 hS hown (hts (.fieldLink RX6 224 "VideoSuite$Samples" "NORM" "[I") (by decide +kernel)) (fun _ h => h) dX6_fillSixteen_115 ?_
      refine lv_iload_n hx hb dX6_fillSixteen_118 rfl (lv_at hl 7 rfl) ?_
      refine lv_iconst (v := (0 : Int32)) hx hb dX6_fillSixteen_119 (by decide) ?_
      refine lv_iconst (v := (0 : Int32)) hx hb dX6_fillSixteen_120 (by decide) ?_
      obtain ⟨y20, hy20, hF⟩ := bnd_some hF
      have hf9 := wA_in hD hA9 hS
      refine va_calli (va_runS (As := [.int p2, .int (0 : Int32), .int (0 : Int32)]) (rest := [.ref (Z 13), .int x19, .int (0 : Int32), va_re ad (y15.2 a 6)]) ⟨hx, hb, hml, hown, hts⟩ (kX6_normAt l D ct ad Z G y15 H.size p2 ((0 : Int32)) ((0 : Int32)) y20 hy20) (va_cwS 3 hts gX6_fillSixteen_X6_normAt rfl rfl rfl (by decide +kernel) ⟨Nat.le_of_ble_eq_true rfl, Nat.le_of_ble_eq_true rfl⟩) ⟨fun a U g mk q => by obtain ⟨q0, q1, qP, qK, qD, qZ, qN⟩ := q; exact ⟨q0, q1, qP, va_K.moved (u := U) (U := U.calling g mk a) (Vm.Alike.refl U.vm) qK, qD, sF.moved (u := U) (U := U.calling g mk a) (Vm.Alike.refl U.vm) qZ, nF.same rfl qN⟩, fun U hU hW => ⟨rfl, by rw [hU], by rw [hU]; exact hP, va_K.moved hW.alike hK, hD.weaken (fun _ _ _ _ => trivial), by rw [hU]; exact ((hZ.kept hS.2.1).narrow hf9).moved hW.alike, hN.warm hW⟩⟩ rfl rfl hl.1 rfl (lv_room (by simp only [List.map, va_re_cat]; exact Nat.le_of_ble_eq_true rfl)) dX6_fillSixteen_121 ⟨(Nat.zero_le _), (Nat.zero_le _)⟩) hS (fun q _ h => hf9 q h) hf9 (fun r u t H locs ht hvm hw hB hz1 hk1 hS => ?_)
      obtain ⟨hP, hK9, hD9⟩ := hB
      rw [ht] at hP
      try dsimp only at hw
      subst hw
      have hD := hD9.weaken (fun _ q _ h => hf9 q.1 h)
      obtain ⟨hvc, hF⟩ := chk_some hF
      refine va_ti (v := .int ((sT 13).getD y20.2.toNatClampNeg 0)) hx hb (hZ.1 13 (by decide)).2 hS hvc rfl dX6_fillSixteen_124 ?_
      obtain ⟨x21, ex21, hF⟩ := ltt_some hF
      refine lv_topi (fun zx21 ezx21 => ?_)
      obtain rfl : x21 = zx21 := ex21.trans ezx21.symm
      refine lv_imul hx hb dX6_fillSixteen_125 ?_
      obtain ⟨x22, ex22, hF⟩ := ltt_some hF
      refine lv_topi (fun zx22 ezx22 => ?_)
      obtain rfl : x22 = zx22 := ex22.trans ezx22.symm
      refine lv_iload_n hx hb dX6_fillSixteen_126 rfl (lv_at hl 7 rfl) ?_
      refine lv_bipush (v := (6 : Int32)) hx hb dX6_fillSixteen_127 (by decide) ?_
      refine lv_idiv hx hb dX6_fillSixteen_129 (by decide) ?_
      obtain ⟨x23, ex23, hF⟩ := ltt_some hF
      refine lv_topi (fun zx23 ezx23 => ?_)
      obtain rfl : x23 = zx23 := ex23.trans ezx23.symm
      refine lv_ishl hx hb dX6_fillSixteen_130 ?_
      obtain ⟨x24, ex24, hF⟩ := ltt_some hF
      refine lv_topi (fun zx24 ezx24 => ?_)
      obtain rfl : x24 = zx24 := ex24.trans ezx24.symm
      refine lv_iconst (v := (2 : Int32)) hx hb dX6_fillSixteen_131 (by decide) ?_
      refine lv_iadd hx hb dX6_fillSixteen_132 ?_
      obtain ⟨x25, ex25, hF⟩ := ltt_some hF
      refine lv_topi (fun zx25 ezx25 => ?_)
      obtain rfl : x25 = zx25 := ex25.trans ezx25.symm
      refine lv_iconst (v := (2 : Int32)) hx hb dX6_fillSixteen_133 (by decide) ?_
      refine lv_ishr hx hb dX6_fillSixteen_134 ?_
      obtain ⟨x26, ex26, hF⟩ := ltt_some hF
      refine lv_topi (fun zx26 ezx26 => ?_)
      obtain rfl : x26 = zx26 := ex26.trans ezx26.symm
      obtain ⟨b27, ho27, hc27, hk27, hF⟩ := dr_some hF
      refine W_st (st' := [.int x26, .int (0 : Int32), .ref (ad b27)]) (by rw [va_some ho27]) ?_
      obtain ⟨hvc, hF⟩ := chk_some hF
      refine va_iast hx hb hK hP hD hS b27 1 (wld_i ct ad G y20.1 hc27 hk27) rfl hvc dX6_fillSixteen_135 (fun H locs hP hD hS => ?_)
      obtain ⟨M28, eM28, hF⟩ := ltt_some hF
      rw [set_i ct ad G y20.1 hc27 hk27, ← eM28] at hP hD
      refine lv_aload_n hx hb dX6_fillSixteen_136 rfl (lv_at hl 4 rfl) ?_
      refine lv_aloadq_n hx hb dX6_fillSixteen_137 rfl (lv_at hl 5 rfl) ?_
      refine W_st (st' := [.ref (ad b13), .ref (ad a)]) (by rw [va_some ho13]) ?_
      refine va_get (D := D) (ci := 9) (v := va_re ad (M28.2 b13 0)) (C := RX9) (T := TX9) (N := 20) hx hb hts (by decide +kernel) hown hK hP b13 (wld_o ct ad G M28 hc13 hk13 (by decide)) rfl 0 (by decide) (hts (.fieldLink RX6 46 "VideoSuite$Work" "pic" "LVideoSuite$Picture;") (by decide +kernel)) (fun _ h9 => h9) rfl dX6_fillSixteen_138 ?_
      obtain ⟨b29, ho29, hc29, hk29, hF⟩ := dr_some hF
      refine W_st (st' := [.ref (ad b29), .ref (ad a)]) (by rw [va_some ho29]) ?_
      refine va_get (D := D) (ci := 4) (v := va_re ad (M28.2 b29 4)) (C := RX4) (T := TX4) (N := 18) hx hb hts (by decide +kernel) hown hK hP b29 (wld_o ct ad G M28 hc29 hk29 (by decide)) rfl 4 (by decide) (hts (.fieldLink RX6 121 "VideoSuite$Picture" "plane" "[[I") (by decide +kernel)) (fun _ h9 => h9) rfl dX6_fillSixteen_141 ?_
      refine lv_iconst (v := (0 : Int32)) hx hb dX6_fillSixteen_144 (by decide) ?_
      obtain ⟨b30, ho30, hc30, hk30, hF⟩ := dr_some hF
      refine W_st (st' := [.int (0 : Int32), .ref (ad b30), .ref (ad a)]) (by rw [va_some ho30]) ?_
      obtain ⟨hvc, hF⟩ := chk_some hF
      refine ld_g hx hb hK hP hc30 hk30 hvc dX6_fillSixteen_145 ?_
      refine lv_aloadq_n hx hb dX6_fillSixteen_146 rfl (lv_at hl 5 rfl) ?_
      refine W_st (st' := [.ref (ad b13), va_re ad (M28.2 b30 ((0 : Int32)).toNatClampNeg), .ref (ad a)]) (by rw [va_some ho13]) ?_
      refine va_get (D := D) (ci := 9) (v := va_re ad (M28.2 b13 0)) (C := RX9) (T := TX9) (N := 20) hx hb hts (by decide +kernel) hown hK hP b13 (wld_o ct ad G M28 hc13 hk13 (by decide)) rfl 0 (by decide) (hts (.fieldLink RX6 46 "VideoSuite$Work" "pic" "LVideoSuite$Picture;") (by decide +kernel)) (fun _ h9 => h9) rfl dX6_fillSixteen_147 ?_
      refine lv_iload_n hx hb dX6_fillSixteen_150 rfl (lv_at hl 6 rfl) ?_
      refine lv_iload hx hb dX6_fillSixteen_151 (lv_at hl 1 rfl) ?_
      refine lv_iload hx hb dX6_fillSixteen_153 (lv_at hl 0 rfl) ?_
      obtain ⟨y31, hy31, hF⟩ := bnd_some hF
      have hf9 := wA_in hD hA9 hS
      refine va_calli (va_runS (As := [va_re ad (M28.2 b13 0), .int p1, .int y11.2, .int y12.2]) (rest := [va_re ad (M28.2 b30 ((0 : Int32)).toNatClampNeg), .ref (ad a)]) ⟨hx, hb, hml, hown, hts⟩ (kX6_lumaAt l D ct ad Z G M28 H.size ((M28.2 b13 0)) p1 y11.2 y12.2 y31 hy31) (va_cwS 4 hts gX6_fillSixteen_X6_lumaAt rfl rfl rfl (by decide +kernel) ⟨Nat.le_of_ble_eq_true rfl, Nat.le_of_ble_eq_true rfl⟩) ⟨fun a U g mk q => by obtain ⟨q0, q1, qP, qK, qD, qZ, qN⟩ := q; exact ⟨q0, q1, qP, va_K.moved (u := U) (U := U.calling g mk a) (Vm.Alike.refl U.vm) qK, qD, sF.moved (u := U) (U := U.calling g mk a) (Vm.Alike.refl U.vm) qZ, nF.same rfl qN⟩, fun U hU hW => ⟨rfl, by rw [hU], by rw [hU]; exact hP, va_K.moved hW.alike hK, hD.weaken (fun _ _ _ _ => trivial), by rw [hU]; exact ((hZ.kept hS.2.1).narrow hf9).moved hW.alike, hN.warm hW⟩⟩ rfl rfl hl.1 rfl (lv_room (by simp only [List.map, va_re_cat]; exact Nat.le_of_ble_eq_true rfl)) dX6_fillSixteen_155 ⟨(Nat.zero_le _), (Nat.zero_le _)⟩) hS (fun q _ h => hf9 q h) hf9 (fun r u t H locs ht hvm hw hB hz1 hk1 hS => ?_)
      obtain ⟨hP, hK9, hD9⟩ := hB
      rw [ht] at hP
      try dsimp only at hw
      subst hw
      have hD := hD9.weaken (fun _ q _ h => hf9 q.1 h)
      refine lv_bipush (v := (16 : Int32)) hx hb dX6_fillSixteen_158 (by decide) ?_
      refine lv_aloadq_n hx hb dX6_fillSixteen_160 rfl (lv_at hl 5 rfl) ?_
      refine W_st (st' := [.ref (ad b13), .int (16 : Int32), .int y31.2, va_re ad (M28.2 b30 ((0 : Int32)).toNatClampNeg), .ref (ad a)]) (by rw [va_some ho13]) ?_
      refine va_get (D := D) (ci := 9) (v := va_re ad (y31.1.2 b13 0)) (C := RX9) (T := TX9) (N := 20) hx hb hts (by decide +kernel) hown hK hP b13 (wld_o ct ad G y31.1 hc13 hk13 (by decide)) rfl 0 (by decide) (hts (.fieldLink RX6 46 "VideoSuite$Work" "pic" "LVideoSuite$Picture;") (by decide +kernel)) (fun _ h9 => h9) rfl dX6_fillSixteen_161 ?_
      obtain ⟨b32, ho32, hc32, hk32, hF⟩ := dr_some hF
      refine W_st (st' := [.ref (ad b32), .int (16 : Int32), .int y31.2, va_re ad (M28.2 b30 ((0 : Int32)).toNatClampNeg), .ref (ad a)]) (by rw [va_some ho32]) ?_
      refine va_get (D := D) (ci := 4) (v := .int (y31.1.1 b32 1)) (C := RX4) (T := TX4) (N := 18) hx hb hts (by decide +kernel) hown hK hP b32 (wld_o ct ad G y31.1 hc32 hk32 (by decide)) rfl 1 (by decide) (hts (.fieldLink RX6 83 "VideoSuite$Picture" "width" "I") (by decide +kernel)) (fun _ h9 => h9) rfl dX6_fillSixteen_164 ?_
      obtain ⟨x33, ex33, hF⟩ := ltt_some hF
      refine lv_topi (fun zx33 ezx33 => ?_)
      obtain rfl : x33 = zx33 := ex33.trans ezx33.symm
      refine lv_imul hx hb dX6_fillSixteen_167 ?_
      obtain ⟨x34, ex34, hF⟩ := ltt_some hF
      refine lv_topi (fun zx34 ezx34 => ?_)
      obtain rfl : x34 = zx34 := ex34.trans ezx34.symm
      refine lv_bipush (v := (16 : Int32)) hx hb dX6_fillSixteen_168 (by decide) ?_
      refine lv_iload hx hb dX6_fillSixteen_170 (lv_at hl 0 rfl) ?_
      refine lv_imul hx hb dX6_fillSixteen_172 ?_
      obtain ⟨x35, ex35, hF⟩ := ltt_some hF
      refine lv_topi (fun zx35 ezx35 => ?_)
      obtain rfl : x35 = zx35 := ex35.trans ezx35.symm
      refine lv_iload hx hb dX6_fillSixteen_173 (lv_at hl 1 rfl) ?_
      refine lv_iadd hx hb dX6_fillSixteen_175 ?_
      obtain ⟨x36, ex36, hF⟩ := ltt_some hF
      refine lv_topi (fun zx36 ezx36 => ?_)
      obtain rfl : x36 = zx36 := ex36.trans ezx36.symm
      refine lv_bipush (v := (16 : Int32)) hx hb dX6_fillSixteen_176 (by decide) ?_
      obtain ⟨y37, hy37, hF⟩ := bnd_some hF
      have hf9 := wA_in hD hA9 hS
      refine va_callv (va_runV (As := [va_re ad (M28.2 b30 ((0 : Int32)).toNatClampNeg), .int y31.2, .int x34, .int x36, .int (16 : Int32)]) (rest := []) ⟨hx, hb, hml, hown, hts⟩ (kX6_fillPiece l D ct ad Z G y31.1 H.size a ((M28.2 b30 ((0 : Int32)).toNatClampNeg)) y31.2 x34 x36 ((16 : Int32)) y37 hc hk hy37) (cwV 5 hts gX6_fillSixteen_X6_fillPiece rfl rfl rfl (by decide +kernel) ⟨Nat.le_of_ble_eq_true rfl, Nat.le_of_ble_eq_true rfl⟩) ⟨fun a U g mk q => by obtain ⟨q0, q1, qP, qK, qD, qZ, qN⟩ := q; exact ⟨q0, q1, qP, va_K.moved (u := U) (U := U.calling g mk a) (Vm.Alike.refl U.vm) qK, qD, sF.moved (u := U) (U := U.calling g mk a) (Vm.Alike.refl U.vm) qZ, nF.same rfl qN⟩, va_recv hK hP (ci := 6) (q0 := a) rfl (wld_o ct ad G y31.1 hc hk (by decide)), fun U hU hW => ⟨rfl, by rw [hU], by rw [hU]; exact hP, va_K.moved hW.alike hK, hD.weaken (fun _ _ _ _ => trivial), by rw [hU]; exact ((hZ.kept hS.2.1).narrow hf9).moved hW.alike, hN.warm hW⟩⟩ rfl rfl hl.1 rfl (lv_room (Nat.le_of_ble_eq_true rfl)) dX6_fillSixteen_178 ⟨(Nat.zero_le _), (Nat.zero_le _)⟩) hS (fun q _ h => hf9 q h) hf9 (fun u t H locs ht hvm hw hB hz1 hk1 hS => ?_)
      obtain ⟨hP, hK9, hD9⟩ := hB
      rw [ht] at hP
      have hD := hD9.weaken (fun _ q _ h => hf9 q.1 h)
      obtain ⟨x38, ex38, hF⟩ := ltt_some hF
      refine lv_iinc (v := x38) (lv' := [(5, .int x38), (7, .int y12.2), (6, .int y11.2), (4, .int y1.2), (0, .ref (ad a)), (1, va_re ad p0), (2, .int p1), (3, .int p2)]) hx hb dX6_fillSixteen_181 hl (k := 2) rfl (by rw [ex38]; rfl) (by decide) rfl (fun ls hl => ?_)
      refine lv_goto (tgt := 61) hx hb dX6_fillSixteen_184 (by decide) ?_
      obtain rfl := Option.some.inj hF
      exact hwz9 _ _ _ hP hD hS (lv_sub hl [0, 3, 4, 5, 6, 7] rfl)
  clear hF
  refine itr_rule (fun (s3 : Int32 × DD) => ∀ (H : Heap) (locs : List Loc) (ls : Array Slot), va_P D classes (wld ct ad G s3.2) H → va_D A (wld ct ad G s3.2) → va_S A s.heap H locs → lv_has ls 8 [(5, .int s3.1), (4, .int y1.2), (0, .ref (ad a)), (1, va_re ad p0), (2, .int p1), (3, .int p2)] → W p l e (headSpec wsX6_fillSixteen ({ frames := 2, cells := 0, slots := 0, locals := 55 })).room s m ([.ref (ad a), va_re ad p0, .int p1, .int p2] : List Value).toArray below meth c H locs 0 0 (MQ below (va_Qv (fun (_ : Unit) => True) (fun _ t => kE D ct ad G A y t) A) ([.ref (ad a), va_re ad p0, .int p1, .int p2] : List Value).toArray s 0 0 A) (F0 m 11 ls [])) ?_ _ _ hy2 _ _ _ hP hD hS (lv_sub hl [0, 1, 2, 3, 4, 5] rfl)
  rintro s3 ⟨z39, hF, hwz39⟩ H locs ls hP hD hS hl
  try dsimp only at hF
  refine lv_iload hx hb dX6_fillSixteen_11 (lv_at hl 0 rfl) ?_
  refine lv_bipush (v := (16 : Int32)) hx hb dX6_fillSixteen_13 (by decide) ?_
  refine lv_icmp_ge (tgt := 54) hx hb dX6_fillSixteen_15 (by decide) (fun c40 => ?_) (fun c40 => ?_)
  · rw [if_pos c40] at hF
    obtain rfl := Option.some.inj hF
    subst hwz39
    exact K2 _ _ _ hP hD hS (lv_sub hl [0, 1, 2, 3, 4, 5] rfl)
  · rw [if_neg c40] at hF
    refine lv_aload_n hx hb dX6_fillSixteen_18 rfl (lv_at hl 2 rfl) ?_
    refine va_get (D := D) (ci := 6) (v := va_re ad (s3.2.2 a 7)) (C := RX6) (T := TX6) (N := 14) hx hb hts (by decide +kernel) hown hK hP a (wld_o ct ad G s3.2 hc hk (by decide)) rfl 7 (by decide) (hts (.fieldLink RX6 33 "VideoSuite$Samples" "even" "[I") (by decide +kernel)) (fun _ h9 => h9) rfl dX6_fillSixteen_19 ?_
    refine lv_iconst (v := (4 : Int32)) hx hb dX6_fillSixteen_22 (by decide) ?_
    refine va_gets hx hb (hZ.1 15 (by decide)).1 hS hown (hts (.fieldLink RX6 221 "VideoSuite$Samples" "SCAN_Y" "[I") (by decide +kernel)) (fun _ h => h) dX6_fillSixteen_23 ?_
    refine lv_iload hx hb dX6_fillSixteen_26 (lv_at hl 0 rfl) ?_
    obtain ⟨hvc, hF⟩ := chk_some hF
    refine va_ti (v := .int ((sT 15).getD s3.1.toNatClampNeg 0)) hx hb (hZ.1 15 (by decide)).2 hS hvc rfl dX6_fillSixteen_28 ?_
    obtain ⟨x41, ex41, hF⟩ := ltt_some hF
    refine lv_topi (fun zx41 ezx41 => ?_)
    obtain rfl : x41 = zx41 := ex41.trans ezx41.symm
    refine lv_imul hx hb dX6_fillSixteen_29 ?_
    obtain ⟨x42, ex42, hF⟩ := ltt_some hF
    refine lv_topi (fun zx42 ezx42 => ?_)
    obtain rfl : x42 = zx42 := ex42.trans ezx42.symm
    refine va_gets hx hb (hZ.1 14 (by decide)).1 hS hown (hts (.fieldLink RX6 218 "VideoSuite$Samples" "SCAN_X" "[I") (by decide +kernel)) (fun _ h => h) dX6_fillSixteen_30 ?_
    refine lv_iload hx hb dX6_fillSixteen_33 (lv_at hl 0 rfl) ?_
    obtain ⟨hvc, hF⟩ := chk_some hF
    refine va_ti (v := .int ((sT 14).getD s3.1.toNatClampNeg 0)) hx hb (hZ.1 14 (by decide)).2 hS hvc rfl dX6_fillSixteen_35 ?_
    obtain ⟨x43, ex43, hF⟩ := ltt_some hF
    refine lv_topi (fun zx43 ezx43 => ?_)
    obtain rfl : x43 = zx43 := ex43.trans ezx43.symm
    refine lv_iadd hx hb dX6_fillSixteen_36 ?_
    obtain ⟨x44, ex44, hF⟩ := ltt_some hF
    refine lv_topi (fun zx44 ezx44 => ?_)
    obtain rfl : x44 = zx44 := ex44.trans ezx44.symm
    refine lv_aloadq_n hx hb dX6_fillSixteen_37 rfl (lv_at hl 3 rfl) ?_
    obtain ⟨b45, ho45, hc45, hk45, hF⟩ := dr_some hF
    refine W_st (st' := [.ref (ad b45), .int x44, va_re ad (s3.2.2 a 7)]) (by rw [va_some ho45]) ?_
    refine va_get (D := D) (ci := 9) (v := va_re ad (s3.2.2 b45 9)) (C := RX9) (T := TX9) (N := 20) hx hb hts (by decide +kernel) hown hK hP b45 (wld_o ct ad G s3.2 hc45 hk45 (by decide)) rfl 9 (by decide) (hts (.fieldLink RX6 234 "VideoSuite$Work" "level" "[I") (by decide +kernel)) (fun _ h9 => h9) rfl dX6_fillSixteen_38 ?_
    refine lv_iload hx hb dX6_fillSixteen_41 (lv_at hl 1 rfl) ?_
    refine lv_iload hx hb dX6_fillSixteen_43 (lv_at hl 0 rfl) ?_
    refine lv_iadd hx hb dX6_fillSixteen_45 ?_
    obtain ⟨x46, ex46, hF⟩ := ltt_some hF
    refine lv_topi (fun zx46 ezx46 => ?_)
    obtain rfl : x46 = zx46 := ex46.trans ezx46.symm
    obtain ⟨b47, ho47, hc47, hk47, hF⟩ := dr_some hF
    refine W_st (st' := [.int x46, .ref (ad b47), .int x44, va_re ad (s3.2.2 a 7)]) (by rw [va_some ho47]) ?_
    obtain ⟨hvc, hF⟩ := chk_some hF
    refine va_iald hx hb hK hP b47 1 (wld_i ct ad G s3.2 hc47 hk47) rfl hvc dX6_fillSixteen_46 ?_
    obtain ⟨x48, ex48, hF⟩ := ltt_some hF
    refine lv_topi (fun zx48 ezx48 => ?_)
    obtain rfl : x48 = zx48 := ex48.trans ezx48.symm
    obtain ⟨b49, ho49, hc49, hk49, hF⟩ := dr_some hF
    refine W_st (st' := [.int x48, .int x44, .ref (ad b49)]) (by rw [va_some ho49]) ?_
    obtain ⟨hvc, hF⟩ := chk_some hF
    refine va_iast hx hb hK hP hD hS b49 1 (wld_i ct ad G s3.2 hc49 hk49) rfl hvc dX6_fillSixteen_47 (fun H locs hP hD hS => ?_)
    obtain ⟨M50, eM50, hF⟩ := ltt_some hF
    rw [set_i ct ad G s3.2 hc49 hk49, ← eM50] at hP hD
    obtain ⟨x51, ex51, hF⟩ := ltt_some hF
    refine lv_iinc (v := x51) (lv' := [(5, .int x51), (4, .int y1.2), (0, .ref (ad a)), (1, va_re ad p0), (2, .int p1), (3, .int p2)]) hx hb dX6_fillSixteen_48 hl (k := 0) rfl (by rw [ex51]; rfl) (by decide) rfl (fun ls hl => ?_)
    refine lv_goto (tgt := 11) hx hb dX6_fillSixteen_51 (by decide) ?_
    obtain rfl := Option.some.inj hF
    exact hwz39 _ _ _ hP hD hS (lv_sub hl [0, 1, 2, 3, 4, 5] rfl)
