theorem dX8_keepFound_0 : decode cX8_keepFound 0 = .ok (.iconst 0, 1) := by decide +kernel
theorem dX8_keepFound_1 : decode cX8_keepFound 1 = .ok (.istore_n 2, 1) := by decide +kernel
theorem dX8_keepFound_2 : decode cX8_keepFound 2 = .ok (.iconst 0, 1) := by decide +kernel
theorem dX8_keepFound_3 : decode cX8_keepFound 3 = .ok (.istore_n 3, 1) := by decide +kernel
theorem dX8_keepFound_4 : decode cX8_keepFound 4 = .ok (.iload_n 3, 1) := by decide +kernel
theorem dX8_keepFound_5 : decode cX8_keepFound 5 = .ok (.aload_n 0, 1) := by decide +kernel
theorem dX8_keepFound_6 : decode cX8_keepFound 6 = .ok (.getfield 45, 3) := by decide +kernel
theorem dX8_keepFound_9 : decode cX8_keepFound 9 = .ok (.if_icmp .ge 80, 3) := by decide +kernel
theorem dX8_keepFound_12 : decode cX8_keepFound 12 = .ok (.aload_n 0, 1) := by decide +kernel
theorem dX8_keepFound_13 : decode cX8_keepFound 13 = .ok (.getfield 26, 3) := by decide +kernel
theorem dX8_keepFound_16 : decode cX8_keepFound 16 = .ok (.iload_n 3, 1) := by decide +kernel
theorem dX8_keepFound_17 : decode cX8_keepFound 17 = .ok (.iaload, 1) := by decide +kernel
theorem dX8_keepFound_18 : decode cX8_keepFound 18 = .ok (.istore 4, 2) := by decide +kernel
theorem dX8_keepFound_20 : decode cX8_keepFound 20 = .ok (.iload 4, 2) := by decide +kernel
theorem dX8_keepFound_22 : decode cX8_keepFound 22 = .ok (.aload_n 0, 1) := by decide +kernel
theorem dX8_keepFound_23 : decode cX8_keepFound 23 = .ok (.getfield 10, 3) := by decide +kernel
theorem dX8_keepFound_26 : decode cX8_keepFound 26 = .ok (.arraylength, 1) := by decide +kernel
theorem dX8_keepFound_27 : decode cX8_keepFound 27 = .ok (.iload_n 2, 1) := by decide +kernel
theorem dX8_keepFound_28 : decode cX8_keepFound 28 = .ok (.isub, 1) := by decide +kernel
theorem dX8_keepFound_29 : decode cX8_keepFound 29 = .ok (.if_icmp .gt 34, 3) := by decide +kernel
theorem dX8_keepFound_32 : decode cX8_keepFound 32 = .ok (.iload 4, 2) := by decide +kernel
theorem dX8_keepFound_34 : decode cX8_keepFound 34 = .ok (.aload_n 1, 1) := by decide +kernel
theorem dX8_keepFound_35 : decode cX8_keepFound 35 = .ok (.arraylength, 1) := by decide +kernel
theorem dX8_keepFound_36 : decode cX8_keepFound 36 = .ok (.aload_n 0, 1) := by decide +kernel
theorem dX8_keepFound_37 : decode cX8_keepFound 37 = .ok (.getfield 23, 3) := by decide +kernel
theorem dX8_keepFound_40 : decode cX8_keepFound 40 = .ok (.iload_n 3, 1) := by decide +kernel
theorem dX8_keepFound_41 : decode cX8_keepFound 41 = .ok (.iaload, 1) := by decide +kernel
theorem dX8_keepFound_42 : decode cX8_keepFound 42 = .ok (.isub, 1) := by decide +kernel
theorem dX8_keepFound_43 : decode cX8_keepFound 43 = .ok (.if_icmp .gt 20, 3) := by decide +kernel
theorem dX8_keepFound_46 : decode cX8_keepFound 46 = .ok (.aload_n 1, 1) := by decide +kernel
theorem dX8_keepFound_47 : decode cX8_keepFound 47 = .ok (.aload_n 0, 1) := by decide +kernel
theorem dX8_keepFound_48 : decode cX8_keepFound 48 = .ok (.getfield 23, 3) := by decide +kernel
theorem dX8_keepFound_51 : decode cX8_keepFound 51 = .ok (.iload_n 3, 1) := by decide +kernel
theorem dX8_keepFound_52 : decode cX8_keepFound 52 = .ok (.iaload, 1) := by decide +kernel
theorem dX8_keepFound_53 : decode cX8_keepFound 53 = .ok (.aload_n 0, 1) := by decide +kernel
theorem dX8_keepFound_54 : decode cX8_keepFound 54 = .ok (.getfield 10, 3) := by decide +kernel
theorem dX8_keepFound_57 : decode cX8_keepFound 57 = .ok (.iload_n 2, 1) := by decide +kernel
theorem dX8_keepFound_58 : decode cX8_keepFound 58 = .ok (.iload 4, 2) := by decide +kernel
theorem dX8_keepFound_60 : decode cX8_keepFound 60 = .ok (.invokestatic 56, 3) := by decide +kernel
theorem dX8_keepFound_63 : decode cX8_keepFound 63 = .ok (.aload_n 0, 1) := by decide +kernel
theorem dX8_keepFound_64 : decode cX8_keepFound 64 = .ok (.getfield 16, 3) := by decide +kernel
theorem dX8_keepFound_67 : decode cX8_keepFound 67 = .ok (.iload_n 3, 1) := by decide +kernel
theorem dX8_keepFound_68 : decode cX8_keepFound 68 = .ok (.iload_n 2, 1) := by decide +kernel
theorem dX8_keepFound_69 : decode cX8_keepFound 69 = .ok (.iastore, 1) := by decide +kernel
theorem dX8_keepFound_70 : decode cX8_keepFound 70 = .ok (.aload_n 0, 1) := by decide +kernel
theorem dX8_keepFound_71 : decode cX8_keepFound 71 = .ok (.getfield 20, 3) := by decide +kernel
theorem dX8_keepFound_74 : decode cX8_keepFound 74 = .ok (.iload_n 3, 1) := by decide +kernel
theorem dX8_keepFound_75 : decode cX8_keepFound 75 = .ok (.iload 4, 2) := by decide +kernel
theorem dX8_keepFound_77 : decode cX8_keepFound 77 = .ok (.iastore, 1) := by decide +kernel
theorem dX8_keepFound_78 : decode cX8_keepFound 78 = .ok (.iload_n 2, 1) := by decide +kernel
theorem dX8_keepFound_79 : decode cX8_keepFound 79 = .ok (.iload 4, 2) := by decide +kernel
theorem dX8_keepFound_81 : decode cX8_keepFound 81 = .ok (.iadd, 1) := by decide +kernel
theorem dX8_keepFound_82 : decode cX8_keepFound 82 = .ok (.istore_n 2, 1) := by decide +kernel
theorem dX8_keepFound_83 : decode cX8_keepFound 83 = .ok (.iinc 3 1, 3) := by decide +kernel
theorem dX8_keepFound_86 : decode cX8_keepFound 86 = .ok (.goto (-82), 3) := by decide +kernel
theorem dX8_keepFound_89 : decode cX8_keepFound 89 = .ok (.aload_n 0, 1) := by decide +kernel
theorem dX8_keepFound_90 : decode cX8_keepFound 90 = .ok (.aload_n 0, 1) := by decide +kernel
theorem dX8_keepFound_91 : decode cX8_keepFound 91 = .ok (.getfield 45, 3) := by decide +kernel
theorem dX8_keepFound_94 : decode cX8_keepFound 94 = .ok (.putfield 41, 3) := by decide +kernel
theorem dX8_keepFound_97 : decode cX8_keepFound 97 = .ok (.aload_n 0, 1) := by decide +kernel
theorem dX8_keepFound_98 : decode cX8_keepFound 98 = .ok (.iconst 0, 1) := by decide +kernel
theorem dX8_keepFound_99 : decode cX8_keepFound 99 = .ok (.putfield 62, 3) := by decide +kernel
theorem dX8_keepFound_102 : decode cX8_keepFound 102 = .ok (.return_, 1) := by decide +kernel
def FX8_keepFound (G : GG) (M : DD) (a : Nat) (p0 : Option Nat) : Option (DD) :=
  bnd (itr (fun (s2 : Int32 × Int32 × DD) => ((ltt (s2.2.2.1 a 7) fun x8 =>
  if x8 ≤ s2.2.1 then (some (.inr (s2.1, s2.2.1, s2.2.2))) else
  (dr G 13 ((s2.2.2.2 a 6)) fun b10 =>
  chk (¬ (s2.2.1 < 0 ∨ G.2.2 b10 ≤ s2.2.1.toNatClampNeg)) <|
  ltt (s2.2.2.1 b10 s2.2.1.toNatClampNeg) fun x11 =>
  dr G 12 ((s2.2.2.2 a 0)) fun b12 =>
  ltt (Int32.ofNat (G.2.2 b12)) fun x13 =>
  ltt ((x13 - s2.1)) fun x14 =>
  bnd (if x14 < x11 then (some (s2.2.2)) else
  (dr G 12 p0 fun b23 =>
  ltt (Int32.ofNat (G.2.2 b23)) fun x24 =>
  dr G 13 ((s2.2.2.2 a 5)) fun b25 =>
  chk (¬ (s2.2.1 < 0 ∨ G.2.2 b25 ≤ s2.2.1.toNatClampNeg)) <|
  ltt (s2.2.2.1 b25 s2.2.1.toNatClampNeg) fun x26 =>
  ltt ((x24 - x26)) fun x27 =>
  bnd (if x27 < x11 then (some (s2.2.2)) else
  (chk (¬ (s2.2.1 < 0 ∨ G.2.2 b25 ≤ s2.2.1.toNatClampNeg)) <|
  ltt (s2.2.2.1 b25 s2.2.1.toNatClampNeg) fun x30 =>
  chk (¬ x30 < 0 ∧ ¬ s2.1 < 0 ∧ ¬ x11 < 0 ∧ x30.toNatClampNeg + x11.toNatClampNeg ≤ G.2.2 b23 ∧ s2.1.toNatClampNeg + x11.toNatClampNeg ≤ G.2.2 b12) <|
  chk (∀ i, i < x11.toNatClampNeg → fits .byte (.int (s2.2.2.1 b23 (x30.toNatClampNeg + i))) = true) <|
  ltt (rI s2.2.2 b12 (va_cpy (s2.2.2.1 b23) (s2.2.2.1 b12) x30.toNatClampNeg s2.1.toNatClampNeg x11.toNatClampNeg)) fun M31 =>
  some (M31))) fun (y28 : DD) =>
  some (y28))) fun (y15 : DD) =>
  dr G 13 ((y15.2 a 1)) fun b16 =>
  chk (¬ (s2.2.1 < 0 ∨ G.2.2 b16 ≤ s2.2.1.toNatClampNeg)) <|
  ltt (uI y15 b16 s2.2.1.toNatClampNeg s2.1) fun M17 =>
  dr G 13 ((M17.2 a 2)) fun b18 =>
  chk (¬ (s2.2.1 < 0 ∨ G.2.2 b18 ≤ s2.2.1.toNatClampNeg)) <|
  ltt (uI M17 b18 s2.2.1.toNatClampNeg x11) fun M19 =>
  ltt ((s2.1 + x11)) fun x20 =>
  ltt (s2.2.1 + (1 : Int32)) fun x21 =>
  some (.inl (x20, x21, M19)))) : Option ((Int32 × Int32 × DD) ⊕ (Int32 × Int32 × DD)))) 1000000 ((0 : Int32), (0 : Int32), M)) fun (y1 : Int32 × Int32 × DD) =>
  ltt (y1.2.2.1 a 7) fun x4 =>
  ltt (uI y1.2.2 a 3 x4) fun M5 =>
  ltt (uI M5 a 4 ((0 : Int32))) fun M6 =>
  some M6
set_option maxHeartbeats 4000000 in
set_option maxRecDepth 100000 in
theorem kX8_keepFound (l : Launch) (D : va_G) (ct : CT) (ad : Nat → Nat) (Z : Nat → Nat) (G : GG) (M : DD) (sz : Nat) (a : Nat) (p0 : Option Nat) (y : DD) (hc : a < G.1) (hk : G.2.1 a = 8) (hF : FX8_keepFound G M a p0 = some y) : Met l yX8_keepFound wsX8_keepFound ({ frames := 1, cells := 0, slots := 0, locals := 80 }) (va_Pc [.ref (ad a), va_re ad p0] (kB D ct ad Z G M sz)) (va_Qv (fun (_ : Unit) => True) (fun _ t => kE D ct ad G (wA ad G sz) y t) (wA ad G sz)) 0 0 (wA ad G sz) := by
  refine Met.ofW (cc := cX8_keepFound) (maxL := 5) (ret := none) (by decide) rfl ?_
  intro p e s m args below meth c s₁ B hml hv
  obtain ⟨rfl, hsz, hP, hK, hD0, hZ, hN⟩ := hv
  have hx := B.exec
  have hb := B.bytes
  have hr := B.returns
  have hts := atoms_spec (ws := wsX8_keepFound) B.pre
  have hown : s.vm.findClass RX8 = some m.cls := findClass_of_methodNamed B.named
  have hlocks := B.notSynchronized
  subst hsz
  have hD := wD_self (sz := s.heap.size) hD0
  have hA9 : ∀ q, s.heap.size ≤ q → wA ad G s.heap.size q := fun q h => Or.inr h
  generalize hAe : wA ad G s.heap.size = A at hD hA9 hZ ⊢
  have hS : va_S A s.heap s.heap [] := va_S.rf
  have hl := lv_entry ([.ref (ad a), va_re ad p0]) (n := 5) (by cases p0 <;> exact Nat.le_of_ble_eq_true rfl)
  rw [lg_entry_eq]
  generalize (lg_sl ([.ref (ad a), va_re ad p0]) ++ List.replicate (5 - (lg_sl ([.ref (ad a), va_re ad p0])).length) Slot.unset).toArray = ls at hl ⊢
  have hl : lv_has ls 5 [(0, .ref (ad a)), (1, va_re ad p0)] := by have e9 : lv_args 0 [.ref (ad a), va_re ad p0] = [(0, .ref (ad a)), (1, va_re ad p0)] := (by cases p0 <;> rfl); rw [e9] at hl; exact hl
  unfold FX8_keepFound at hF
  refine lv_iconst (v := (0 : Int32)) hx hb dX8_keepFound_0 (by decide) ?_
  refine lv_istore_n (lv' := [(2, .int (0 : Int32)), (0, .ref (ad a)), (1, va_re ad p0)]) hx hb dX8_keepFound_1 rfl hl (by decide) (by generalize p0 = o9; cases o9 <;> rfl) (fun ls hl => ?_)
  refine lv_iconst (v := (0 : Int32)) hx hb dX8_keepFound_2 (by decide) ?_
  refine lv_istore_n (lv' := [(3, .int (0 : Int32)), (2, .int (0 : Int32)), (0, .ref (ad a)), (1, va_re ad p0)]) hx hb dX8_keepFound_3 rfl hl (by decide) rfl (fun ls hl => ?_)
  obtain ⟨y1, hy1, hF⟩ := bnd_some hF
  have K1 : ∀ (H : Heap) (locs : List Loc) (ls : Array Slot), va_P D classes (wld ct ad G y1.2.2) H → va_D A (wld ct ad G y1.2.2) → va_S A s.heap H locs → lv_has ls 5 [(3, .int y1.2.1), (2, .int y1.1), (0, .ref (ad a)), (1, va_re ad p0)] → W p l e (headSpec wsX8_keepFound ({ frames := 1, cells := 0, slots := 0, locals := 80 })).room s m ([.ref (ad a), va_re ad p0] : List Value).toArray below meth c H locs 0 0 (MQ below (va_Qv (fun (_ : Unit) => True) (fun _ t => kE D ct ad G A y t) A) ([.ref (ad a), va_re ad p0] : List Value).toArray s 0 0 A) (F0 m 89 ls []) := by
    intro H locs ls hP hD hS hl
    refine lv_aload_n hx hb dX8_keepFound_89 rfl (lv_at hl 2 rfl) ?_
    refine lv_aload_n hx hb dX8_keepFound_90 rfl (lv_at hl 2 rfl) ?_
    refine va_get (D := D) (ci := 8) (v := .int (y1.2.2.1 a 7)) (C := RX8) (T := TX8) (N := 15) hx hb hts (by decide +kernel) hown hK hP a (wld_o ct ad G y1.2.2 hc hk (by decide)) rfl 7 (by decide) (hts (.fieldLink RX8 45 "VideoSuite$Units" "found" "I") (by decide +kernel)) (fun _ h9 => h9) rfl dX8_keepFound_91 ?_
    obtain ⟨x4, ex4, hF⟩ := ltt_some hF
    refine lv_topi (fun zx4 ezx4 => ?_)
    obtain rfl : x4 = zx4 := ex4.trans ezx4.symm
    refine va_put (D := D) (ci := 8) (v := .int x4) (ty := .int) (C := RX8) (T := TX8) (N := 15) hx hb hts (by decide +kernel) tyX8 tyX8_ok nmX8 hown hK hP hD hS a (wld_o ct ad G y1.2.2 hc hk (by decide)) rfl 3 (by decide) (hts (.fieldLink RX8 41 "VideoSuite$Units" "count" "I") (by decide +kernel)) (fun _ h9 => h9) rfl (by decide +kernel) rfl rfl (Nat.le_of_ble_eq_true rfl) dX8_keepFound_94 (fun H locs hP hD hS => ?_)
    obtain ⟨M5, eM5, hF⟩ := ltt_some hF
    rw [set_oI ct ad G y1.2.2 hc hk (by decide) (by rfl), ← eM5] at hP hD
    refine lv_aload_n hx hb dX8_keepFound_97 rfl (lv_at hl 2 rfl) ?_
    refine lv_iconst (v := (0 : Int32)) hx hb dX8_keepFound_98 (by decide) ?_
    refine va_put (D := D) (ci := 8) (v := .int (0 : Int32)) (ty := .int) (C := RX8) (T := TX8) (N := 15) hx hb hts (by decide +kernel) tyX8 tyX8_ok nmX8 hown hK hP hD hS a (wld_o ct ad G M5 hc hk (by decide)) rfl 4 (by decide) (hts (.fieldLink RX8 62 "VideoSuite$Units" "decoded" "I") (by decide +kernel)) (fun _ h9 => h9) rfl (by decide +kernel) rfl rfl (Nat.le_of_ble_eq_true rfl) dX8_keepFound_99 (fun H locs hP hD hS => ?_)
    obtain ⟨M6, eM6, hF⟩ := ltt_some hF
    rw [set_oI ct ad G M5 hc hk (by decide) (by rfl), ← eM6] at hP hD
    obtain rfl := Option.some.inj hF
    exact W.vret hx hb hr (fun t ht hW => ⟨⟨(), rfl, trivial, ⟨by rw [ht]; exact hP, va_K.moved hW.alike hK, hD⟩⟩, hS.F ht⟩) hS.2.2 dX8_keepFound_102
  clear hF
  refine itr_rule (fun (s2 : Int32 × Int32 × DD) => ∀ (H : Heap) (locs : List Loc) (ls : Array Slot), va_P D classes (wld ct ad G s2.2.2) H → va_D A (wld ct ad G s2.2.2) → va_S A s.heap H locs → lv_has ls 5 [(3, .int s2.2.1), (2, .int s2.1), (0, .ref (ad a)), (1, va_re ad p0)] → W p l e (headSpec wsX8_keepFound ({ frames := 1, cells := 0, slots := 0, locals := 80 })).room s m ([.ref (ad a), va_re ad p0] : List Value).toArray below meth c H locs 0 0 (MQ below (va_Qv (fun (_ : Unit) => True) (fun _ t => kE D ct ad G A y t) A) ([.ref (ad a), va_re ad p0] : List Value).toArray s 0 0 A) (F0 m 4 ls [])) ?_ _ _ hy1 _ _ _ hP hD hS (lv_sub hl [0, 1, 2, 3] rfl)
  rintro s2 ⟨z7, hF, hwz7⟩ H locs ls hP hD hS hl
  try dsimp only at hF
  refine lv_iload_n hx hb dX8_keepFound_4 rfl (lv_at hl 0 rfl) ?_
  refine lv_aload_n hx hb dX8_keepFound_5 rfl (lv_at hl 2 rfl) ?_
  refine va_get (D := D) (ci := 8) (v := .int (s2.2.2.1 a 7)) (C := RX8) (T := TX8) (N := 15) hx hb hts (by decide +kernel) hown hK hP a (wld_o ct ad G s2.2.2 hc hk (by decide)) rfl 7 (by decide) (hts (.fieldLink RX8 45 "VideoSuite$Units" "found" "I") (by decide +kernel)) (fun _ h9 => h9) rfl dX8_keepFound_6 ?_
  obtain ⟨x8, ex8, hF⟩ := ltt_some hF
  refine lv_topi (fun zx8 ezx8 => ?_)
  obtain rfl : x8 = zx8 := ex8.trans ezx8.symm
  refine lv_icmp_ge (tgt := 89) hx hb dX8_keepFound_9 (by decide) (fun c9 => ?_) (fun c9 => ?_)
  · rw [if_pos c9] at hF
    obtain rfl := Option.some.inj hF
    subst hwz7
    exact K1 _ _ _ hP hD hS (lv_sub hl [0, 1, 2, 3] rfl)
  · rw [if_neg c9] at hF
    refine lv_aload_n hx hb dX8_keepFound_12 rfl (lv_at hl 2 rfl) ?_
    refine va_get (D := D) (ci := 8) (v := va_re ad (s2.2.2.2 a 6)) (C := RX8) (T := TX8) (N := 15) hx hb hts (by decide +kernel) hown hK hP a (wld_o ct ad G s2.2.2 hc hk (by decide)) rfl 6 (by decide) (hts (.fieldLink RX8 26 "VideoSuite$Units" "foundSize" "[I") (by decide +kernel)) (fun _ h9 => h9) rfl dX8_keepFound_13 ?_
    refine lv_iload_n hx hb dX8_keepFound_16 rfl (lv_at hl 0 rfl) ?_
    obtain ⟨b10, ho10, hc10, hk10, hF⟩ := dr_some hF
    refine W_st (st' := [.int s2.2.1, .ref (ad b10)]) (by rw [va_some ho10]) ?_
    obtain ⟨hvc, hF⟩ := chk_some hF
    refine va_iald hx hb hK hP b10 1 (wld_i ct ad G s2.2.2 hc10 hk10) rfl hvc dX8_keepFound_17 ?_
    obtain ⟨x11, ex11, hF⟩ := ltt_some hF
    refine lv_topi (fun zx11 ezx11 => ?_)
    obtain rfl : x11 = zx11 := ex11.trans ezx11.symm
    refine lv_istore (lv' := [(4, .int x11), (3, .int s2.2.1), (2, .int s2.1), (0, .ref (ad a)), (1, va_re ad p0)]) hx hb dX8_keepFound_18 hl (by decide) rfl (fun ls hl => ?_)
    refine lv_iload hx hb dX8_keepFound_20 (lv_at hl 0 rfl) ?_
    refine lv_aload_n hx hb dX8_keepFound_22 rfl (lv_at hl 3 rfl) ?_
    refine va_get (D := D) (ci := 8) (v := va_re ad (s2.2.2.2 a 0)) (C := RX8) (T := TX8) (N := 15) hx hb hts (by decide +kernel) hown hK hP a (wld_o ct ad G s2.2.2 hc hk (by decide)) rfl 0 (by decide) (hts (.fieldLink RX8 10 "VideoSuite$Units" "bytes" "[B") (by decide +kernel)) (fun _ h9 => h9) rfl dX8_keepFound_23 ?_
    obtain ⟨b12, ho12, hc12, hk12, hF⟩ := dr_some hF
    refine W_st (st' := [.ref (ad b12), .int x11]) (by rw [va_some ho12]) ?_
    refine va_alen (v := Int32.ofNat (G.2.2 b12)) hx hb hK hP b12 0 (wld_b ct ad G s2.2.2 hc12 hk12) rfl rfl dX8_keepFound_26 ?_
    obtain ⟨x13, ex13, hF⟩ := ltt_some hF
    refine lv_topi (fun zx13 ezx13 => ?_)
    obtain rfl : x13 = zx13 := ex13.trans ezx13.symm
    refine lv_iload_n hx hb dX8_keepFound_27 rfl (lv_at hl 2 rfl) ?_
    refine lv_isub hx hb dX8_keepFound_28 ?_
    obtain ⟨x14, ex14, hF⟩ := ltt_some hF
    refine lv_topi (fun zx14 ezx14 => ?_)
    obtain rfl : x14 = zx14 := ex14.trans ezx14.symm
    obtain ⟨y15, hy15, hF⟩ := bnd_some hF
    have J15 : ∀ (H : Heap) (locs : List Loc) (ls : Array Slot), va_P D classes (wld ct ad G y15) H → va_D A (wld ct ad G y15) → va_S A s.heap H locs → lv_has ls 5 [(4, .int x11), (3, .int s2.2.1), (2, .int s2.1), (0, .ref (ad a)), (1, va_re ad p0)] → W p l e (headSpec wsX8_keepFound ({ frames := 1, cells := 0, slots := 0, locals := 80 })).room s m ([.ref (ad a), va_re ad p0] : List Value).toArray below meth c H locs 0 0 (MQ below (va_Qv (fun (_ : Unit) => True) (fun _ t => kE D ct ad G A y t) A) ([.ref (ad a), va_re ad p0] : List Value).toArray s 0 0 A) (F0 m 63 ls []) := by
      intro H locs ls hP hD hS hl
      refine lv_aload_n hx hb dX8_keepFound_63 rfl (lv_at hl 3 rfl) ?_
      refine va_get (D := D) (ci := 8) (v := va_re ad (y15.2 a 1)) (C := RX8) (T := TX8) (N := 15) hx hb hts (by decide +kernel) hown hK hP a (wld_o ct ad G y15 hc hk (by decide)) rfl 1 (by decide) (hts (.fieldLink RX8 16 "VideoSuite$Units" "start" "[I") (by decide +kernel)) (fun _ h9 => h9) rfl dX8_keepFound_64 ?_
      refine lv_iload_n hx hb dX8_keepFound_67 rfl (lv_at hl 1 rfl) ?_
      refine lv_iload_n hx hb dX8_keepFound_68 rfl (lv_at hl 2 rfl) ?_
      obtain ⟨b16, ho16, hc16, hk16, hF⟩ := dr_some hF
      refine W_st (st' := [.int s2.1, .int s2.2.1, .ref (ad b16)]) (by rw [va_some ho16]) ?_
      obtain ⟨hvc, hF⟩ := chk_some hF
      refine va_iast hx hb hK hP hD hS b16 1 (wld_i ct ad G y15 hc16 hk16) rfl hvc dX8_keepFound_69 (fun H locs hP hD hS => ?_)
      obtain ⟨M17, eM17, hF⟩ := ltt_some hF
      rw [set_i ct ad G y15 hc16 hk16, ← eM17] at hP hD
      refine lv_aload_n hx hb dX8_keepFound_70 rfl (lv_at hl 3 rfl) ?_
      refine va_get (D := D) (ci := 8) (v := va_re ad (M17.2 a 2)) (C := RX8) (T := TX8) (N := 15) hx hb hts (by decide +kernel) hown hK hP a (wld_o ct ad G M17 hc hk (by decide)) rfl 2 (by decide) (hts (.fieldLink RX8 20 "VideoSuite$Units" "size" "[I") (by decide +kernel)) (fun _ h9 => h9) rfl dX8_keepFound_71 ?_
      refine lv_iload_n hx hb dX8_keepFound_74 rfl (lv_at hl 1 rfl) ?_
      refine lv_iload hx hb dX8_keepFound_75 (lv_at hl 0 rfl) ?_
      obtain ⟨b18, ho18, hc18, hk18, hF⟩ := dr_some hF
      refine W_st (st' := [.int x11, .int s2.2.1, .ref (ad b18)]) (by rw [va_some ho18]) ?_
      obtain ⟨hvc, hF⟩ := chk_some hF
      refine va_iast hx hb hK hP hD hS b18 1 (wld_i ct ad G M17 hc18 hk18) rfl hvc dX8_keepFound_77 (fun H locs hP hD hS => ?_)
      obtain ⟨M19, eM19, hF⟩ := ltt_some hF
      rw [set_i ct ad G M17 hc18 hk18, ← eM19] at hP hD
      refine lv_iload_n hx hb dX8_keepFound_78 rfl (lv_at hl 2 rfl) ?_
      refine lv_iload hx hb dX8_keepFound_79 (lv_at hl 0 rfl) ?_
      refine lv_iadd hx hb dX8_keepFound_81 ?_
      obtain ⟨x20, ex20, hF⟩ := ltt_some hF
      refine lv_topi (fun zx20 ezx20 => ?_)
      obtain rfl : x20 = zx20 := ex20.trans ezx20.symm
      refine lv_istore_n (lv' := [(2, .int x20), (4, .int x11), (3, .int s2.2.1), (0, .ref (ad a)), (1, va_re ad p0)]) hx hb dX8_keepFound_82 rfl hl (by decide) (by generalize p0 = o9; cases o9 <;> rfl) (fun ls hl => ?_)
      obtain ⟨x21, ex21, hF⟩ := ltt_some hF
      refine lv_iinc (v := x21) (lv' := [(3, .int x21), (2, .int x20), (4, .int x11), (0, .ref (ad a)), (1, va_re ad p0)]) hx hb dX8_keepFound_83 hl (k := 2) rfl (by rw [ex21]; rfl) (by decide) rfl (fun ls hl => ?_)
      refine lv_goto (tgt := 4) hx hb dX8_keepFound_86 (by decide) ?_
      obtain rfl := Option.some.inj hF
      exact hwz7 _ _ _ hP hD hS (lv_sub hl [0, 1, 3, 4] rfl)
    clear hF
    have hF := hy15
    clear hy15
    refine lv_icmp_gt (tgt := 63) hx hb dX8_keepFound_29 (by decide) (fun c22 => ?_) (fun c22 => ?_)
    · rw [if_pos c22] at hF
      obtain rfl := Option.some.inj hF
      exact J15 _ _ _ hP hD hS (lv_sub hl [0, 1, 2, 3, 4] rfl)
    · rw [if_neg c22] at hF
      refine lv_iload hx hb dX8_keepFound_32 (lv_at hl 0 rfl) ?_
      refine lv_aloadq_n hx hb dX8_keepFound_34 rfl (lv_at hl 4 rfl) ?_
      obtain ⟨b23, ho23, hc23, hk23, hF⟩ := dr_some hF
      refine W_st (st' := [.ref (ad b23), .int x11]) (by rw [va_some ho23]) ?_
      refine va_alen (v := Int32.ofNat (G.2.2 b23)) hx hb hK hP b23 0 (wld_b ct ad G s2.2.2 hc23 hk23) rfl rfl dX8_keepFound_35 ?_
      obtain ⟨x24, ex24, hF⟩ := ltt_some hF
      refine lv_topi (fun zx24 ezx24 => ?_)
      obtain rfl : x24 = zx24 := ex24.trans ezx24.symm
      refine lv_aload_n hx hb dX8_keepFound_36 rfl (lv_at hl 3 rfl) ?_
      refine va_get (D := D) (ci := 8) (v := va_re ad (s2.2.2.2 a 5)) (C := RX8) (T := TX8) (N := 15) hx hb hts (by decide +kernel) hown hK hP a (wld_o ct ad G s2.2.2 hc hk (by decide)) rfl 5 (by decide) (hts (.fieldLink RX8 23 "VideoSuite$Units" "foundStart" "[I") (by decide +kernel)) (fun _ h9 => h9) rfl dX8_keepFound_37 ?_
      refine lv_iload_n hx hb dX8_keepFound_40 rfl (lv_at hl 1 rfl) ?_
      obtain ⟨b25, ho25, hc25, hk25, hF⟩ := dr_some hF
      refine W_st (st' := [.int s2.2.1, .ref (ad b25), .int x24, .int x11]) (by rw [va_some ho25]) ?_
      obtain ⟨hvc, hF⟩ := chk_some hF
      refine va_iald hx hb hK hP b25 1 (wld_i ct ad G s2.2.2 hc25 hk25) rfl hvc dX8_keepFound_41 ?_
      obtain ⟨x26, ex26, hF⟩ := ltt_some hF
      refine lv_topi (fun zx26 ezx26 => ?_)
      obtain rfl : x26 = zx26 := ex26.trans ezx26.symm
      refine lv_isub hx hb dX8_keepFound_42 ?_
      obtain ⟨x27, ex27, hF⟩ := ltt_some hF
      refine lv_topi (fun zx27 ezx27 => ?_)
      obtain rfl : x27 = zx27 := ex27.trans ezx27.symm
      obtain ⟨y28, hy28, hF⟩ := bnd_some hF
      have J28 : ∀ (H : Heap) (locs : List Loc) (ls : Array Slot), va_P D classes (wld ct ad G y28) H → va_D A (wld ct ad G y28) → va_S A s.heap H locs → lv_has ls 5 [(4, .int x11), (3, .int s2.2.1), (2, .int s2.1), (0, .ref (ad a)), (1, va_re ad p0)] → W p l e (headSpec wsX8_keepFound ({ frames := 1, cells := 0, slots := 0, locals := 80 })).room s m ([.ref (ad a), va_re ad p0] : List Value).toArray below meth c H locs 0 0 (MQ below (va_Qv (fun (_ : Unit) => True) (fun _ t => kE D ct ad G A y t) A) ([.ref (ad a), va_re ad p0] : List Value).toArray s 0 0 A) (F0 m 63 ls []) := by
        intro H locs ls hP hD hS hl
        obtain rfl := Option.some.inj hF
        exact J15 _ _ _ hP hD hS (lv_sub hl [0, 1, 2, 3, 4] rfl)
      clear hF
      have hF := hy28
      clear hy28
      refine lv_icmp_gt (tgt := 63) hx hb dX8_keepFound_43 (by decide) (fun c29 => ?_) (fun c29 => ?_)
      · rw [if_pos c29] at hF
        obtain rfl := Option.some.inj hF
        exact J28 _ _ _ hP hD hS (lv_sub hl [0, 1, 2, 3, 4] rfl)
      · rw [if_neg c29] at hF
        refine lv_aloadq_n hx hb dX8_keepFound_46 rfl (lv_at hl 4 rfl) ?_
        refine lv_aload_n hx hb dX8_keepFound_47 rfl (lv_at hl 3 rfl) ?_
        refine va_get (D := D) (ci := 8) (v := va_re ad (s2.2.2.2 a 5)) (C := RX8) (T := TX8) (N := 15) hx hb hts (by decide +kernel) hown hK hP a (wld_o ct ad G s2.2.2 hc hk (by decide)) rfl 5 (by decide) (hts (.fieldLink RX8 23 "VideoSuite$Units" "foundStart" "[I") (by decide +kernel)) (fun _ h9 => h9) rfl dX8_keepFound_48 ?_
        refine lv_iload_n hx hb dX8_keepFound_51 rfl (lv_at hl 1 rfl) ?_
        refine W_st (st' := [.int s2.2.1, .ref (ad b25), va_re ad p0]) (by rw [va_some ho25]) ?_
        obtain ⟨hvc, hF⟩ := chk_some hF
        refine va_iald hx hb hK hP b25 1 (wld_i ct ad G s2.2.2 hc25 hk25) rfl hvc dX8_keepFound_52 ?_
        obtain ⟨x30, ex30, hF⟩ := ltt_some hF
        refine lv_topi (fun zx30 ezx30 => ?_)
        obtain rfl : x30 = zx30 := ex30.trans ezx30.symm
        refine lv_aload_n hx hb dX8_keepFound_53 rfl (lv_at hl 3 rfl) ?_
        refine va_get (D := D) (ci := 8) (v := va_re ad (s2.2.2.2 a 0)) (C := RX8) (T := TX8) (N := 15) hx hb hts (by decide +kernel) hown hK hP a (wld_o ct ad G s2.2.2 hc hk (by decide)) rfl 0 (by decide) (hts (.fieldLink RX8 10 "VideoSuite$Units" "bytes" "[B") (by decide +kernel)) (fun _ h9 => h9) rfl dX8_keepFound_54 ?_
        refine lv_iload_n hx hb dX8_keepFound_57 rfl (lv_at hl 2 rfl) ?_
        refine lv_iload hx hb dX8_keepFound_58 (lv_at hl 0 rfl) ?_
        refine W_st (st' := [.int x11, .int s2.1, va_re ad (s2.2.2.2 a 0), .int x30, .ref (ad b23)]) (by rw [va_some ho23]) ?_
        refine W_st (st' := [.int x11, .int s2.1, .ref (ad b12), .int x30, .ref (ad b23)]) (by rw [va_some ho12]) ?_
        obtain ⟨hv9, hF⟩ := chk_some hF
        obtain ⟨hv8, hF⟩ := chk_some hF
        refine va_copyi (ty := .byte) hx hb (hml.trans hl.1.symm) hown (hts (.methodLink RX8 56 arraycopyName) (by decide +kernel)) (hts (.native arraycopyName) (by decide +kernel)) (hts (.static arraycopyName) (by decide +kernel)) (hts (.initialized "java/lang/System") (by decide +kernel)) hK hP hD hS b23 b12 0 0 (wld_b ct ad G s2.2.2 hc23 hk23) (wld_b ct ad G s2.2.2 hc12 hk12) rfl rfl rfl hv9.1 hv9.2.1 hv9.2.2.1 hv9.2.2.2.1 hv9.2.2.2.2 hv8 (Nat.le_of_ble_eq_true rfl) (by decide +kernel) dX8_keepFound_60 (fun H locs hP hD hS => ?_)
        obtain ⟨M31, eM31, hF⟩ := ltt_some hF
        rw [set_rb ct ad G s2.2.2 hc12 hk12, ← eM31] at hP hD
        obtain rfl := Option.some.inj hF
        exact J28 _ _ _ hP hD hS (lv_sub hl [0, 1, 2, 3, 4] rfl)
theorem dX8_loadPayload_0 : decode cX8_loadPayload 0 = .ok (.iconst 0, 1) := by decide +kernel
theorem dX8_loadPayload_1 : decode cX8_loadPayload 1 = .ok (.istore_n 2, 1) := by decide +kernel
theorem dX8_loadPayload_2 : decode cX8_loadPayload 2 = .ok (.aload_n 0, 1) := by decide +kernel
theorem dX8_loadPayload_3 : decode cX8_loadPayload 3 = .ok (.iconst 0, 1) := by decide +kernel
theorem dX8_loadPayload_4 : decode cX8_loadPayload 4 = .ok (.putfield 65, 3) := by decide +kernel
theorem dX8_loadPayload_7 : decode cX8_loadPayload 7 = .ok (.iconst 0, 1) := by decide +kernel
theorem dX8_loadPayload_8 : decode cX8_loadPayload 8 = .ok (.istore_n 3, 1) := by decide +kernel
theorem dX8_loadPayload_9 : decode cX8_loadPayload 9 = .ok (.iload_n 3, 1) := by decide +kernel
theorem dX8_loadPayload_10 : decode cX8_loadPayload 10 = .ok (.aload_n 0, 1) := by decide +kernel
theorem dX8_loadPayload_11 : decode cX8_loadPayload 11 = .ok (.getfield 20, 3) := by decide +kernel
theorem dX8_loadPayload_14 : decode cX8_loadPayload 14 = .ok (.iload_n 1, 1) := by decide +kernel
theorem dX8_loadPayload_15 : decode cX8_loadPayload 15 = .ok (.iaload, 1) := by decide +kernel
theorem dX8_loadPayload_16 : decode cX8_loadPayload 16 = .ok (.if_icmp .ge 71, 3) := by decide +kernel
theorem dX8_loadPayload_19 : decode cX8_loadPayload 19 = .ok (.aload_n 0, 1) := by decide +kernel
theorem dX8_loadPayload_20 : decode cX8_loadPayload 20 = .ok (.getfield 10, 3) := by decide +kernel
theorem dX8_loadPayload_23 : decode cX8_loadPayload 23 = .ok (.aload_n 0, 1) := by decide +kernel
theorem dX8_loadPayload_24 : decode cX8_loadPayload 24 = .ok (.getfield 16, 3) := by decide +kernel
theorem dX8_loadPayload_27 : decode cX8_loadPayload 27 = .ok (.iload_n 1, 1) := by decide +kernel
theorem dX8_loadPayload_28 : decode cX8_loadPayload 28 = .ok (.iaload, 1) := by decide +kernel
theorem dX8_loadPayload_29 : decode cX8_loadPayload 29 = .ok (.iload_n 3, 1) := by decide +kernel
theorem dX8_loadPayload_30 : decode cX8_loadPayload 30 = .ok (.iadd, 1) := by decide +kernel
theorem dX8_loadPayload_31 : decode cX8_loadPayload 31 = .ok (.baload, 1) := by decide +kernel
theorem dX8_loadPayload_32 : decode cX8_loadPayload 32 = .ok (.istore 4, 2) := by decide +kernel
theorem dX8_loadPayload_34 : decode cX8_loadPayload 34 = .ok (.iload_n 2, 1) := by decide +kernel
theorem dX8_loadPayload_35 : decode cX8_loadPayload 35 = .ok (.iconst 2, 1) := by decide +kernel
theorem dX8_loadPayload_36 : decode cX8_loadPayload 36 = .ok (.if_icmp .lt 14, 3) := by decide +kernel
theorem dX8_loadPayload_39 : decode cX8_loadPayload 39 = .ok (.iload 4, 2) := by decide +kernel
theorem dX8_loadPayload_41 : decode cX8_loadPayload 41 = .ok (.iconst 3, 1) := by decide +kernel
theorem dX8_loadPayload_42 : decode cX8_loadPayload 42 = .ok (.if_icmp .ne 8, 3) := by decide +kernel
theorem dX8_loadPayload_45 : decode cX8_loadPayload 45 = .ok (.iconst 0, 1) := by decide +kernel
theorem dX8_loadPayload_46 : decode cX8_loadPayload 46 = .ok (.istore_n 2, 1) := by decide +kernel
theorem dX8_loadPayload_47 : decode cX8_loadPayload 47 = .ok (.goto 34, 3) := by decide +kernel
theorem dX8_loadPayload_50 : decode cX8_loadPayload 50 = .ok (.aload_n 0, 1) := by decide +kernel
theorem dX8_loadPayload_51 : decode cX8_loadPayload 51 = .ok (.getfield 29, 3) := by decide +kernel
theorem dX8_loadPayload_54 : decode cX8_loadPayload 54 = .ok (.aload_n 0, 1) := by decide +kernel
theorem dX8_loadPayload_55 : decode cX8_loadPayload 55 = .ok (.dup, 1) := by decide +kernel
theorem dX8_loadPayload_56 : decode cX8_loadPayload 56 = .ok (.getfield 65, 3) := by decide +kernel
theorem dX8_loadPayload_59 : decode cX8_loadPayload 59 = .ok (.dup_x1, 1) := by decide +kernel
theorem dX8_loadPayload_60 : decode cX8_loadPayload 60 = .ok (.iconst 1, 1) := by decide +kernel
theorem dX8_loadPayload_61 : decode cX8_loadPayload 61 = .ok (.iadd, 1) := by decide +kernel
theorem dX8_loadPayload_62 : decode cX8_loadPayload 62 = .ok (.putfield 65, 3) := by decide +kernel
theorem dX8_loadPayload_65 : decode cX8_loadPayload 65 = .ok (.iload 4, 2) := by decide +kernel
theorem dX8_loadPayload_67 : decode cX8_loadPayload 67 = .ok (.bastore, 1) := by decide +kernel
theorem dX8_loadPayload_68 : decode cX8_loadPayload 68 = .ok (.iload 4, 2) := by decide +kernel
theorem dX8_loadPayload_70 : decode cX8_loadPayload 70 = .ok (.ifCond .ne 9, 3) := by decide +kernel
theorem dX8_loadPayload_73 : decode cX8_loadPayload 73 = .ok (.iload_n 2, 1) := by decide +kernel
theorem dX8_loadPayload_74 : decode cX8_loadPayload 74 = .ok (.iconst 1, 1) := by decide +kernel
theorem dX8_loadPayload_75 : decode cX8_loadPayload 75 = .ok (.iadd, 1) := by decide +kernel
theorem dX8_loadPayload_76 : decode cX8_loadPayload 76 = .ok (.goto 4, 3) := by decide +kernel
theorem dX8_loadPayload_79 : decode cX8_loadPayload 79 = .ok (.iconst 0, 1) := by decide +kernel
theorem dX8_loadPayload_80 : decode cX8_loadPayload 80 = .ok (.istore_n 2, 1) := by decide +kernel
theorem dX8_loadPayload_81 : decode cX8_loadPayload 81 = .ok (.iinc 3 1, 3) := by decide +kernel
theorem dX8_loadPayload_84 : decode cX8_loadPayload 84 = .ok (.goto (-75), 3) := by decide +kernel
theorem dX8_loadPayload_87 : decode cX8_loadPayload 87 = .ok (.return_, 1) := by decide +kernel
def FX8_loadPayload (G : GG) (M : DD) (a : Nat) (p0 : Int32) : Option (DD) :=
  ltt (uI M a 9 ((0 : Int32))) fun M1 =>
  bnd (itr (fun (s3 : Int32 × Int32 × DD) => ((dr G 13 ((s3.2.2.2 a 2)) fun b6 =>
  chk (¬ (p0 < 0 ∨ G.2.2 b6 ≤ p0.toNatClampNeg)) <|
  ltt (s3.2.2.1 b6 p0.toNatClampNeg) fun x7 =>
  if x7 ≤ s3.2.1 then (some (.inr (s3.1, s3.2.1, s3.2.2))) else
  (dr G 13 ((s3.2.2.2 a 1)) fun b9 =>
  chk (¬ (p0 < 0 ∨ G.2.2 b9 ≤ p0.toNatClampNeg)) <|
  ltt (s3.2.2.1 b9 p0.toNatClampNeg) fun x10 =>
  ltt ((x10 + s3.2.1)) fun x11 =>
  dr G 12 ((s3.2.2.2 a 0)) fun b12 =>
  chk (¬ (x11 < 0 ∨ G.2.2 b12 ≤ x11.toNatClampNeg)) <|
  ltt (s3.2.2.1 b12 x11.toNatClampNeg) fun x13 =>
  bnd (if s3.1 < ((2 : Int32)) then (ltt (s3.2.2.1 a 9) fun x17 =>
  ltt ((x17 + ((1 : Int32)))) fun x18 =>
  ltt (uI s3.2.2 a 9 x18) fun M19 =>
  dr G 12 ((s3.2.2.2 a 8)) fun b20 =>
  chk (¬ (x17 < 0 ∨ G.2.2 b20 ≤ x17.toNatClampNeg)) <|
  ltt (uI M19 b20 x17.toNatClampNeg (vp_nar .byte x13)) fun M21 =>
  bnd (if x13 = ((0 : Int32)) then (ltt ((s3.1 + ((1 : Int32)))) fun x24 =>
  some (x24)) else
  (some ((0 : Int32)))) fun (y22 : Int32) =>
  some (y22, M21)) else
  (bnd (if x13 = ((3 : Int32)) then (some ((0 : Int32), s3.2.2)) else
  (ltt (s3.2.2.1 a 9) fun x27 =>
  ltt ((x27 + ((1 : Int32)))) fun x28 =>
  ltt (uI s3.2.2 a 9 x28) fun M29 =>
  dr G 12 ((s3.2.2.2 a 8)) fun b30 =>
  chk (¬ (x27 < 0 ∨ G.2.2 b30 ≤ x27.toNatClampNeg)) <|
  ltt (uI M29 b30 x27.toNatClampNeg (vp_nar .byte x13)) fun M31 =>
  bnd (if x13 = ((0 : Int32)) then (ltt ((s3.1 + ((1 : Int32)))) fun x34 =>
  some (x34)) else
  (some ((0 : Int32)))) fun (y32 : Int32) =>
  some (y32, M31))) fun (y25 : Int32 × DD) =>
  some (y25.1, y25.2))) fun (y14 : Int32 × DD) =>
  ltt (s3.2.1 + (1 : Int32)) fun x15 =>
  some (.inl (y14.1, x15, y14.2)))) : Option ((Int32 × Int32 × DD) ⊕ (Int32 × Int32 × DD)))) 1000000 ((0 : Int32), (0 : Int32), M1)) fun (y2 : Int32 × Int32 × DD) =>
  some y2.2.2
set_option maxHeartbeats 4000000 in
set_option maxRecDepth 100000 in
theorem kX8_loadPayload (l : Launch) (D : va_G) (ct : CT) (ad : Nat → Nat) (Z : Nat → Nat) (G : GG) (M : DD) (sz : Nat) (a : Nat) (p0 : Int32) (y : DD) (hc : a < G.1) (hk : G.2.1 a = 8) (hF : FX8_loadPayload G M a p0 = some y) : Met l yX8_loadPayload wsX8_loadPayload ({ frames := 0, cells := 0, slots := 0, locals := 0 }) (va_Pc [.ref (ad a), .int p0] (kB D ct ad Z G M sz)) (va_Qv (fun (_ : Unit) => True) (fun _ t => kE D ct ad G (wA ad G sz) y t) (wA ad G sz)) 0 0 (wA ad G sz) := by
  refine Met.ofW (cc := cX8_loadPayload) (maxL := 5) (ret := none) (by decide) rfl ?_
  intro p e s m args below meth c s₁ B hml hv
  obtain ⟨rfl, hsz, hP, hK, hD0, hZ, hN⟩ := hv
  have hx := B.exec
  have hb := B.bytes
  have hr := B.returns
  have hts := atoms_spec (ws := wsX8_loadPayload) B.pre
  have hown : s.vm.findClass RX8 = some m.cls := findClass_of_methodNamed B.named
  have hlocks := B.notSynchronized
  subst hsz
  have hD := wD_self (sz := s.heap.size) hD0
  have hA9 : ∀ q, s.heap.size ≤ q → wA ad G s.heap.size q := fun q h => Or.inr h
  generalize hAe : wA ad G s.heap.size = A at hD hA9 hZ ⊢
  have hS : va_S A s.heap s.heap [] := va_S.rf
  have hl := lv_entry ([.ref (ad a), .int p0]) (n := 5) (Nat.le_of_ble_eq_true rfl)
  rw [lg_entry_eq]
  generalize (lg_sl ([.ref (ad a), .int p0]) ++ List.replicate (5 - (lg_sl ([.ref (ad a), .int p0])).length) Slot.unset).toArray = ls at hl ⊢
  have hl : lv_has ls 5 [(0, .ref (ad a)), (1, .int p0)] := hl
  unfold FX8_loadPayload at hF
  refine lv_iconst (v := (0 : Int32)) hx hb dX8_loadPayload_0 (by decide) ?_
  refine lv_istore_n (lv' := [(2, .int (0 : Int32)), (0, .ref (ad a)), (1, .int p0)]) hx hb dX8_loadPayload_1 rfl hl (by decide) rfl (fun ls hl => ?_)
  refine lv_aload_n hx hb dX8_loadPayload_2 rfl (lv_at hl 1 rfl) ?_
  refine lv_iconst (v := (0 : Int32)) hx hb dX8_loadPayload_3 (by decide) ?_
  refine va_put (D := D) (ci := 8) (v := .int (0 : Int32)) (ty := .int) (C := RX8) (T := TX8) (N := 15) hx hb hts (by decide +kernel) tyX8 tyX8_ok nmX8 hown hK hP hD hS a (wld_o ct ad G M hc hk (by decide)) rfl 9 (by decide) (hts (.fieldLink RX8 65 "VideoSuite$Units" "payloadSize" "I") (by decide +kernel)) (fun _ h9 => h9) rfl (by decide +kernel) rfl rfl (Nat.le_of_ble_eq_true rfl) dX8_loadPayload_4 (fun H locs hP hD hS => ?_)
  obtain ⟨M1, eM1, hF⟩ := ltt_some hF
  rw [set_oI ct ad G M hc hk (by decide) (by rfl), ← eM1] at hP hD
  refine lv_iconst (v := (0 : Int32)) hx hb dX8_loadPayload_7 (by decide) ?_
  refine lv_istore_n (lv' := [(3, .int (0 : Int32)), (2, .int (0 : Int32)), (0, .ref (ad a)), (1, .int p0)]) hx hb dX8_loadPayload_8 rfl hl (by decide) rfl (fun ls hl => ?_)
  obtain ⟨y2, hy2, hF⟩ := bnd_some hF
  have K2 : ∀ (H : Heap) (locs : List Loc) (ls : Array Slot), va_P D classes (wld ct ad G y2.2.2) H → va_D A (wld ct ad G y2.2.2) → va_S A s.heap H locs → lv_has ls 5 [(3, .int y2.2.1), (2, .int y2.1), (0, .ref (ad a)), (1, .int p0)] → W p l e (headSpec wsX8_loadPayload ({ frames := 0, cells := 0, slots := 0, locals := 0 })).room s m ([.ref (ad a), .int p0] : List Value).toArray below meth c H locs 0 0 (MQ below (va_Qv (fun (_ : Unit) => True) (fun _ t => kE D ct ad G A y t) A) ([.ref (ad a), .int p0] : List Value).toArray s 0 0 A) (F0 m 87 ls []) := by
    intro H locs ls hP hD hS hl
    obtain rfl := Option.some.inj hF
    exact W.vret hx hb hr (fun t ht hW => ⟨⟨(), rfl, trivial, ⟨by rw [ht]; exact hP, va_K.moved hW.alike hK, hD⟩⟩, hS.F ht⟩) hS.2.2 dX8_loadPayload_87
  clear hF
  refine itr_rule (fun (s3 : Int32 × Int32 × DD) => ∀ (H : Heap) (locs : List Loc) (ls : Array Slot), va_P D classes (wld ct ad G s3.2.2) H → va_D A (wld ct ad G s3.2.2) → va_S A s.heap H locs → lv_has ls 5 [(3, .int s3.2.1), (2, .int s3.1), (0, .ref (ad a)), (1, .int p0)] → W p l e (headSpec wsX8_loadPayload ({ frames := 0, cells := 0, slots := 0, locals := 0 })).room s m ([.ref (ad a), .int p0] : List Value).toArray below meth c H locs 0 0 (MQ below (va_Qv (fun (_ : Unit) => True) (fun _ t => kE D ct ad G A y t) A) ([.ref (ad a), .int p0] : List Value).toArray s 0 0 A) (F0 m 9 ls [])) ?_ _ _ hy2 _ _ _ hP hD hS (lv_sub hl [0, 1, 2, 3] rfl)
  rintro s3 ⟨z5, hF, hwz5⟩ H locs ls hP hD hS hl
  try dsimp only at hF
  refine lv_iload_n hx hb dX8_loadPayload_9 rfl (lv_at hl 0 rfl) ?_
  refine lv_aload_n hx hb dX8_loadPayload_10 rfl (lv_at hl 2 rfl) ?_
  refine va_get (D := D) (ci := 8) (v := va_re ad (s3.2.2.2 a 2)) (C := RX8) (T := TX8) (N := 15) hx hb hts (by decide +kernel) hown hK hP a (wld_o ct ad G s3.2.2 hc hk (by decide)) rfl 2 (by decide) (hts (.fieldLink RX8 20 "VideoSuite$Units" "size" "[I") (by decide +kernel)) (fun _ h9 => h9) rfl dX8_loadPayload_11 ?_
  refine lv_iload_n hx hb dX8_loadPayload_14 rfl (lv_at hl 3 rfl) ?_
  obtain ⟨b6, ho6, hc6, hk6, hF⟩ := dr_some hF
  refine W_st (st' := [.int p0, .ref (ad b6), .int s3.2.1]) (by rw [va_some ho6]) ?_
  obtain ⟨hvc, hF⟩ := chk_some hF
  refine va_iald hx hb hK hP b6 1 (wld_i ct ad G s3.2.2 hc6 hk6) rfl hvc dX8_loadPayload_15 ?_
  obtain ⟨x7, ex7, hF⟩ := ltt_some hF
  refine lv_topi (fun zx7 ezx7 => ?_)
  obtain rfl : x7 = zx7 := ex7.trans ezx7.symm
  refine lv_icmp_ge (tgt := 87) hx hb dX8_loadPayload_16 (by decide) (fun c8 => ?_) (fun c8 => ?_)
  · rw [if_pos c8] at hF
    obtain rfl := Option.some.inj hF
    subst hwz5
    exact K2 _ _ _ hP hD hS (lv_sub hl [0, 1, 2, 3] rfl)
  · rw [if_neg c8] at hF
    refine lv_aload_n hx hb dX8_loadPayload_19 rfl (lv_at hl 2 rfl) ?_
    refine va_get (D := D) (ci := 8) (v := va_re ad (s3.2.2.2 a 0)) (C := RX8) (T := TX8) (N := 15) hx hb hts (by decide +kernel) hown hK hP a (wld_o ct ad G s3.2.2 hc hk (by decide)) rfl 0 (by decide) (hts (.fieldLink RX8 10 "VideoSuite$Units" "bytes" "[B") (by decide +kernel)) (fun _ h9 => h9) rfl dX8_loadPayload_20 ?_
    refine lv_aload_n hx hb dX8_loadPayload_23 rfl (lv_at hl 2 rfl) ?_
    refine va_get (D := D) (ci := 8) (v := va_re ad (s3.2.2.2 a 1)) (C := RX8) (T := TX8) (N := 15) hx hb hts (by decide +kernel) hown hK hP a (wld_o ct ad G s3.2.2 hc hk (by decide)) rfl 1 (by decide) (hts (.fieldLink RX8 16 "VideoSuite$Units" "start" "[I") (by decide +kernel)) (fun _ h9 => h9) rfl dX8_loadPayload_24 ?_
    refine lv_iload_n hx hb dX8_loadPayload_27 rfl (lv_at hl 3 rfl) ?_
    obtain ⟨b9, ho9, hc9, hk9, hF⟩ := dr_some hF
    refine W_st (st' := [.int p0, .ref (ad b9), va_re ad (s3.2.2.2 a 0)]) (by rw [va_some ho9]) ?_
    obtain ⟨hvc, hF⟩ := chk_some hF
    refine va_iald hx hb hK hP b9 1 (wld_i ct ad G s3.2.2 hc9 hk9) rfl hvc dX8_loadPayload_28 ?_
    obtain ⟨x10, ex10, hF⟩ := ltt_some hF
    refine lv_topi (fun zx10 ezx10 => ?_)
    obtain rfl : x10 = zx10 := ex10.trans ezx10.symm
    refine lv_iload_n hx hb dX8_loadPayload_29 rfl (lv_at hl 0 rfl) ?_
    refine lv_iadd hx hb dX8_loadPayload_30 ?_
    obtain ⟨x11, ex11, hF⟩ := ltt_some hF
    refine lv_topi (fun zx11 ezx11 => ?_)
    obtain rfl : x11 = zx11 := ex11.trans ezx11.symm
    obtain ⟨b12, ho12, hc12, hk12, hF⟩ := dr_some hF
    refine W_st (st' := [.int x11, .ref (ad b12)]) (by rw [va_some ho12]) ?_
    obtain ⟨hvc, hF⟩ := chk_some hF
    refine va_bald hx hb hK hP b12 0 (wld_b ct ad G s3.2.2 hc12 hk12) rfl hvc dX8_loadPayload_31 ?_
    obtain ⟨x13, ex13, hF⟩ := ltt_some hF
    refine lv_topi (fun zx13 ezx13 => ?_)
    obtain rfl : x13 = zx13 := ex13.trans ezx13.symm
    refine lv_istore (lv' := [(4, .int x13), (3, .int s3.2.1), (2, .int s3.1), (0, .ref (ad a)), (1, .int p0)]) hx hb dX8_loadPayload_32 hl (by decide) rfl (fun ls hl => ?_)
    refine lv_iload_n hx hb dX8_loadPayload_34 rfl (lv_at hl 2 rfl) ?_
    refine lv_iconst (v := (2 : Int32)) hx hb dX8_loadPayload_35 (by decide) ?_
    obtain ⟨y14, hy14, hF⟩ := bnd_some hF
    have J14 : ∀ (H : Heap) (locs : List Loc) (ls : Array Slot), va_P D classes (wld ct ad G y14.2) H → va_D A (wld ct ad G y14.2) → va_S A s.heap H locs → lv_has ls 5 [(4, .int x13), (3, .int s3.2.1), (2, .int y14.1), (0, .ref (ad a)), (1, .int p0)] → W p l e (headSpec wsX8_loadPayload ({ frames := 0, cells := 0, slots := 0, locals := 0 })).room s m ([.ref (ad a), .int p0] : List Value).toArray below meth c H locs 0 0 (MQ below (va_Qv (fun (_ : Unit) => True) (fun _ t => kE D ct ad G A y t) A) ([.ref (ad a), .int p0] : List Value).toArray s 0 0 A) (F0 m 81 ls []) := by
      intro H locs ls hP hD hS hl
      obtain ⟨x15, ex15, hF⟩ := ltt_some hF
      refine lv_iinc (v := x15) (lv' := [(3, .int x15), (4, .int x13), (2, .int y14.1), (0, .ref (ad a)), (1, .int p0)]) hx hb dX8_loadPayload_81 hl (k := 1) rfl (by rw [ex15]; rfl) (by decide) rfl (fun ls hl => ?_)
      refine lv_goto (tgt := 9) hx hb dX8_loadPayload_84 (by decide) ?_
      obtain rfl := Option.some.inj hF
      exact hwz5 _ _ _ hP hD hS (lv_sub hl [0, 2, 3, 4] rfl)
    clear hF
    have hF := hy14
    clear hy14
    refine lv_icmp_lt (tgt := 50) hx hb dX8_loadPayload_36 (by decide) (fun c16 => ?_) (fun c16 => ?_)
    · rw [if_pos c16] at hF
      refine lv_aload_n hx hb dX8_loadPayload_50 rfl (lv_at hl 3 rfl) ?_
      refine va_get (D := D) (ci := 8) (v := va_re ad (s3.2.2.2 a 8)) (C := RX8) (T := TX8) (N := 15) hx hb hts (by decide +kernel) hown hK hP a (wld_o ct ad G s3.2.2 hc hk (by decide)) rfl 8 (by decide) (hts (.fieldLink RX8 29 "VideoSuite$Units" "payload" "[B") (by decide +kernel)) (fun _ h9 => h9) rfl dX8_loadPayload_51 ?_
      refine lv_aload_n hx hb dX8_loadPayload_54 rfl (lv_at hl 3 rfl) ?_
      refine lv_dup hx hb dX8_loadPayload_55 rfl ?_
      refine va_get (D := D) (ci := 8) (v := .int (s3.2.2.1 a 9)) (C := RX8) (T := TX8) (N := 15) hx hb hts (by decide +kernel) hown hK hP a (wld_o ct ad G s3.2.2 hc hk (by decide)) rfl 9 (by decide) (hts (.fieldLink RX8 65 "VideoSuite$Units" "payloadSize" "I") (by decide +kernel)) (fun _ h9 => h9) rfl dX8_loadPayload_56 ?_
      obtain ⟨x17, ex17, hF⟩ := ltt_some hF
      refine lv_topi (fun zx17 ezx17 => ?_)
      obtain rfl : x17 = zx17 := ex17.trans ezx17.symm
      refine lv_dup_x1 hx hb dX8_loadPayload_59 rfl rfl ?_
      refine lv_iconst (v := (1 : Int32)) hx hb dX8_loadPayload_60 (by decide) ?_
      refine lv_iadd hx hb dX8_loadPayload_61 ?_
      obtain ⟨x18, ex18, hF⟩ := ltt_some hF
      refine lv_topi (fun zx18 ezx18 => ?_)
      obtain rfl : x18 = zx18 := ex18.trans ezx18.symm
      refine va_put (D := D) (ci := 8) (v := .int x18) (ty := .int) (C := RX8) (T := TX8) (N := 15) hx hb hts (by decide +kernel) tyX8 tyX8_ok nmX8 hown hK hP hD hS a (wld_o ct ad G s3.2.2 hc hk (by decide)) rfl 9 (by decide) (hts (.fieldLink RX8 65 "VideoSuite$Units" "payloadSize" "I") (by decide +kernel)) (fun _ h9 => h9) rfl (by decide +kernel) rfl rfl (Nat.le_of_ble_eq_true rfl) dX8_loadPayload_62 (fun H locs hP hD hS => ?_)
      obtain ⟨M19, eM19, hF⟩ := ltt_some hF
      rw [set_oI ct ad G s3.2.2 hc hk (by decide) (by rfl), ← eM19] at hP hD
      refine lv_iload hx hb dX8_loadPayload_65 (lv_at hl 0 rfl) ?_
      obtain ⟨b20, ho20, hc20, hk20, hF⟩ := dr_some hF
      refine W_st (st' := [.int x13, .int x17, .ref (ad b20)]) (by rw [va_some ho20]) ?_
      obtain ⟨hvc, hF⟩ := chk_some hF
      refine va_bast hx hb hK hP hD hS b20 0 (wld_b ct ad G M19 hc20 hk20) rfl hvc dX8_loadPayload_67 (fun H locs hP hD hS => ?_)
      obtain ⟨M21, eM21, hF⟩ := ltt_some hF
      rw [set_b ct ad G M19 hc20 hk20, ← eM21] at hP hD
      refine lv_iload hx hb dX8_loadPayload_68 (lv_at hl 0 rfl) ?_
      obtain ⟨y22, hy22, hF⟩ := bnd_some hF
      have J22 : ∀ (H : Heap) (locs : List Loc) (ls : Array Slot), va_P D classes (wld ct ad G M21) H → va_D A (wld ct ad G M21) → va_S A s.heap H locs → lv_has ls 5 [(4, .int x13), (3, .int s3.2.1), (2, .int s3.1), (0, .ref (ad a)), (1, .int p0)] → W p l e (headSpec wsX8_loadPayload ({ frames := 0, cells := 0, slots := 0, locals := 0 })).room s m ([.ref (ad a), .int p0] : List Value).toArray below meth c H locs 0 0 (MQ below (va_Qv (fun (_ : Unit) => True) (fun _ t => kE D ct ad G A y t) A) ([.ref (ad a), .int p0] : List Value).toArray s 0 0 A) (F0 m 80 ls [.int y22]) := by
        intro H locs ls hP hD hS hl
        refine lv_istore_n (lv' := [(2, .int y22), (4, .int x13), (3, .int s3.2.1), (0, .ref (ad a)), (1, .int p0)]) hx hb dX8_loadPayload_80 rfl hl (by decide) rfl (fun ls hl => ?_)
        obtain rfl := Option.some.inj hF
        exact J14 _ _ _ hP hD hS (lv_sub hl [1, 2, 0, 3, 4] rfl)
      clear hF
      have hF := hy22
      clear hy22
      refine lv_if_ne (tgt := 79) hx hb dX8_loadPayload_70 (by decide) (fun c23 => ?_) (fun c23 => ?_)
      · rw [if_neg c23] at hF
        refine lv_iconst (v := (0 : Int32)) hx hb dX8_loadPayload_79 (by decide) ?_
        obtain rfl := Option.some.inj hF
        exact J22 _ _ _ hP hD hS (lv_sub hl [0, 1, 2, 3, 4] rfl)
      · rw [if_pos c23] at hF
        refine lv_iload_n hx hb dX8_loadPayload_73 rfl (lv_at hl 2 rfl) ?_
        refine lv_iconst (v := (1 : Int32)) hx hb dX8_loadPayload_74 (by decide) ?_
        refine lv_iadd hx hb dX8_loadPayload_75 ?_
        obtain ⟨x24, ex24, hF⟩ := ltt_some hF
        refine lv_topi (fun zx24 ezx24 => ?_)
        obtain rfl : x24 = zx24 := ex24.trans ezx24.symm
        refine lv_goto (tgt := 80) hx hb dX8_loadPayload_76 (by decide) ?_
        obtain rfl := Option.some.inj hF
        exact J22 _ _ _ hP hD hS (lv_sub hl [0, 1, 2, 3, 4] rfl)
    · rw [if_neg c16] at hF
      refine lv_iload hx hb dX8_loadPayload_39 (lv_at hl 0 rfl) ?_
      refine lv_iconst (v := (3 : Int32)) hx hb dX8_loadPayload_41 (by decide) ?_
      obtain ⟨y25, hy25, hF⟩ := bnd_some hF
      have J25 : ∀ (H : Heap) (locs : List Loc) (ls : Array Slot), va_P D classes (wld ct ad G y25.2) H → va_D A (wld ct ad G y25.2) → va_S A s.heap H locs → lv_has ls 5 [(4, .int x13), (3, .int s3.2.1), (2, .int y25.1), (0, .ref (ad a)), (1, .int p0)] → W p l e (headSpec wsX8_loadPayload ({ frames := 0, cells := 0, slots := 0, locals := 0 })).room s m ([.ref (ad a), .int p0] : List Value).toArray below meth c H locs 0 0 (MQ below (va_Qv (fun (_ : Unit) => True) (fun _ t => kE D ct ad G A y t) A) ([.ref (ad a), .int p0] : List Value).toArray s 0 0 A) (F0 m 81 ls []) := by
        intro H locs ls hP hD hS hl
        obtain rfl := Option.some.inj hF
        exact J14 _ _ _ hP hD hS (lv_sub hl [0, 1, 2, 3, 4] rfl)
      clear hF
      have hF := hy25
      clear hy25
      refine lv_icmp_ne (tgt := 50) hx hb dX8_loadPayload_42 (by decide) (fun c26 => ?_) (fun c26 => ?_)
      · rw [if_neg c26] at hF
        refine lv_aload_n hx hb dX8_loadPayload_50 rfl (lv_at hl 3 rfl) ?_
        refine va_get (D := D) (ci := 8) (v := va_re ad (s3.2.2.2 a 8)) (C := RX8) (T := TX8) (N := 15) hx hb hts (by decide +kernel) hown hK hP a (wld_o ct ad G s3.2.2 hc hk (by decide)) rfl 8 (by decide) (hts (.fieldLink RX8 29 "VideoSuite$Units" "payload" "[B") (by decide +kernel)) (fun _ h9 => h9) rfl dX8_loadPayload_51 ?_
        refine lv_aload_n hx hb dX8_loadPayload_54 rfl (lv_at hl 3 rfl) ?_
        refine lv_dup hx hb dX8_loadPayload_55 rfl ?_
        refine va_get (D := D) (ci := 8) (v := .int (s3.2.2.1 a 9)) (C := RX8) (T := TX8) (N := 15) hx hb hts (by decide +kernel) hown hK hP a (wld_o ct ad G s3.2.2 hc hk (by decide)) rfl 9 (by decide) (hts (.fieldLink RX8 65 "VideoSuite$Units" "payloadSize" "I") (by decide +kernel)) (fun _ h9 => h9) rfl dX8_loadPayload_56 ?_
        obtain ⟨x27, ex27, hF⟩ := ltt_some hF
        refine lv_topi (fun zx27 ezx27 => ?_)
        obtain rfl : x27 = zx27 := ex27.trans ezx27.symm
        refine lv_dup_x1 hx hb dX8_loadPayload_59 rfl rfl ?_
        refine lv_iconst (v := (1 : Int32)) hx hb dX8_loadPayload_60 (by decide) ?_
        refine lv_iadd hx hb dX8_loadPayload_61 ?_
        obtain ⟨x28, ex28, hF⟩ := ltt_some hF
        refine lv_topi (fun zx28 ezx28 => ?_)
        obtain rfl : x28 = zx28 := ex28.trans ezx28.symm
        refine va_put (D := D) (ci := 8) (v := .int x28) (ty := .int) (C := RX8) (T := TX8) (N := 15) hx hb hts (by decide +kernel) tyX8 tyX8_ok nmX8 hown hK hP hD hS a (wld_o ct ad G s3.2.2 hc hk (by decide)) rfl 9 (by decide) (hts (.fieldLink RX8 65 "VideoSuite$Units" "payloadSize" "I") (by decide +kernel)) (fun _ h9 => h9) rfl (by decide +kernel) rfl rfl (Nat.le_of_ble_eq_true rfl) dX8_loadPayload_62 (fun H locs hP hD hS => ?_)
        obtain ⟨M29, eM29, hF⟩ := ltt_some hF
        rw [set_oI ct ad G s3.2.2 hc hk (by decide) (by rfl), ← eM29] at hP hD
        refine lv_iload hx hb dX8_loadPayload_65 (lv_at hl 0 rfl) ?_
        obtain ⟨b30, ho30, hc30, hk30, hF⟩ := dr_some hF
        refine W_st (st' := [.int x13, .int x27, .ref (ad b30)]) (by rw [va_some ho30]) ?_
        obtain ⟨hvc, hF⟩ := chk_some hF
        refine va_bast hx hb hK hP hD hS b30 0 (wld_b ct ad G M29 hc30 hk30) rfl hvc dX8_loadPayload_67 (fun H locs hP hD hS => ?_)
        obtain ⟨M31, eM31, hF⟩ := ltt_some hF
        rw [set_b ct ad G M29 hc30 hk30, ← eM31] at hP hD
        refine lv_iload hx hb dX8_loadPayload_68 (lv_at hl 0 rfl) ?_
        obtain ⟨y32, hy32, hF⟩ := bnd_some hF
        have J32 : ∀ (H : Heap) (locs : List Loc) (ls : Array Slot), va_P D classes (wld ct ad G M31) H → va_D A (wld ct ad G M31) → va_S A s.heap H locs → lv_has ls 5 [(4, .int x13), (3, .int s3.2.1), (2, .int s3.1), (0, .ref (ad a)), (1, .int p0)] → W p l e (headSpec wsX8_loadPayload ({ frames := 0, cells := 0, slots := 0, locals := 0 })).room s m ([.ref (ad a), .int p0] : List Value).toArray below meth c H locs 0 0 (MQ below (va_Qv (fun (_ : Unit) => True) (fun _ t => kE D ct ad G A y t) A) ([.ref (ad a), .int p0] : List Value).toArray s 0 0 A) (F0 m 80 ls [.int y32]) := by
          intro H locs ls hP hD hS hl
          refine lv_istore_n (lv' := [(2, .int y32), (4, .int x13), (3, .int s3.2.1), (0, .ref (ad a)), (1, .int p0)]) hx hb dX8_loadPayload_80 rfl hl (by decide) rfl (fun ls hl => ?_)
          obtain rfl := Option.some.inj hF
          exact J25 _ _ _ hP hD hS (lv_sub hl [1, 2, 0, 3, 4] rfl)
        clear hF
        have hF := hy32
        clear hy32
        refine lv_if_ne (tgt := 79) hx hb dX8_loadPayload_70 (by decide) (fun c33 => ?_) (fun c33 => ?_)
        · rw [if_neg c33] at hF
          refine lv_iconst (v := (0 : Int32)) hx hb dX8_loadPayload_79 (by decide) ?_
          obtain rfl := Option.some.inj hF
          exact J32 _ _ _ hP hD hS (lv_sub hl [0, 1, 2, 3, 4] rfl)
        · rw [if_pos c33] at hF
          refine lv_iload_n hx hb dX8_loadPayload_73 rfl (lv_at hl 2 rfl) ?_
          refine lv_iconst (v := (1 : Int32)) hx hb dX8_loadPayload_74 (by decide) ?_
          refine lv_iadd hx hb dX8_loadPayload_75 ?_
          obtain ⟨x34, ex34, hF⟩ := ltt_some hF
          refine lv_topi (fun zx34 ezx34 => ?_)
          obtain rfl : x34 = zx34 := ex34.trans ezx34.symm
          refine lv_goto (tgt := 80) hx hb dX8_loadPayload_76 (by decide) ?_
          obtain rfl := Option.some.inj hF
          exact J32 _ _ _ hP hD hS (lv_sub hl [0, 1, 2, 3, 4] rfl)
      · rw [if_pos c26] at hF
        refine lv_iconst (v := (0 : Int32)) hx hb dX8_loadPayload_45 (by decide) ?_
        refine lv_istore_n (lv' := [(2, .int (0 : Int32)), (4, .int x13), (3, .int s3.2.1), (0, .ref (ad a)), (1, .int p0)]) hx hb dX8_loadPayload_46 rfl hl (by decide) rfl (fun ls hl => ?_)
        refine lv_goto (tgt := 81) hx hb dX8_loadPayload_47 (by decide) ?_
        obtain rfl := Option.some.inj hF
        exact J25 _ _ _ hP hD hS (lv_sub hl [1, 2, 0, 3, 4] rfl)
theorem dX8_note_0 : decode cX8_note 0 = .ok (.aload_n 0, 1) := by decide +kernel
theorem dX8_note_1 : decode cX8_note 1 = .ok (.getfield 45, 3) := by decide +kernel
theorem dX8_note_4 : decode cX8_note 4 = .ok (.sipush 400, 3) := by decide +kernel
theorem dX8_note_7 : decode cX8_note 7 = .ok (.if_icmp .lt 5, 3) := by decide +kernel
theorem dX8_note_10 : decode cX8_note 10 = .ok (.iconst 0, 1) := by decide +kernel
theorem dX8_note_11 : decode cX8_note 11 = .ok (.ireturn, 1) := by decide +kernel
theorem dX8_note_12 : decode cX8_note 12 = .ok (.aload_n 0, 1) := by decide +kernel
theorem dX8_note_13 : decode cX8_note 13 = .ok (.getfield 23, 3) := by decide +kernel
theorem dX8_note_16 : decode cX8_note 16 = .ok (.aload_n 0, 1) := by decide +kernel
theorem dX8_note_17 : decode cX8_note 17 = .ok (.getfield 45, 3) := by decide +kernel
theorem dX8_note_20 : decode cX8_note 20 = .ok (.iload_n 1, 1) := by decide +kernel
theorem dX8_note_21 : decode cX8_note 21 = .ok (.iastore, 1) := by decide +kernel
theorem dX8_note_22 : decode cX8_note 22 = .ok (.aload_n 0, 1) := by decide +kernel
theorem dX8_note_23 : decode cX8_note 23 = .ok (.getfield 26, 3) := by decide +kernel
theorem dX8_note_26 : decode cX8_note 26 = .ok (.aload_n 0, 1) := by decide +kernel
theorem dX8_note_27 : decode cX8_note 27 = .ok (.getfield 45, 3) := by decide +kernel
theorem dX8_note_30 : decode cX8_note 30 = .ok (.iload_n 2, 1) := by decide +kernel
theorem dX8_note_31 : decode cX8_note 31 = .ok (.iastore, 1) := by decide +kernel
theorem dX8_note_32 : decode cX8_note 32 = .ok (.aload_n 0, 1) := by decide +kernel
theorem dX8_note_33 : decode cX8_note 33 = .ok (.dup, 1) := by decide +kernel
theorem dX8_note_34 : decode cX8_note 34 = .ok (.getfield 45, 3) := by decide +kernel
theorem dX8_note_37 : decode cX8_note 37 = .ok (.iconst 1, 1) := by decide +kernel
theorem dX8_note_38 : decode cX8_note 38 = .ok (.iadd, 1) := by decide +kernel
theorem dX8_note_39 : decode cX8_note 39 = .ok (.putfield 45, 3) := by decide +kernel
theorem dX8_note_42 : decode cX8_note 42 = .ok (.iconst 1, 1) := by decide +kernel
theorem dX8_note_43 : decode cX8_note 43 = .ok (.ireturn, 1) := by decide +kernel
def FX8_note (G : GG) (M : DD) (a : Nat) (p0 : Int32) (p1 : Int32) : Option (DD × Int32) :=
  ltt (M.1 a 7) fun x1 =>
  if x1 < ((400 : Int32)) then (ltt (M.1 a 7) fun x3 =>
  dr G 13 ((M.2 a 5)) fun b4 =>
  chk (¬ (x3 < 0 ∨ G.2.2 b4 ≤ x3.toNatClampNeg)) <|
  ltt (uI M b4 x3.toNatClampNeg p0) fun M5 =>
  ltt (M5.1 a 7) fun x6 =>
  dr G 13 ((M5.2 a 6)) fun b7 =>
  chk (¬ (x6 < 0 ∨ G.2.2 b7 ≤ x6.toNatClampNeg)) <|
  ltt (uI M5 b7 x6.toNatClampNeg p1) fun M8 =>
  ltt (M8.1 a 7) fun x9 =>
  ltt ((x9 + ((1 : Int32)))) fun x10 =>
  ltt (uI M8 a 7 x10) fun M11 =>
  chk (((1 : Int32)) = 0 ∨ ((1 : Int32)) = 1) <|
  some (M11, (1 : Int32))) else
  (chk (((0 : Int32)) = 0 ∨ ((0 : Int32)) = 1) <|
  some (M, (0 : Int32)))
set_option maxHeartbeats 4000000 in
set_option maxRecDepth 100000 in
theorem kX8_note (l : Launch) (D : va_G) (ct : CT) (ad : Nat → Nat) (Z : Nat → Nat) (G : GG) (M : DD) (sz : Nat) (a : Nat) (p0 : Int32) (p1 : Int32) (y : DD × Int32) (hc : a < G.1) (hk : G.2.1 a = 8) (hF : FX8_note G M a p0 p1 = some y) : Met l yX8_note wsX8_note ({ frames := 0, cells := 0, slots := 0, locals := 0 }) (va_Pc [.ref (ad a), .int p0, .int p1] (kB D ct ad Z G M sz)) (va_Qi (fun (q : Int32) (_ : Unit) => q = y.2) (fun _ t => kE D ct ad G (wA ad G sz) y.1 t) (wA ad G sz)) 0 0 (wA ad G sz) := by
  refine Met.ofW (cc := cX8_note) (maxL := 3) (ret := (some .boolean)) (by decide) rfl ?_
  intro p e s m args below meth c s₁ B hml hv
  obtain ⟨rfl, hsz, hP, hK, hD0, hZ, hN⟩ := hv
  have hx := B.exec
  have hb := B.bytes
  have hr := B.returns
  have hts := atoms_spec (ws := wsX8_note) B.pre
  have hown : s.vm.findClass RX8 = some m.cls := findClass_of_methodNamed B.named
  have hlocks := B.notSynchronized
  subst hsz
  have hD := wD_self (sz := s.heap.size) hD0
  have hA9 : ∀ q, s.heap.size ≤ q → wA ad G s.heap.size q := fun q h => Or.inr h
  generalize hAe : wA ad G s.heap.size = A at hD hA9 hZ ⊢
  have hS : va_S A s.heap s.heap [] := va_S.rf
  have hl := lv_entry ([.ref (ad a), .int p0, .int p1]) (n := 3) (Nat.le_of_ble_eq_true rfl)
  rw [lg_entry_eq]
  generalize (lg_sl ([.ref (ad a), .int p0, .int p1]) ++ List.replicate (3 - (lg_sl ([.ref (ad a), .int p0, .int p1])).length) Slot.unset).toArray = ls at hl ⊢
  have hl : lv_has ls 3 [(0, .ref (ad a)), (1, .int p0), (2, .int p1)] := hl
  unfold FX8_note at hF
  refine lv_aload_n hx hb dX8_note_0 rfl (lv_at hl 0 rfl) ?_
  refine va_get (D := D) (ci := 8) (v := .int (M.1 a 7)) (C := RX8) (T := TX8) (N := 15) hx hb hts (by decide +kernel) hown hK hP a (wld_o ct ad G M hc hk (by decide)) rfl 7 (by decide) (hts (.fieldLink RX8 45 "VideoSuite$Units" "found" "I") (by decide +kernel)) (fun _ h9 => h9) rfl dX8_note_1 ?_
  obtain ⟨x1, ex1, hF⟩ := ltt_some hF
  refine lv_topi (fun zx1 ezx1 => ?_)
  obtain rfl : x1 = zx1 := ex1.trans ezx1.symm
  refine lv_sipush (v := (400 : Int32)) hx hb dX8_note_4 (by decide) ?_
  refine lv_icmp_lt (tgt := 12) hx hb dX8_note_7 (by decide) (fun c2 => ?_) (fun c2 => ?_)
  · rw [if_pos c2] at hF
    refine lv_aload_n hx hb dX8_note_12 rfl (lv_at hl 0 rfl) ?_
    refine va_get (D := D) (ci := 8) (v := va_re ad (M.2 a 5)) (C := RX8) (T := TX8) (N := 15) hx hb hts (by decide +kernel) hown hK hP a (wld_o ct ad G M hc hk (by decide)) rfl 5 (by decide) (hts (.fieldLink RX8 23 "VideoSuite$Units" "foundStart" "[I") (by decide +kernel)) (fun _ h9 => h9) rfl dX8_note_13 ?_
    refine lv_aload_n hx hb dX8_note_16 rfl (lv_at hl 0 rfl) ?_
    refine va_get (D := D) (ci := 8) (v := .int (M.1 a 7)) (C := RX8) (T := TX8) (N := 15) hx hb hts (by decide +kernel) hown hK hP a (wld_o ct ad G M hc hk (by decide)) rfl 7 (by decide) (hts (.fieldLink RX8 45 "VideoSuite$Units" "found" "I") (by decide +kernel)) (fun _ h9 => h9) rfl dX8_note_17 ?_
    obtain ⟨x3, ex3, hF⟩ := ltt_some hF
    refine lv_topi (fun zx3 ezx3 => ?_)
    obtain rfl : x3 = zx3 := ex3.trans ezx3.symm
    refine lv_iload_n hx hb dX8_note_20 rfl (lv_at hl 1 rfl) ?_
    obtain ⟨b4, ho4, hc4, hk4, hF⟩ := dr_some hF
    refine W_st (st' := [.int p0, .int x3, .ref (ad b4)]) (by rw [va_some ho4]) ?_
    obtain ⟨hvc, hF⟩ := chk_some hF
    refine va_iast hx hb hK hP hD hS b4 1 (wld_i ct ad G M hc4 hk4) rfl hvc dX8_note_21 (fun H locs hP hD hS => ?_)
    obtain ⟨M5, eM5, hF⟩ := ltt_some hF
    rw [set_i ct ad G M hc4 hk4, ← eM5] at hP hD
    refine lv_aload_n hx hb dX8_note_22 rfl (lv_at hl 0 rfl) ?_
    refine va_get (D := D) (ci := 8) (v := va_re ad (M5.2 a 6)) (C := RX8) (T := TX8) (N := 15) hx hb hts (by decide +kernel) hown hK hP a (wld_o ct ad G M5 hc hk (by decide)) rfl 6 (by decide) (hts (.fieldLink RX8 26 "VideoSuite$Units" "foundSize" "[I") (by decide +kernel)) (fun _ h9 => h9) rfl dX8_note_23 ?_
    refine lv_aload_n hx hb dX8_note_26 rfl (lv_at hl 0 rfl) ?_
    refine va_get (D := D) (ci := 8) (v := .int (M5.1 a 7)) (C := RX8) (T := TX8) (N := 15) hx hb hts (by decide +kernel) hown hK hP a (wld_o ct ad G M5 hc hk (by decide)) rfl 7 (by decide) (hts (.fieldLink RX8 45 "VideoSuite$Units" "found" "I") (by decide +kernel)) (fun _ h9 => h9) rfl dX8_note_27 ?_
    obtain ⟨x6, ex6, hF⟩ := ltt_some hF
    refine lv_topi (fun zx6 ezx6 => ?_)
    obtain rfl : x6 = zx6 := ex6.trans ezx6.symm
    refine lv_iload_n hx hb dX8_note_30 rfl (lv_at hl 2 rfl) ?_
    obtain ⟨b7, ho7, hc7, hk7, hF⟩ := dr_some hF
    refine W_st (st' := [.int p1, .int x6, .ref (ad b7)]) (by rw [va_some ho7]) ?_
    obtain ⟨hvc, hF⟩ := chk_some hF
    refine va_iast hx hb hK hP hD hS b7 1 (wld_i ct ad G M5 hc7 hk7) rfl hvc dX8_note_31 (fun H locs hP hD hS => ?_)
    obtain ⟨M8, eM8, hF⟩ := ltt_some hF
    rw [set_i ct ad G M5 hc7 hk7, ← eM8] at hP hD
    refine lv_aload_n hx hb dX8_note_32 rfl (lv_at hl 0 rfl) ?_
    refine lv_dup hx hb dX8_note_33 rfl ?_
    refine va_get (D := D) (ci := 8) (v := .int (M8.1 a 7)) (C := RX8) (T := TX8) (N := 15) hx hb hts (by decide +kernel) hown hK hP a (wld_o ct ad G M8 hc hk (by decide)) rfl 7 (by decide) (hts (.fieldLink RX8 45 "VideoSuite$Units" "found" "I") (by decide +kernel)) (fun _ h9 => h9) rfl dX8_note_34 ?_
    obtain ⟨x9, ex9, hF⟩ := ltt_some hF
    refine lv_topi (fun zx9 ezx9 => ?_)
    obtain rfl : x9 = zx9 := ex9.trans ezx9.symm
    refine lv_iconst (v := (1 : Int32)) hx hb dX8_note_37 (by decide) ?_
    refine lv_iadd hx hb dX8_note_38 ?_
    obtain ⟨x10, ex10, hF⟩ := ltt_some hF
    refine lv_topi (fun zx10 ezx10 => ?_)
    obtain rfl : x10 = zx10 := ex10.trans ezx10.symm
    refine va_put (D := D) (ci := 8) (v := .int x10) (ty := .int) (C := RX8) (T := TX8) (N := 15) hx hb hts (by decide +kernel) tyX8 tyX8_ok nmX8 hown hK hP hD hS a (wld_o ct ad G M8 hc hk (by decide)) rfl 7 (by decide) (hts (.fieldLink RX8 45 "VideoSuite$Units" "found" "I") (by decide +kernel)) (fun _ h9 => h9) rfl (by decide +kernel) rfl rfl (Nat.le_of_ble_eq_true rfl) dX8_note_39 (fun H locs hP hD hS => ?_)
    obtain ⟨M11, eM11, hF⟩ := ltt_some hF
    rw [set_oI ct ad G M8 hc hk (by decide) (by rfl), ← eM11] at hP hD
    refine lv_iconst (v := (1 : Int32)) hx hb dX8_note_42 (by decide) ?_
    obtain ⟨hz9, hF⟩ := chk_some hF
    obtain rfl := Option.some.inj hF
    exact W.zret (v := (1 : Int32)) (ty := .boolean) hx hb hr (nar_z hz9).1 (fun t ht hW => ⟨⟨_, (), rfl, rfl, ⟨by rw [ht]; exact hP, va_K.moved hW.alike hK, hD⟩⟩, hS.F ht⟩) hS.2.2 dX8_note_43
  · rw [if_neg c2] at hF
    refine lv_iconst (v := (0 : Int32)) hx hb dX8_note_10 (by decide) ?_
    obtain ⟨hz9, hF⟩ := chk_some hF
    obtain rfl := Option.some.inj hF
    exact W.zret (v := (0 : Int32)) (ty := .boolean) hx hb hr (nar_z hz9).1 (fun t ht hW => ⟨⟨_, (), rfl, rfl, ⟨by rw [ht]; exact hP, va_K.moved hW.alike hK, hD⟩⟩, hS.F ht⟩) hS.2.2 dX8_note_11
theorem dX8_noteBox_0 : decode cX8_noteBox 0 = .ok (.aload_n 0, 1) := by decide +kernel
theorem dX8_noteBox_1 : decode cX8_noteBox 1 = .ok (.getfield 95, 3) := by decide +kernel
theorem dX8_noteBox_4 : decode cX8_noteBox 4 = .ok (.bipush 60, 2) := by decide +kernel
theorem dX8_noteBox_6 : decode cX8_noteBox 6 = .ok (.if_icmp .ge 60, 3) := by decide +kernel
theorem dX8_noteBox_9 : decode cX8_noteBox 9 = .ok (.iconst 4, 1) := by decide +kernel
theorem dX8_noteBox_10 : decode cX8_noteBox 10 = .ok (.aload_n 0, 1) := by decide +kernel
theorem dX8_noteBox_11 : decode cX8_noteBox 11 = .ok (.getfield 95, 3) := by decide +kernel
theorem dX8_noteBox_14 : decode cX8_noteBox 14 = .ok (.imul, 1) := by decide +kernel
theorem dX8_noteBox_15 : decode cX8_noteBox 15 = .ok (.istore 5, 2) := by decide +kernel
theorem dX8_noteBox_17 : decode cX8_noteBox 17 = .ok (.aload_n 0, 1) := by decide +kernel
theorem dX8_noteBox_18 : decode cX8_noteBox 18 = .ok (.getfield 32, 3) := by decide +kernel
theorem dX8_noteBox_21 : decode cX8_noteBox 21 = .ok (.iload 5, 2) := by decide +kernel
theorem dX8_noteBox_23 : decode cX8_noteBox 23 = .ok (.iload_n 1, 1) := by decide +kernel
theorem dX8_noteBox_24 : decode cX8_noteBox 24 = .ok (.iastore, 1) := by decide +kernel
theorem dX8_noteBox_25 : decode cX8_noteBox 25 = .ok (.aload_n 0, 1) := by decide +kernel
theorem dX8_noteBox_26 : decode cX8_noteBox 26 = .ok (.getfield 32, 3) := by decide +kernel
theorem dX8_noteBox_29 : decode cX8_noteBox 29 = .ok (.iload 5, 2) := by decide +kernel
theorem dX8_noteBox_31 : decode cX8_noteBox 31 = .ok (.iconst 1, 1) := by decide +kernel
theorem dX8_noteBox_32 : decode cX8_noteBox 32 = .ok (.iadd, 1) := by decide +kernel
theorem dX8_noteBox_33 : decode cX8_noteBox 33 = .ok (.iload_n 2, 1) := by decide +kernel
theorem dX8_noteBox_34 : decode cX8_noteBox 34 = .ok (.iastore, 1) := by decide +kernel
theorem dX8_noteBox_35 : decode cX8_noteBox 35 = .ok (.aload_n 0, 1) := by decide +kernel
theorem dX8_noteBox_36 : decode cX8_noteBox 36 = .ok (.getfield 32, 3) := by decide +kernel
theorem dX8_noteBox_39 : decode cX8_noteBox 39 = .ok (.iload 5, 2) := by decide +kernel
theorem dX8_noteBox_41 : decode cX8_noteBox 41 = .ok (.iconst 2, 1) := by decide +kernel
theorem dX8_noteBox_42 : decode cX8_noteBox 42 = .ok (.iadd, 1) := by decide +kernel
theorem dX8_noteBox_43 : decode cX8_noteBox 43 = .ok (.iload_n 3, 1) := by decide +kernel
theorem dX8_noteBox_44 : decode cX8_noteBox 44 = .ok (.iastore, 1) := by decide +kernel
theorem dX8_noteBox_45 : decode cX8_noteBox 45 = .ok (.aload_n 0, 1) := by decide +kernel
theorem dX8_noteBox_46 : decode cX8_noteBox 46 = .ok (.getfield 32, 3) := by decide +kernel
theorem dX8_noteBox_49 : decode cX8_noteBox 49 = .ok (.iload 5, 2) := by decide +kernel
theorem dX8_noteBox_51 : decode cX8_noteBox 51 = .ok (.iconst 3, 1) := by decide +kernel
theorem dX8_noteBox_52 : decode cX8_noteBox 52 = .ok (.iadd, 1) := by decide +kernel
theorem dX8_noteBox_53 : decode cX8_noteBox 53 = .ok (.iload 4, 2) := by decide +kernel
theorem dX8_noteBox_55 : decode cX8_noteBox 55 = .ok (.iastore, 1) := by decide +kernel
theorem dX8_noteBox_56 : decode cX8_noteBox 56 = .ok (.aload_n 0, 1) := by decide +kernel
theorem dX8_noteBox_57 : decode cX8_noteBox 57 = .ok (.dup, 1) := by decide +kernel
theorem dX8_noteBox_58 : decode cX8_noteBox 58 = .ok (.getfield 95, 3) := by decide +kernel
theorem dX8_noteBox_61 : decode cX8_noteBox 61 = .ok (.iconst 1, 1) := by decide +kernel
theorem dX8_noteBox_62 : decode cX8_noteBox 62 = .ok (.iadd, 1) := by decide +kernel
theorem dX8_noteBox_63 : decode cX8_noteBox 63 = .ok (.putfield 95, 3) := by decide +kernel
theorem dX8_noteBox_66 : decode cX8_noteBox 66 = .ok (.iload_n 1, 1) := by decide +kernel
theorem dX8_noteBox_67 : decode cX8_noteBox 67 = .ok (.ldc 93, 2) := by decide +kernel
theorem dX8_noteBox_69 : decode cX8_noteBox 69 = .ok (.if_icmp .ne 7, 3) := by decide +kernel
theorem dX8_noteBox_72 : decode cX8_noteBox 72 = .ok (.iconst 0, 1) := by decide +kernel
theorem dX8_noteBox_73 : decode cX8_noteBox 73 = .ok (.goto 14, 3) := by decide +kernel
theorem dX8_noteBox_76 : decode cX8_noteBox 76 = .ok (.iload_n 1, 1) := by decide +kernel
theorem dX8_noteBox_77 : decode cX8_noteBox 77 = .ok (.ldc 94, 2) := by decide +kernel
theorem dX8_noteBox_79 : decode cX8_noteBox 79 = .ok (.if_icmp .ne 7, 3) := by decide +kernel
theorem dX8_noteBox_82 : decode cX8_noteBox 82 = .ok (.iconst 2, 1) := by decide +kernel
theorem dX8_noteBox_83 : decode cX8_noteBox 83 = .ok (.goto 4, 3) := by decide +kernel
theorem dX8_noteBox_86 : decode cX8_noteBox 86 = .ok (.iconst (-1), 1) := by decide +kernel
theorem dX8_noteBox_87 : decode cX8_noteBox 87 = .ok (.istore 5, 2) := by decide +kernel
theorem dX8_noteBox_89 : decode cX8_noteBox 89 = .ok (.iload 5, 2) := by decide +kernel
theorem dX8_noteBox_91 : decode cX8_noteBox 91 = .ok (.ifCond .lt 37, 3) := by decide +kernel
theorem dX8_noteBox_94 : decode cX8_noteBox 94 = .ok (.aload_n 0, 1) := by decide +kernel
theorem dX8_noteBox_95 : decode cX8_noteBox 95 = .ok (.getfield 35, 3) := by decide +kernel
theorem dX8_noteBox_98 : decode cX8_noteBox 98 = .ok (.iload 5, 2) := by decide +kernel
theorem dX8_noteBox_100 : decode cX8_noteBox 100 = .ok (.iaload, 1) := by decide +kernel
theorem dX8_noteBox_101 : decode cX8_noteBox 101 = .ok (.ifCond .ge 27, 3) := by decide +kernel
theorem dX8_noteBox_104 : decode cX8_noteBox 104 = .ok (.aload_n 0, 1) := by decide +kernel
theorem dX8_noteBox_105 : decode cX8_noteBox 105 = .ok (.getfield 35, 3) := by decide +kernel
theorem dX8_noteBox_108 : decode cX8_noteBox 108 = .ok (.iload 5, 2) := by decide +kernel
theorem dX8_noteBox_110 : decode cX8_noteBox 110 = .ok (.iload_n 2, 1) := by decide +kernel
theorem dX8_noteBox_111 : decode cX8_noteBox 111 = .ok (.bipush 8, 2) := by decide +kernel
theorem dX8_noteBox_113 : decode cX8_noteBox 113 = .ok (.iadd, 1) := by decide +kernel
theorem dX8_noteBox_114 : decode cX8_noteBox 114 = .ok (.iastore, 1) := by decide +kernel
theorem dX8_noteBox_115 : decode cX8_noteBox 115 = .ok (.aload_n 0, 1) := by decide +kernel
theorem dX8_noteBox_116 : decode cX8_noteBox 116 = .ok (.getfield 35, 3) := by decide +kernel
theorem dX8_noteBox_119 : decode cX8_noteBox 119 = .ok (.iload 5, 2) := by decide +kernel
theorem dX8_noteBox_121 : decode cX8_noteBox 121 = .ok (.iconst 1, 1) := by decide +kernel
theorem dX8_noteBox_122 : decode cX8_noteBox 122 = .ok (.iadd, 1) := by decide +kernel
theorem dX8_noteBox_123 : decode cX8_noteBox 123 = .ok (.iload_n 3, 1) := by decide +kernel
theorem dX8_noteBox_124 : decode cX8_noteBox 124 = .ok (.bipush 8, 2) := by decide +kernel
theorem dX8_noteBox_126 : decode cX8_noteBox 126 = .ok (.isub, 1) := by decide +kernel
theorem dX8_noteBox_127 : decode cX8_noteBox 127 = .ok (.iastore, 1) := by decide +kernel
theorem dX8_noteBox_128 : decode cX8_noteBox 128 = .ok (.return_, 1) := by decide +kernel
def FX8_noteBox (G : GG) (M : DD) (a : Nat) (p0 : Int32) (p1 : Int32) (p2 : Int32) (p3 : Int32) : Option (DD) :=
  ltt (M.1 a 11) fun x1 =>
  bnd (if ((60 : Int32)) ≤ x1 then (some (M)) else
  (ltt (M.1 a 11) fun x20 =>
  ltt ((((4 : Int32)) * x20)) fun x21 =>
  dr G 13 ((M.2 a 10)) fun b22 =>
  chk (¬ (x21 < 0 ∨ G.2.2 b22 ≤ x21.toNatClampNeg)) <|
  ltt (uI M b22 x21.toNatClampNeg p0) fun M23 =>
  ltt ((x21 + ((1 : Int32)))) fun x24 =>
  dr G 13 ((M23.2 a 10)) fun b25 =>
  chk (¬ (x24 < 0 ∨ G.2.2 b25 ≤ x24.toNatClampNeg)) <|
  ltt (uI M23 b25 x24.toNatClampNeg p1) fun M26 =>
  ltt ((x21 + ((2 : Int32)))) fun x27 =>
  dr G 13 ((M26.2 a 10)) fun b28 =>
  chk (¬ (x27 < 0 ∨ G.2.2 b28 ≤ x27.toNatClampNeg)) <|
  ltt (uI M26 b28 x27.toNatClampNeg p2) fun M29 =>
  ltt ((x21 + ((3 : Int32)))) fun x30 =>
  dr G 13 ((M29.2 a 10)) fun b31 =>
  chk (¬ (x30 < 0 ∨ G.2.2 b31 ≤ x30.toNatClampNeg)) <|
  ltt (uI M29 b31 x30.toNatClampNeg p3) fun M32 =>
  ltt (M32.1 a 11) fun x33 =>
  ltt ((x33 + ((1 : Int32)))) fun x34 =>
  ltt (uI M32 a 11 x34) fun M35 =>
  some (M35))) fun (y2 : DD) =>
  bnd (if p0 = ((1937011578 : Int32)) then (some ((0 : Int32))) else
  (bnd (if p0 = ((1937007471 : Int32)) then (some ((2 : Int32))) else
  (some ((-1 : Int32)))) fun (y17 : Int32) =>
  some (y17))) fun (y3 : Int32) =>
  bnd (if y3 < ((0 : Int32)) then (some (y2)) else
  (dr G 13 ((y2.2 a 12)) fun b6 =>
  chk (¬ (y3 < 0 ∨ G.2.2 b6 ≤ y3.toNatClampNeg)) <|
  ltt (y2.1 b6 y3.toNatClampNeg) fun x7 =>
  bnd (if ((0 : Int32)) ≤ x7 then (some (y2)) else
  (ltt ((p1 + ((8 : Int32)))) fun x10 =>
  chk (¬ (y3 < 0 ∨ G.2.2 b6 ≤ y3.toNatClampNeg)) <|
  ltt (uI y2 b6 y3.toNatClampNeg x10) fun M11 =>
  ltt ((y3 + ((1 : Int32)))) fun x12 =>
  ltt ((p2 - ((8 : Int32)))) fun x13 =>
  dr G 13 ((M11.2 a 12)) fun b14 =>
  chk (¬ (x12 < 0 ∨ G.2.2 b14 ≤ x12.toNatClampNeg)) <|
  ltt (uI M11 b14 x12.toNatClampNeg x13) fun M15 =>
  some (M15))) fun (y8 : DD) =>
  some (y8))) fun (y4 : DD) =>
  some y4
set_option maxHeartbeats 4000000 in
set_option maxRecDepth 100000 in
theorem kX8_noteBox (l : Launch) (D : va_G) (ct : CT) (ad : Nat → Nat) (Z : Nat → Nat) (G : GG) (M : DD) (sz : Nat) (a : Nat) (p0 : Int32) (p1 : Int32) (p2 : Int32) (p3 : Int32) (y : DD) (hc : a < G.1) (hk : G.2.1 a = 8) (hF : FX8_noteBox G M a p0 p1 p2 p3 = some y) : Met l yX8_noteBox wsX8_noteBox ({ frames := 0, cells := 0, slots := 0, locals := 0 }) (va_Pc [.ref (ad a), .int p0, .int p1, .int p2, .int p3] (kB D ct ad Z G M sz)) (va_Qv (fun (_ : Unit) => True) (fun _ t => kE D ct ad G (wA ad G sz) y t) (wA ad G sz)) 0 0 (wA ad G sz) := by
  refine Met.ofW (cc := cX8_noteBox) (maxL := 6) (ret := none) (by decide) rfl ?_
  intro p e s m args below meth c s₁ B hml hv
  obtain ⟨rfl, hsz, hP, hK, hD0, hZ, hN⟩ := hv
  have hx := B.exec
  have hb := B.bytes
  have hr := B.returns
  have hts := atoms_spec (ws := wsX8_noteBox) B.pre
  have hown : s.vm.findClass RX8 = some m.cls := findClass_of_methodNamed B.named
  have hlocks := B.notSynchronized
  subst hsz
  have hD := wD_self (sz := s.heap.size) hD0
  have hA9 : ∀ q, s.heap.size ≤ q → wA ad G s.heap.size q := fun q h => Or.inr h
  generalize hAe : wA ad G s.heap.size = A at hD hA9 hZ ⊢
  have hS : va_S A s.heap s.heap [] := va_S.rf
  have hl := lv_entry ([.ref (ad a), .int p0, .int p1, .int p2, .int p3]) (n := 6) (Nat.le_of_ble_eq_true rfl)
  rw [lg_entry_eq]
  generalize (lg_sl ([.ref (ad a), .int p0, .int p1, .int p2, .int p3]) ++ List.replicate (6 - (lg_sl ([.ref (ad a), .int p0, .int p1, .int p2, .int p3])).length) Slot.unset).toArray = ls at hl ⊢
  have hl : lv_has ls 6 [(0, .ref (ad a)), (1, .int p0), (2, .int p1), (3, .int p2), (4, .int p3)] := hl
  unfold FX8_noteBox at hF
  refine lv_aload_n hx hb dX8_noteBox_0 rfl (lv_at hl 0 rfl) ?_
  refine va_get (D := D) (ci := 8) (v := .int (M.1 a 11)) (C := RX8) (T := TX8) (N := 15) hx hb hts (by decide +kernel) hown hK hP a (wld_o ct ad G M hc hk (by decide)) rfl 11 (by decide) (hts (.fieldLink RX8 95 "VideoSuite$Units" "boxCount" "I") (by decide +kernel)) (fun _ h9 => h9) rfl dX8_noteBox_1 ?_
  obtain ⟨x1, ex1, hF⟩ := ltt_some hF
  refine lv_topi (fun zx1 ezx1 => ?_)
  obtain rfl : x1 = zx1 := ex1.trans ezx1.symm
  refine lv_bipush (v := (60 : Int32)) hx hb dX8_noteBox_4 (by decide) ?_
  obtain ⟨y2, hy2, hF⟩ := bnd_some hF
  have J2 : ∀ (H : Heap) (locs : List Loc) (ls : Array Slot), va_P D classes (wld ct ad G y2) H → va_D A (wld ct ad G y2) → va_S A s.heap H locs → lv_has ls 6 [(0, .ref (ad a)), (1, .int p0), (2, .int p1), (3, .int p2), (4, .int p3)] → W p l e (headSpec wsX8_noteBox ({ frames := 0, cells := 0, slots := 0, locals := 0 })).room s m ([.ref (ad a), .int p0, .int p1, .int p2, .int p3] : List Value).toArray below meth c H locs 0 0 (MQ below (va_Qv (fun (_ : Unit) => True) (fun _ t => kE D ct ad G A y t) A) ([.ref (ad a), .int p0, .int p1, .int p2, .int p3] : List Value).toArray s 0 0 A) (F0 m 66 ls []) := by
    intro H locs ls hP hD hS hl
    refine lv_iload_n hx hb dX8_noteBox_66 rfl (lv_at hl 1 rfl) ?_
    refine lv_ldc (v := (1937011578 : Int32)) hx hb hown (hts (.constant RX8 93 (1937011578 : Int32)) (by decide +kernel)) dX8_noteBox_67 ?_
    obtain ⟨y3, hy3, hF⟩ := bnd_some hF
    have J3 : ∀ (H : Heap) (locs : List Loc) (ls : Array Slot), va_P D classes (wld ct ad G y2) H → va_D A (wld ct ad G y2) → va_S A s.heap H locs → lv_has ls 6 [(0, .ref (ad a)), (1, .int p0), (2, .int p1), (3, .int p2), (4, .int p3)] → W p l e (headSpec wsX8_noteBox ({ frames := 0, cells := 0, slots := 0, locals := 0 })).room s m ([.ref (ad a), .int p0, .int p1, .int p2, .int p3] : List Value).toArray below meth c H locs 0 0 (MQ below (va_Qv (fun (_ : Unit) => True) (fun _ t => kE D ct ad G A y t) A) ([.ref (ad a), .int p0, .int p1, .int p2, .int p3] : List Value).toArray s 0 0 A) (F0 m 87 ls [.int y3]) := by
      intro H locs ls hP hD hS hl
      refine lv_istore (lv' := [(5, .int y3), (0, .ref (ad a)), (1, .int p0), (2, .int p1), (3, .int p2), (4, .int p3)]) hx hb dX8_noteBox_87 hl (by decide) rfl (fun ls hl => ?_)
      refine lv_iload hx hb dX8_noteBox_89 (lv_at hl 0 rfl) ?_
      obtain ⟨y4, hy4, hF⟩ := bnd_some hF
      have J4 : ∀ (H : Heap) (locs : List Loc) (ls : Array Slot), va_P D classes (wld ct ad G y4) H → va_D A (wld ct ad G y4) → va_S A s.heap H locs → lv_has ls 6 [(5, .int y3), (0, .ref (ad a)), (1, .int p0), (2, .int p1), (3, .int p2), (4, .int p3)] → W p l e (headSpec wsX8_noteBox ({ frames := 0, cells := 0, slots := 0, locals := 0 })).room s m ([.ref (ad a), .int p0, .int p1, .int p2, .int p3] : List Value).toArray below meth c H locs 0 0 (MQ below (va_Qv (fun (_ : Unit) => True) (fun _ t => kE D ct ad G A y t) A) ([.ref (ad a), .int p0, .int p1, .int p2, .int p3] : List Value).toArray s 0 0 A) (F0 m 128 ls []) := by
        intro H locs ls hP hD hS hl
        obtain rfl := Option.some.inj hF
        exact W.vret hx hb hr (fun t ht hW => ⟨⟨(), rfl, trivial, ⟨by rw [ht]; exact hP, va_K.moved hW.alike hK, hD⟩⟩, hS.F ht⟩) hS.2.2 dX8_noteBox_128
      clear hF
      have hF := hy4
      clear hy4
      refine lv_if_lt (tgt := 128) hx hb dX8_noteBox_91 (by decide) (fun c5 => ?_) (fun c5 => ?_)
      · rw [if_pos c5] at hF
        obtain rfl := Option.some.inj hF
        exact J4 _ _ _ hP hD hS (lv_sub hl [0, 1, 2, 3, 4, 5] rfl)
      · rw [if_neg c5] at hF
        refine lv_aload_n hx hb dX8_noteBox_94 rfl (lv_at hl 1 rfl) ?_
        refine va_get (D := D) (ci := 8) (v := va_re ad (y2.2 a 12)) (C := RX8) (T := TX8) (N := 15) hx hb hts (by decide +kernel) hown hK hP a (wld_o ct ad G y2 hc hk (by decide)) rfl 12 (by decide) (hts (.fieldLink RX8 35 "VideoSuite$Units" "table" "[I") (by decide +kernel)) (fun _ h9 => h9) rfl dX8_noteBox_95 ?_
        refine lv_iload hx hb dX8_noteBox_98 (lv_at hl 0 rfl) ?_
        obtain ⟨b6, ho6, hc6, hk6, hF⟩ := dr_some hF
        refine W_st (st' := [.int y3, .ref (ad b6)]) (by rw [va_some ho6]) ?_
        obtain ⟨hvc, hF⟩ := chk_some hF
        refine va_iald hx hb hK hP b6 1 (wld_i ct ad G y2 hc6 hk6) rfl hvc dX8_noteBox_100 ?_
        obtain ⟨x7, ex7, hF⟩ := ltt_some hF
        refine lv_topi (fun zx7 ezx7 => ?_)
        obtain rfl : x7 = zx7 := ex7.trans ezx7.symm
        obtain ⟨y8, hy8, hF⟩ := bnd_some hF
        have J8 : ∀ (H : Heap) (locs : List Loc) (ls : Array Slot), va_P D classes (wld ct ad G y8) H → va_D A (wld ct ad G y8) → va_S A s.heap H locs → lv_has ls 6 [(5, .int y3), (0, .ref (ad a)), (1, .int p0), (2, .int p1), (3, .int p2), (4, .int p3)] → W p l e (headSpec wsX8_noteBox ({ frames := 0, cells := 0, slots := 0, locals := 0 })).room s m ([.ref (ad a), .int p0, .int p1, .int p2, .int p3] : List Value).toArray below meth c H locs 0 0 (MQ below (va_Qv (fun (_ : Unit) => True) (fun _ t => kE D ct ad G A y t) A) ([.ref (ad a), .int p0, .int p1, .int p2, .int p3] : List Value).toArray s 0 0 A) (F0 m 128 ls []) := by
          intro H locs ls hP hD hS hl
          obtain rfl := Option.some.inj hF
          exact J4 _ _ _ hP hD hS (lv_sub hl [0, 1, 2, 3, 4, 5] rfl)
        clear hF
        have hF := hy8
        clear hy8
        refine lv_if_ge (tgt := 128) hx hb dX8_noteBox_101 (by decide) (fun c9 => ?_) (fun c9 => ?_)
        · rw [if_pos c9] at hF
          obtain rfl := Option.some.inj hF
          exact J8 _ _ _ hP hD hS (lv_sub hl [0, 1, 2, 3, 4, 5] rfl)
        · rw [if_neg c9] at hF
          refine lv_aload_n hx hb dX8_noteBox_104 rfl (lv_at hl 1 rfl) ?_
          refine va_get (D := D) (ci := 8) (v := va_re ad (y2.2 a 12)) (C := RX8) (T := TX8) (N := 15) hx hb hts (by decide +kernel) hown hK hP a (wld_o ct ad G y2 hc hk (by decide)) rfl 12 (by decide) (hts (.fieldLink RX8 35 "VideoSuite$Units" "table" "[I") (by decide +kernel)) (fun _ h9 => h9) rfl dX8_noteBox_105 ?_
          refine lv_iload hx hb dX8_noteBox_108 (lv_at hl 0 rfl) ?_
          refine lv_iload_n hx hb dX8_noteBox_110 rfl (lv_at hl 3 rfl) ?_
          refine lv_bipush (v := (8 : Int32)) hx hb dX8_noteBox_111 (by decide) ?_
          refine lv_iadd hx hb dX8_noteBox_113 ?_
          obtain ⟨x10, ex10, hF⟩ := ltt_some hF
          refine lv_topi (fun zx10 ezx10 => ?_)
          obtain rfl : x10 = zx10 := ex10.trans ezx10.symm
          refine W_st (st' := [.int x10, .int y3, .ref (ad b6)]) (by rw [va_some ho6]) ?_
          obtain ⟨hvc, hF⟩ := chk_some hF
          refine va_iast hx hb hK hP hD hS b6 1 (wld_i ct ad G y2 hc6 hk6) rfl hvc dX8_noteBox_114 (fun H locs hP hD hS => ?_)
          obtain ⟨M11, eM11, hF⟩ := ltt_some hF
          rw [set_i ct ad G y2 hc6 hk6, ← eM11] at hP hD
          refine lv_aload_n hx hb dX8_noteBox_115 rfl (lv_at hl 1 rfl) ?_
          refine va_get (D := D) (ci := 8) (v := va_re ad (M11.2 a 12)) (C := RX8) (T := TX8) (N := 15) hx hb hts (by decide +kernel) hown hK hP a (wld_o ct ad G M11 hc hk (by decide)) rfl 12 (by decide) (hts (.fieldLink RX8 35 "VideoSuite$Units" "table" "[I") (by decide +kernel)) (fun _ h9 => h9) rfl dX8_noteBox_116 ?_
          refine lv_iload hx hb dX8_noteBox_119 (lv_at hl 0 rfl) ?_
          refine lv_iconst (v := (1 : Int32)) hx hb dX8_noteBox_121 (by decide) ?_
          refine lv_iadd hx hb dX8_noteBox_122 ?_
          obtain ⟨x12, ex12, hF⟩ := ltt_some hF
          refine lv_topi (fun zx12 ezx12 => ?_)
          obtain rfl : x12 = zx12 := ex12.trans ezx12.symm
          refine lv_iload_n hx hb dX8_noteBox_123 rfl (lv_at hl 4 rfl) ?_
          refine lv_bipush (v := (8 : Int32)) hx hb dX8_noteBox_124 (by decide) ?_
          refine lv_isub hx hb dX8_noteBox_126 ?_
          obtain ⟨x13, ex13, hF⟩ := ltt_some hF
          refine lv_topi (fun zx13 ezx13 => ?_)
          obtain rfl : x13 = zx13 := ex13.trans ezx13.symm
          obtain ⟨b14, ho14, hc14, hk14, hF⟩ := dr_some hF
          refine W_st (st' := [.int x13, .int x12, .ref (ad b14)]) (by rw [va_some ho14]) ?_
          obtain ⟨hvc, hF⟩ := chk_some hF
          refine va_iast hx hb hK hP hD hS b14 1 (wld_i ct ad G M11 hc14 hk14) rfl hvc dX8_noteBox_127 (fun H locs hP hD hS => ?_)
          obtain ⟨M15, eM15, hF⟩ := ltt_some hF
          rw [set_i ct ad G M11 hc14 hk14, ← eM15] at hP hD
          obtain rfl := Option.some.inj hF
          exact J8 _ _ _ hP hD hS (lv_sub hl [0, 1, 2, 3, 4, 5] rfl)
    clear hF
    have hF := hy3
    clear hy3
    refine lv_icmp_ne (tgt := 76) hx hb dX8_noteBox_69 (by decide) (fun c16 => ?_) (fun c16 => ?_)
    · rw [if_neg c16] at hF
      refine lv_iload_n hx hb dX8_noteBox_76 rfl (lv_at hl 1 rfl) ?_
      refine lv_ldc (v := (1937007471 : Int32)) hx hb hown (hts (.constant RX8 94 (1937007471 : Int32)) (by decide +kernel)) dX8_noteBox_77 ?_
      obtain ⟨y17, hy17, hF⟩ := bnd_some hF
      have J17 : ∀ (H : Heap) (locs : List Loc) (ls : Array Slot), va_P D classes (wld ct ad G y2) H → va_D A (wld ct ad G y2) → va_S A s.heap H locs → lv_has ls 6 [(0, .ref (ad a)), (1, .int p0), (2, .int p1), (3, .int p2), (4, .int p3)] → W p l e (headSpec wsX8_noteBox ({ frames := 0, cells := 0, slots := 0, locals := 0 })).room s m ([.ref (ad a), .int p0, .int p1, .int p2, .int p3] : List Value).toArray below meth c H locs 0 0 (MQ below (va_Qv (fun (_ : Unit) => True) (fun _ t => kE D ct ad G A y t) A) ([.ref (ad a), .int p0, .int p1, .int p2, .int p3] : List Value).toArray s 0 0 A) (F0 m 87 ls [.int y17]) := by
        intro H locs ls hP hD hS hl
        obtain rfl := Option.some.inj hF
        exact J3 _ _ _ hP hD hS (lv_sub hl [0, 1, 2, 3, 4] rfl)
      clear hF
      have hF := hy17
      clear hy17
      refine lv_icmp_ne (tgt := 86) hx hb dX8_noteBox_79 (by decide) (fun c18 => ?_) (fun c18 => ?_)
      · rw [if_neg c18] at hF
        refine lv_iconst (v := (-1 : Int32)) hx hb dX8_noteBox_86 (by decide) ?_
        obtain rfl := Option.some.inj hF
        exact J17 _ _ _ hP hD hS (lv_sub hl [0, 1, 2, 3, 4] rfl)
      · rw [if_pos c18] at hF
        refine lv_iconst (v := (2 : Int32)) hx hb dX8_noteBox_82 (by decide) ?_
        refine lv_goto (tgt := 87) hx hb dX8_noteBox_83 (by decide) ?_
        obtain rfl := Option.some.inj hF
        exact J17 _ _ _ hP hD hS (lv_sub hl [0, 1, 2, 3, 4] rfl)
    · rw [if_pos c16] at hF
      refine lv_iconst (v := (0 : Int32)) hx hb dX8_noteBox_72 (by decide) ?_
      refine lv_goto (tgt := 87) hx hb dX8_noteBox_73 (by decide) ?_
      obtain rfl := Option.some.inj hF
      exact J3 _ _ _ hP hD hS (lv_sub hl [0, 1, 2, 3, 4] rfl)
  clear hF
  have hF := hy2
  clear hy2
  refine lv_icmp_ge (tgt := 66) hx hb dX8_noteBox_6 (by decide) (fun c19 => ?_) (fun c19 => ?_)
  · rw [if_pos c19] at hF
    obtain rfl := Option.some.inj hF
    exact J2 _ _ _ hP hD hS (lv_sub hl [0, 1, 2, 3, 4] rfl)
  · rw [if_neg c19] at hF
    refine lv_iconst (v := (4 : Int32)) hx hb dX8_noteBox_9 (by decide) ?_
    refine lv_aload_n hx hb dX8_noteBox_10 rfl (lv_at hl 0 rfl) ?_
    refine va_get (D := D) (ci := 8) (v := .int (M.1 a 11)) (C := RX8) (T := TX8) (N := 15) hx hb hts (by decide +kernel) hown hK hP a (wld_o ct ad G M hc hk (by decide)) rfl 11 (by decide) (hts (.fieldLink RX8 95 "VideoSuite$Units" "boxCount" "I") (by decide +kernel)) (fun _ h9 => h9) rfl dX8_noteBox_11 ?_
    obtain ⟨x20, ex20, hF⟩ := ltt_some hF
    refine lv_topi (fun zx20 ezx20 => ?_)
    obtain rfl : x20 = zx20 := ex20.trans ezx20.symm
    refine lv_imul hx hb dX8_noteBox_14 ?_
    obtain ⟨x21, ex21, hF⟩ := ltt_some hF
    refine lv_topi (fun zx21 ezx21 => ?_)
    obtain rfl : x21 = zx21 := ex21.trans ezx21.symm
    refine lv_istore (lv' := [(5, .int x21), (0, .ref (ad a)), (1, .int p0), (2, .int p1), (3, .int p2), (4, .int p3)]) hx hb dX8_noteBox_15 hl (by decide) rfl (fun ls hl => ?_)
    refine lv_aload_n hx hb dX8_noteBox_17 rfl (lv_at hl 1 rfl) ?_
    refine va_get (D := D) (ci := 8) (v := va_re ad (M.2 a 10)) (C := RX8) (T := TX8) (N := 15) hx hb hts (by decide +kernel) hown hK hP a (wld_o ct ad G M hc hk (by decide)) rfl 10 (by decide) (hts (.fieldLink RX8 32 "VideoSuite$Units" "box" "[I") (by decide +kernel)) (fun _ h9 => h9) rfl dX8_noteBox_18 ?_
    refine lv_iload hx hb dX8_noteBox_21 (lv_at hl 0 rfl) ?_
    refine lv_iload_n hx hb dX8_noteBox_23 rfl (lv_at hl 2 rfl) ?_
    obtain ⟨b22, ho22, hc22, hk22, hF⟩ := dr_some hF
    refine W_st (st' := [.int p0, .int x21, .ref (ad b22)]) (by rw [va_some ho22]) ?_
    obtain ⟨hvc, hF⟩ := chk_some hF
    refine va_iast hx hb hK hP hD hS b22 1 (wld_i ct ad G M hc22 hk22) rfl hvc dX8_noteBox_24 (fun H locs hP hD hS => ?_)
    obtain ⟨M23, eM23, hF⟩ := ltt_some hF
    rw [set_i ct ad G M hc22 hk22, ← eM23] at hP hD
    refine lv_aload_n hx hb dX8_noteBox_25 rfl (lv_at hl 1 rfl) ?_
    refine va_get (D := D) (ci := 8) (v := va_re ad (M23.2 a 10)) (C := RX8) (T := TX8) (N := 15) hx hb hts (by decide +kernel) hown hK hP a (wld_o ct ad G M23 hc hk (by decide)) rfl 10 (by decide) (hts (.fieldLink RX8 32 "VideoSuite$Units" "box" "[I") (by decide +kernel)) (fun _ h9 => h9) rfl dX8_noteBox_26 ?_
    refine lv_iload hx hb dX8_noteBox_29 (lv_at hl 0 rfl) ?_
    refine lv_iconst (v := (1 : Int32)) hx hb dX8_noteBox_31 (by decide) ?_
    refine lv_iadd hx hb dX8_noteBox_32 ?_
    obtain ⟨x24, ex24, hF⟩ := ltt_some hF
    refine lv_topi (fun zx24 ezx24 => ?_)
    obtain rfl : x24 = zx24 := ex24.trans ezx24.symm
    refine lv_iload_n hx hb dX8_noteBox_33 rfl (lv_at hl 3 rfl) ?_
    obtain ⟨b25, ho25, hc25, hk25, hF⟩ := dr_some hF
    refine W_st (st' := [.int p1, .int x24, .ref (ad b25)]) (by rw [va_some ho25]) ?_
    obtain ⟨hvc, hF⟩ := chk_some hF
    refine va_iast hx hb hK hP hD hS b25 1 (wld_i ct ad G M23 hc25 hk25) rfl hvc dX8_noteBox_34 (fun H locs hP hD hS => ?_)
    obtain ⟨M26, eM26, hF⟩ := ltt_some hF
    rw [set_i ct ad G M23 hc25 hk25, ← eM26] at hP hD
    refine lv_aload_n hx hb dX8_noteBox_35 rfl (lv_at hl 1 rfl) ?_
    refine va_get (D := D) (ci := 8) (v := va_re ad (M26.2 a 10)) (C := RX8) (T := TX8) (N := 15) hx hb hts (by decide +kernel) hown hK hP a (wld_o ct ad G M26 hc hk (by decide)) rfl 10 (by decide) (hts (.fieldLink RX8 32 "VideoSuite$Units" "box" "[I") (by decide +kernel)) (fun _ h9 => h9) rfl dX8_noteBox_36 ?_
    refine lv_iload hx hb dX8_noteBox_39 (lv_at hl 0 rfl) ?_
    refine lv_iconst (v := (2 : Int32)) hx hb dX8_noteBox_41 (by decide) ?_
    refine lv_iadd hx hb dX8_noteBox_42 ?_
    obtain ⟨x27, ex27, hF⟩ := ltt_some hF
    refine lv_topi (fun zx27 ezx27 => ?_)
    obtain rfl : x27 = zx27 := ex27.trans ezx27.symm
    refine lv_iload_n hx hb dX8_noteBox_43 rfl (lv_at hl 4 rfl) ?_
    obtain ⟨b28, ho28, hc28, hk28, hF⟩ := dr_some hF
    refine W_st (st' := [.int p2, .int x27, .ref (ad b28)]) (by rw [va_some ho28]) ?_
    obtain ⟨hvc, hF⟩ := chk_some hF
    refine va_iast hx hb hK hP hD hS b28 1 (wld_i ct ad G M26 hc28 hk28) rfl hvc dX8_noteBox_44 (fun H locs hP hD hS => ?_)
    obtain ⟨M29, eM29, hF⟩ := ltt_some hF
    rw [set_i ct ad G M26 hc28 hk28, ← eM29] at hP hD
    refine lv_aload_n hx hb dX8_noteBox_45 rfl (lv_at hl 1 rfl) ?_
    refine va_get (D := D) (ci := 8) (v := va_re ad (M29.2 a 10)) (C := RX8) (T := TX8) (N := 15) hx hb hts (by decide +kernel) hown hK hP a (wld_o ct ad G M29 hc hk (by decide)) rfl 10 (by decide) (hts (.fieldLink RX8 32 "VideoSuite$Units" "box" "[I") (by decide +kernel)) (fun _ h9 => h9) rfl dX8_noteBox_46 ?_
    refine lv_iload hx hb dX8_noteBox_49 (lv_at hl 0 rfl) ?_
    refine lv_iconst (v := (3 : Int32)) hx hb dX8_noteBox_51 (by decide) ?_
    refine lv_iadd hx hb dX8_noteBox_52 ?_
    obtain ⟨x30, ex30, hF⟩ := ltt_some hF
    refine lv_topi (fun zx30 ezx30 => ?_)
    obtain rfl : x30 = zx30 := ex30.trans ezx30.symm
    refine lv_iload hx hb dX8_noteBox_53 (lv_at hl 5 rfl) ?_
    obtain ⟨b31, ho31, hc31, hk31, hF⟩ := dr_some hF
    refine W_st (st' := [.int p3, .int x30, .ref (ad b31)]) (by rw [va_some ho31]) ?_
    obtain ⟨hvc, hF⟩ := chk_some hF
    refine va_iast hx hb hK hP hD hS b31 1 (wld_i ct ad G M29 hc31 hk31) rfl hvc dX8_noteBox_55 (fun H locs hP hD hS => ?_)
    obtain ⟨M32, eM32, hF⟩ := ltt_some hF
    rw [set_i ct ad G M29 hc31 hk31, ← eM32] at hP hD
    refine lv_aload_n hx hb dX8_noteBox_56 rfl (lv_at hl 1 rfl) ?_
    refine lv_dup hx hb dX8_noteBox_57 rfl ?_
    refine va_get (D := D) (ci := 8) (v := .int (M32.1 a 11)) (C := RX8) (T := TX8) (N := 15) hx hb hts (by decide +kernel) hown hK hP a (wld_o ct ad G M32 hc hk (by decide)) rfl 11 (by decide) (hts (.fieldLink RX8 95 "VideoSuite$Units" "boxCount" "I") (by decide +kernel)) (fun _ h9 => h9) rfl dX8_noteBox_58 ?_
    obtain ⟨x33, ex33, hF⟩ := ltt_some hF
    refine lv_topi (fun zx33 ezx33 => ?_)
    obtain rfl : x33 = zx33 := ex33.trans ezx33.symm
    refine lv_iconst (v := (1 : Int32)) hx hb dX8_noteBox_61 (by decide) ?_
    refine lv_iadd hx hb dX8_noteBox_62 ?_
    obtain ⟨x34, ex34, hF⟩ := ltt_some hF
    refine lv_topi (fun zx34 ezx34 => ?_)
    obtain rfl : x34 = zx34 := ex34.trans ezx34.symm
    refine va_put (D := D) (ci := 8) (v := .int x34) (ty := .int) (C := RX8) (T := TX8) (N := 15) hx hb hts (by decide +kernel) tyX8 tyX8_ok nmX8 hown hK hP hD hS a (wld_o ct ad G M32 hc hk (by decide)) rfl 11 (by decide) (hts (.fieldLink RX8 95 "VideoSuite$Units" "boxCount" "I") (by decide +kernel)) (fun _ h9 => h9) rfl (by decide +kernel) rfl rfl (Nat.le_of_ble_eq_true rfl) dX8_noteBox_63 (fun H locs hP hD hS => ?_)
    obtain ⟨M35, eM35, hF⟩ := ltt_some hF
    rw [set_oI ct ad G M32 hc hk (by decide) (by rfl), ← eM35] at hP hD
    obtain rfl := Option.some.inj hF
    exact J2 _ _ _ hP hD hS (lv_sub hl [1, 2, 3, 4, 5] rfl)
theorem dX8_number4_0 : decode cX8_number4 0 = .ok (.lconst 0, 1) := by decide +kernel
theorem dX8_number4_1 : decode cX8_number4 1 = .ok (.lstore_n 2, 1) := by decide +kernel
theorem dX8_number4_2 : decode cX8_number4 2 = .ok (.iload_n 1, 1) := by decide +kernel
theorem dX8_number4_3 : decode cX8_number4 3 = .ok (.istore 4, 2) := by decide +kernel
theorem dX8_number4_5 : decode cX8_number4 5 = .ok (.iload 4, 2) := by decide +kernel
theorem dX8_number4_7 : decode cX8_number4 7 = .ok (.iload_n 1, 1) := by decide +kernel
theorem dX8_number4_8 : decode cX8_number4 8 = .ok (.iconst 4, 1) := by decide +kernel
theorem dX8_number4_9 : decode cX8_number4 9 = .ok (.iadd, 1) := by decide +kernel
theorem dX8_number4_10 : decode cX8_number4 10 = .ok (.if_icmp .ge 31, 3) := by decide +kernel
theorem dX8_number4_13 : decode cX8_number4 13 = .ok (.iload 4, 2) := by decide +kernel
theorem dX8_number4_15 : decode cX8_number4 15 = .ok (.aload_n 0, 1) := by decide +kernel
theorem dX8_number4_16 : decode cX8_number4 16 = .ok (.arraylength, 1) := by decide +kernel
theorem dX8_number4_17 : decode cX8_number4 17 = .ok (.if_icmp .ge 24, 3) := by decide +kernel
theorem dX8_number4_20 : decode cX8_number4 20 = .ok (.lload_n 2, 1) := by decide +kernel
theorem dX8_number4_21 : decode cX8_number4 21 = .ok (.bipush 8, 2) := by decide +kernel
theorem dX8_number4_23 : decode cX8_number4 23 = .ok (.lshl, 1) := by decide +kernel
theorem dX8_number4_24 : decode cX8_number4 24 = .ok (.aload_n 0, 1) := by decide +kernel
theorem dX8_number4_25 : decode cX8_number4 25 = .ok (.iload 4, 2) := by decide +kernel
theorem dX8_number4_27 : decode cX8_number4 27 = .ok (.baload, 1) := by decide +kernel
theorem dX8_number4_28 : decode cX8_number4 28 = .ok (.sipush 255, 3) := by decide +kernel
theorem dX8_number4_31 : decode cX8_number4 31 = .ok (.iand, 1) := by decide +kernel
theorem dX8_number4_32 : decode cX8_number4 32 = .ok (.i2l, 1) := by decide +kernel
theorem dX8_number4_33 : decode cX8_number4 33 = .ok (.lor, 1) := by decide +kernel
theorem dX8_number4_34 : decode cX8_number4 34 = .ok (.lstore_n 2, 1) := by decide +kernel
theorem dX8_number4_35 : decode cX8_number4 35 = .ok (.iinc 4 1, 3) := by decide +kernel
theorem dX8_number4_38 : decode cX8_number4 38 = .ok (.goto (-33), 3) := by decide +kernel
theorem dX8_number4_41 : decode cX8_number4 41 = .ok (.lload_n 2, 1) := by decide +kernel
theorem dX8_number4_42 : decode cX8_number4 42 = .ok (.lreturn, 1) := by decide +kernel
def FX8_number4 (G : GG) (M : DD) (p0 : Option Nat) (p1 : Int32) : Option (DD × Int64) :=
  bnd (itr (fun (s2 : Int64 × Int32) => ((ltt ((p1 + ((4 : Int32)))) fun x5 =>
  if x5 ≤ s2.2 then (some (.inr (s2.1, s2.2))) else
  (dr G 12 p0 fun b7 =>
  ltt (Int32.ofNat (G.2.2 b7)) fun x8 =>
  if x8 ≤ s2.2 then (some (.inr (s2.1, s2.2))) else
  (ltt (s2.1 <<< (((8 : Int32)).toInt64 &&& 63)) fun x10 =>
  chk (¬ (s2.2 < 0 ∨ G.2.2 b7 ≤ s2.2.toNatClampNeg)) <|
  ltt (M.1 b7 s2.2.toNatClampNeg) fun x11 =>
  ltt ((x11 &&& ((255 : Int32)))) fun x12 =>
  ltt (x12.toInt64) fun x13 =>
  ltt (x10 ||| x13) fun x14 =>
  ltt (s2.2 + (1 : Int32)) fun x15 =>
  some (.inl (x14, x15))))) : Option ((Int64 × Int32) ⊕ (Int64 × Int32)))) 1000000 ((0 : Int64), p1)) fun (y1 : Int64 × Int32) =>
  some (M, y1.1)
set_option maxHeartbeats 4000000 in
set_option maxRecDepth 100000 in
theorem kX8_number4 (l : Launch) (D : va_G) (ct : CT) (ad : Nat → Nat) (Z : Nat → Nat) (G : GG) (M : DD) (sz : Nat) (p0 : Option Nat) (p1 : Int32) (y : DD × Int64) (hF : FX8_number4 G M p0 p1 = some y) : Met l yX8_number4 wsX8_number4 ({ frames := 0, cells := 0, slots := 0, locals := 0 }) (va_Pc [va_re ad p0, .int p1] (kB D ct ad Z G M sz)) (va_Ql (fun (q : Int64) (_ : Unit) => q = y.2) (fun _ t => kE D ct ad G (wA ad G sz) y.1 t) (wA ad G sz)) 0 0 (wA ad G sz) := by
  refine Met.ofW (cc := cX8_number4) (maxL := 5) (ret := (some .long)) (by decide) rfl ?_
  intro p e s m args below meth c s₁ B hml hv
  obtain ⟨rfl, hsz, hP, hK, hD0, hZ, hN⟩ := hv
  have hx := B.exec
  have hb := B.bytes
  have hr := B.returns
  have hts := atoms_spec (ws := wsX8_number4) B.pre
  have hown : s.vm.findClass RX8 = some m.cls := findClass_of_methodNamed B.named
  have hlocks := B.notSynchronized
  subst hsz
  have hD := wD_self (sz := s.heap.size) hD0
  have hA9 : ∀ q, s.heap.size ≤ q → wA ad G s.heap.size q := fun q h => Or.inr h
  generalize hAe : wA ad G s.heap.size = A at hD hA9 hZ ⊢
  have hS : va_S A s.heap s.heap [] := va_S.rf
  have hl := lv_entry ([va_re ad p0, .int p1]) (n := 5) (by cases p0 <;> exact Nat.le_of_ble_eq_true rfl)
  rw [lg_entry_eq]
  generalize (lg_sl ([va_re ad p0, .int p1]) ++ List.replicate (5 - (lg_sl ([va_re ad p0, .int p1])).length) Slot.unset).toArray = ls at hl ⊢
  have hl : lv_has ls 5 [(0, va_re ad p0), (1, .int p1)] := by have e9 : lv_args 0 [va_re ad p0, .int p1] = [(0, va_re ad p0), (1, .int p1)] := (by cases p0 <;> rfl); rw [e9] at hl; exact hl
  unfold FX8_number4 at hF
  refine lv_lconst (v := (0 : Int64)) hx hb dX8_number4_0 rfl ?_
  refine lv_lstore_n (lv' := [(2, .long (0 : Int64)), (0, va_re ad p0), (1, .int p1)]) hx hb dX8_number4_1 rfl hl (by decide) rfl (fun ls hl => ?_)
  refine lv_iload_n hx hb dX8_number4_2 rfl (lv_at hl 2 rfl) ?_
  refine lv_istore (lv' := [(4, .int p1), (2, .long (0 : Int64)), (0, va_re ad p0), (1, .int p1)]) hx hb dX8_number4_3 hl (by decide) rfl (fun ls hl => ?_)
  obtain ⟨y1, hy1, hF⟩ := bnd_some hF
  have K1 : ∀ (H : Heap) (locs : List Loc) (ls : Array Slot), va_P D classes (wld ct ad G M) H → va_D A (wld ct ad G M) → va_S A s.heap H locs → lv_has ls 5 [(4, .int y1.2), (2, .long y1.1), (0, va_re ad p0), (1, .int p1)] → W p l e (headSpec wsX8_number4 ({ frames := 0, cells := 0, slots := 0, locals := 0 })).room s m ([va_re ad p0, .int p1] : List Value).toArray below meth c H locs 0 0 (MQ below (va_Ql (fun (q : Int64) (_ : Unit) => q = y.2) (fun _ t => kE D ct ad G A y.1 t) A) ([va_re ad p0, .int p1] : List Value).toArray s 0 0 A) (F0 m 41 ls []) := by
    intro H locs ls hP hD hS hl
    refine lv_lload_n hx hb dX8_number4_41 rfl (lv_at hl 1 rfl) ?_
    obtain rfl := Option.some.inj hF
    exact W.lret (v := y1.1) hx hb hr (fun t ht hW => ⟨⟨_, (), rfl, rfl, ⟨by rw [ht]; exact hP, va_K.moved hW.alike hK, hD⟩⟩, hS.F ht⟩) hS.2.2 dX8_number4_42
  clear hF
  refine itr_rule (fun (s2 : Int64 × Int32) => ∀ (H : Heap) (locs : List Loc) (ls : Array Slot), va_P D classes (wld ct ad G M) H → va_D A (wld ct ad G M) → va_S A s.heap H locs → lv_has ls 5 [(4, .int s2.2), (2, .long s2.1), (0, va_re ad p0), (1, .int p1)] → W p l e (headSpec wsX8_number4 ({ frames := 0, cells := 0, slots := 0, locals := 0 })).room s m ([va_re ad p0, .int p1] : List Value).toArray below meth c H locs 0 0 (MQ below (va_Ql (fun (q : Int64) (_ : Unit) => q = y.2) (fun _ t => kE D ct ad G A y.1 t) A) ([va_re ad p0, .int p1] : List Value).toArray s 0 0 A) (F0 m 5 ls [])) ?_ _ _ hy1 _ _ _ hP hD hS (lv_sub hl [0, 1, 2, 3] rfl)
  rintro s2 ⟨z4, hF, hwz4⟩ H locs ls hP hD hS hl
  try dsimp only at hF
  refine lv_iload hx hb dX8_number4_5 (lv_at hl 0 rfl) ?_
  refine lv_iload_n hx hb dX8_number4_7 rfl (lv_at hl 3 rfl) ?_
  refine lv_iconst (v := (4 : Int32)) hx hb dX8_number4_8 (by decide) ?_
  refine lv_iadd hx hb dX8_number4_9 ?_
  obtain ⟨x5, ex5, hF⟩ := ltt_some hF
  refine lv_topi (fun zx5 ezx5 => ?_)
  obtain rfl : x5 = zx5 := ex5.trans ezx5.symm
  refine lv_icmp_ge (tgt := 41) hx hb dX8_number4_10 (by decide) (fun c6 => ?_) (fun c6 => ?_)
  · rw [if_pos c6] at hF
    obtain rfl := Option.some.inj hF
    subst hwz4
    exact K1 _ _ _ hP hD hS (lv_sub hl [0, 1, 2, 3] rfl)
  · rw [if_neg c6] at hF
    refine lv_iload hx hb dX8_number4_13 (lv_at hl 0 rfl) ?_
    refine lv_aloadq_n hx hb dX8_number4_15 rfl (lv_at hl 2 rfl) ?_
    obtain ⟨b7, ho7, hc7, hk7, hF⟩ := dr_some hF
    refine W_st (st' := [.ref (ad b7), .int s2.2]) (by rw [va_some ho7]) ?_
    refine va_alen (v := Int32.ofNat (G.2.2 b7)) hx hb hK hP b7 0 (wld_b ct ad G M hc7 hk7) rfl rfl dX8_number4_16 ?_
    obtain ⟨x8, ex8, hF⟩ := ltt_some hF
    refine lv_topi (fun zx8 ezx8 => ?_)
    obtain rfl : x8 = zx8 := ex8.trans ezx8.symm
    refine lv_icmp_ge (tgt := 41) hx hb dX8_number4_17 (by decide) (fun c9 => ?_) (fun c9 => ?_)
    · rw [if_pos c9] at hF
      obtain rfl := Option.some.inj hF
      subst hwz4
      exact K1 _ _ _ hP hD hS (lv_sub hl [0, 1, 2, 3] rfl)
    · rw [if_neg c9] at hF
      refine lv_lload_n hx hb dX8_number4_20 rfl (lv_at hl 1 rfl) ?_
      refine lv_bipush (v := (8 : Int32)) hx hb dX8_number4_21 (by decide) ?_
      refine lv_lshl (v := s2.1 <<< (((8 : Int32)).toInt64 &&& 63)) hx hb dX8_number4_23 rfl ?_
      obtain ⟨x10, ex10, hF⟩ := ltt_some hF
      refine lv_topl (fun zx10 ezx10 => ?_)
      obtain rfl : x10 = zx10 := ex10.trans ezx10.symm
      refine lv_aloadq_n hx hb dX8_number4_24 rfl (lv_at hl 2 rfl) ?_
      refine lv_iload hx hb dX8_number4_25 (lv_at hl 0 rfl) ?_
      refine W_st (st' := [.int s2.2, .ref (ad b7), .long x10]) (by rw [va_some ho7]) ?_
      obtain ⟨hvc, hF⟩ := chk_some hF
      refine va_bald hx hb hK hP b7 0 (wld_b ct ad G M hc7 hk7) rfl hvc dX8_number4_27 ?_
      obtain ⟨x11, ex11, hF⟩ := ltt_some hF
      refine lv_topi (fun zx11 ezx11 => ?_)
      obtain rfl : x11 = zx11 := ex11.trans ezx11.symm
      refine lv_sipush (v := (255 : Int32)) hx hb dX8_number4_28 (by decide) ?_
      refine lv_iand hx hb dX8_number4_31 ?_
      obtain ⟨x12, ex12, hF⟩ := ltt_some hF
      refine lv_topi (fun zx12 ezx12 => ?_)
      obtain rfl : x12 = zx12 := ex12.trans ezx12.symm
      refine lv_i2l (v := x12.toInt64) hx hb dX8_number4_32 rfl ?_
      obtain ⟨x13, ex13, hF⟩ := ltt_some hF
      refine lv_topl (fun zx13 ezx13 => ?_)
      obtain rfl : x13 = zx13 := ex13.trans ezx13.symm
      refine lv_lor hx hb dX8_number4_33 ?_
      obtain ⟨x14, ex14, hF⟩ := ltt_some hF
      refine lv_topl (fun zx14 ezx14 => ?_)
      obtain rfl : x14 = zx14 := ex14.trans ezx14.symm
      refine lv_lstore_n (lv' := [(2, .long x14), (4, .int s2.2), (0, va_re ad p0), (1, .int p1)]) hx hb dX8_number4_34 rfl hl (by decide) rfl (fun ls hl => ?_)
      obtain ⟨x15, ex15, hF⟩ := ltt_some hF
      refine lv_iinc (v := x15) (lv' := [(4, .int x15), (2, .long x14), (0, va_re ad p0), (1, .int p1)]) hx hb dX8_number4_35 hl (k := 1) rfl (by rw [ex15]; rfl) (by decide) rfl (fun ls hl => ?_)
      refine lv_goto (tgt := 5) hx hb dX8_number4_38 (by decide) ?_
      obtain rfl := Option.some.inj hF
      exact hwz4 _ _ _ hP hD hS (lv_sub hl [0, 1, 2, 3] rfl)
theorem dX8_put4_0 : decode cX8_put4 0 = .ok (.bipush 24, 2) := by decide +kernel
theorem dX8_put4_2 : decode cX8_put4 2 = .ok (.istore_n 3, 1) := by decide +kernel
theorem dX8_put4_3 : decode cX8_put4 3 = .ok (.iload_n 3, 1) := by decide +kernel
theorem dX8_put4_4 : decode cX8_put4 4 = .ok (.ifCond .lt 35, 3) := by decide +kernel
theorem dX8_put4_7 : decode cX8_put4 7 = .ok (.aload_n 0, 1) := by decide +kernel
theorem dX8_put4_8 : decode cX8_put4 8 = .ok (.getfield 75, 3) := by decide +kernel
theorem dX8_put4_11 : decode cX8_put4 11 = .ok (.aload_n 1, 1) := by decide +kernel
theorem dX8_put4_12 : decode cX8_put4 12 = .ok (.arraylength, 1) := by decide +kernel
theorem dX8_put4_13 : decode cX8_put4 13 = .ok (.if_icmp .ge 26, 3) := by decide +kernel
theorem dX8_put4_16 : decode cX8_put4 16 = .ok (.aload_n 1, 1) := by decide +kernel
theorem dX8_put4_17 : decode cX8_put4 17 = .ok (.aload_n 0, 1) := by decide +kernel
theorem dX8_put4_18 : decode cX8_put4 18 = .ok (.dup, 1) := by decide +kernel
theorem dX8_put4_19 : decode cX8_put4 19 = .ok (.getfield 75, 3) := by decide +kernel
theorem dX8_put4_22 : decode cX8_put4 22 = .ok (.dup_x1, 1) := by decide +kernel
theorem dX8_put4_23 : decode cX8_put4 23 = .ok (.iconst 1, 1) := by decide +kernel
theorem dX8_put4_24 : decode cX8_put4 24 = .ok (.iadd, 1) := by decide +kernel
theorem dX8_put4_25 : decode cX8_put4 25 = .ok (.putfield 75, 3) := by decide +kernel
theorem dX8_put4_28 : decode cX8_put4 28 = .ok (.iload_n 2, 1) := by decide +kernel
theorem dX8_put4_29 : decode cX8_put4 29 = .ok (.iload_n 3, 1) := by decide +kernel
theorem dX8_put4_30 : decode cX8_put4 30 = .ok (.ishr, 1) := by decide +kernel
theorem dX8_put4_31 : decode cX8_put4 31 = .ok (.i2b, 1) := by decide +kernel
theorem dX8_put4_32 : decode cX8_put4 32 = .ok (.bastore, 1) := by decide +kernel
theorem dX8_put4_33 : decode cX8_put4 33 = .ok (.iinc 3 (-8), 3) := by decide +kernel
theorem dX8_put4_36 : decode cX8_put4 36 = .ok (.goto (-33), 3) := by decide +kernel
theorem dX8_put4_39 : decode cX8_put4 39 = .ok (.return_, 1) := by decide +kernel
def FX8_put4 (G : GG) (M : DD) (a : Nat) (p0 : Option Nat) (p1 : Int32) : Option (DD) :=
  bnd (itr (fun (s2 : Int32 × DD) => ((if s2.1 < ((0 : Int32)) then (some (.inr (s2.1, s2.2))) else
  (ltt (s2.2.1 a 14) fun x6 =>
  dr G 12 p0 fun b7 =>
  ltt (Int32.ofNat (G.2.2 b7)) fun x8 =>
  if x8 ≤ x6 then (some (.inr (s2.1, s2.2))) else
  (ltt (s2.2.1 a 14) fun x10 =>
  ltt ((x10 + ((1 : Int32)))) fun x11 =>
  ltt (uI s2.2 a 14 x11) fun M12 =>
  ltt ((p1 >>> (s2.1 &&& 31))) fun x13 =>
  ltt (x13.toInt8.toInt32) fun x14 =>
  chk (¬ (x10 < 0 ∨ G.2.2 b7 ≤ x10.toNatClampNeg)) <|
  ltt (uI M12 b7 x10.toNatClampNeg (vp_nar .byte x14)) fun M15 =>
  ltt (s2.1 + (-8 : Int32)) fun x16 =>
  some (.inl (x16, M15))))) : Option ((Int32 × DD) ⊕ (Int32 × DD)))) 1000000 ((24 : Int32), M)) fun (y1 : Int32 × DD) =>
  some y1.2
set_option maxHeartbeats 4000000 in
set_option maxRecDepth 100000 in
theorem kX8_put4 (l : Launch) (D : va_G) (ct : CT) (ad : Nat → Nat) (Z : Nat → Nat) (G : GG) (M : DD) (sz : Nat) (a : Nat) (p0 : Option Nat) (p1 : Int32) (y : DD) (hc : a < G.1) (hk : G.2.1 a = 8) (hF : FX8_put4 G M a p0 p1 = some y) : Met l yX8_put4 wsX8_put4 ({ frames := 0, cells := 0, slots := 0, locals := 0 }) (va_Pc [.ref (ad a), va_re ad p0, .int p1] (kB D ct ad Z G M sz)) (va_Qv (fun (_ : Unit) => True) (fun _ t => kE D ct ad G (wA ad G sz) y t) (wA ad G sz)) 0 0 (wA ad G sz) := by
  refine Met.ofW (cc := cX8_put4) (maxL := 4) (ret := none) (by decide) rfl ?_
  intro p e s m args below meth c s₁ B hml hv
  obtain ⟨rfl, hsz, hP, hK, hD0, hZ, hN⟩ := hv
  have hx := B.exec
  have hb := B.bytes
  have hr := B.returns
  have hts := atoms_spec (ws := wsX8_put4) B.pre
  have hown : s.vm.findClass RX8 = some m.cls := findClass_of_methodNamed B.named
  have hlocks := B.notSynchronized
  subst hsz
  have hD := wD_self (sz := s.heap.size) hD0
  have hA9 : ∀ q, s.heap.size ≤ q → wA ad G s.heap.size q := fun q h => Or.inr h
  generalize hAe : wA ad G s.heap.size = A at hD hA9 hZ ⊢
  have hS : va_S A s.heap s.heap [] := va_S.rf
  have hl := lv_entry ([.ref (ad a), va_re ad p0, .int p1]) (n := 4) (by cases p0 <;> exact Nat.le_of_ble_eq_true rfl)
  rw [lg_entry_eq]
  generalize (lg_sl ([.ref (ad a), va_re ad p0, .int p1]) ++ List.replicate (4 - (lg_sl ([.ref (ad a), va_re ad p0, .int p1])).length) Slot.unset).toArray = ls at hl ⊢
  have hl : lv_has ls 4 [(0, .ref (ad a)), (1, va_re ad p0), (2, .int p1)] := by have e9 : lv_args 0 [.ref (ad a), va_re ad p0, .int p1] = [(0, .ref (ad a)), (1, va_re ad p0), (2, .int p1)] := (by cases p0 <;> rfl); rw [e9] at hl; exact hl
  unfold FX8_put4 at hF
  refine lv_bipush (v := (24 : Int32)) hx hb dX8_put4_0 (by decide) ?_
  refine lv_istore_n (lv' := [(3, .int (24 : Int32)), (0, .ref (ad a)), (1, va_re ad p0), (2, .int p1)]) hx hb dX8_put4_2 rfl hl (by decide) rfl (fun ls hl => ?_)
  obtain ⟨y1, hy1, hF⟩ := bnd_some hF
  have K1 : ∀ (H : Heap) (locs : List Loc) (ls : Array Slot), va_P D classes (wld ct ad G y1.2) H → va_D A (wld ct ad G y1.2) → va_S A s.heap H locs → lv_has ls 4 [(3, .int y1.1), (0, .ref (ad a)), (1, va_re ad p0), (2, .int p1)] → W p l e (headSpec wsX8_put4 ({ frames := 0, cells := 0, slots := 0, locals := 0 })).room s m ([.ref (ad a), va_re ad p0, .int p1] : List Value).toArray below meth c H locs 0 0 (MQ below (va_Qv (fun (_ : Unit) => True) (fun _ t => kE D ct ad G A y t) A) ([.ref (ad a), va_re ad p0, .int p1] : List Value).toArray s 0 0 A) (F0 m 39 ls []) := by
    intro H locs ls hP hD hS hl
    obtain rfl := Option.some.inj hF
    exact W.vret hx hb hr (fun t ht hW => ⟨⟨(), rfl, trivial, ⟨by rw [ht]; exact hP, va_K.moved hW.alike hK, hD⟩⟩, hS.F ht⟩) hS.2.2 dX8_put4_39
  clear hF
  refine itr_rule (fun (s2 : Int32 × DD) => ∀ (H : Heap) (locs : List Loc) (ls : Array Slot), va_P D classes (wld ct ad G s2.2) H → va_D A (wld ct ad G s2.2) → va_S A s.heap H locs → lv_has ls 4 [(3, .int s2.1), (0, .ref (ad a)), (1, va_re ad p0), (2, .int p1)] → W p l e (headSpec wsX8_put4 ({ frames := 0, cells := 0, slots := 0, locals := 0 })).room s m ([.ref (ad a), va_re ad p0, .int p1] : List Value).toArray below meth c H locs 0 0 (MQ below (va_Qv (fun (_ : Unit) => True) (fun _ t => kE D ct ad G A y t) A) ([.ref (ad a), va_re ad p0, .int p1] : List Value).toArray s 0 0 A) (F0 m 3 ls [])) ?_ _ _ hy1 _ _ _ hP hD hS (lv_sub hl [0, 1, 2, 3] rfl)
  rintro s2 ⟨z4, hF, hwz4⟩ H locs ls hP hD hS hl
  try dsimp only at hF
  refine lv_iload_n hx hb dX8_put4_3 rfl (lv_at hl 0 rfl) ?_
  refine lv_if_lt (tgt := 39) hx hb dX8_put4_4 (by decide) (fun c5 => ?_) (fun c5 => ?_)
  · rw [if_pos c5] at hF
    obtain rfl := Option.some.inj hF
    subst hwz4
    exact K1 _ _ _ hP hD hS (lv_sub hl [0, 1, 2, 3] rfl)
  · rw [if_neg c5] at hF
    refine lv_aload_n hx hb dX8_put4_7 rfl (lv_at hl 1 rfl) ?_
    refine va_get (D := D) (ci := 8) (v := .int (s2.2.1 a 14)) (C := RX8) (T := TX8) (N := 15) hx hb hts (by decide +kernel) hown hK hP a (wld_o ct ad G s2.2 hc hk (by decide)) rfl 14 (by decide) (hts (.fieldLink RX8 75 "VideoSuite$Units" "fileAt" "I") (by decide +kernel)) (fun _ h9 => h9) rfl dX8_put4_8 ?_
    obtain ⟨x6, ex6, hF⟩ := ltt_some hF
    refine lv_topi (fun zx6 ezx6 => ?_)
    obtain rfl : x6 = zx6 := ex6.trans ezx6.symm
    refine lv_aloadq_n hx hb dX8_put4_11 rfl (lv_at hl 2 rfl) ?_
    obtain ⟨b7, ho7, hc7, hk7, hF⟩ := dr_some hF
    refine W_st (st' := [.ref (ad b7), .int x6]) (by rw [va_some ho7]) ?_
    refine va_alen (v := Int32.ofNat (G.2.2 b7)) hx hb hK hP b7 0 (wld_b ct ad G s2.2 hc7 hk7) rfl rfl dX8_put4_12 ?_
    obtain ⟨x8, ex8, hF⟩ := ltt_some hF
    refine lv_topi (fun zx8 ezx8 => ?_)
    obtain rfl : x8 = zx8 := ex8.trans ezx8.symm
    refine lv_icmp_ge (tgt := 39) hx hb dX8_put4_13 (by decide) (fun c9 => ?_) (fun c9 => ?_)
    · rw [if_pos c9] at hF
      obtain rfl := Option.some.inj hF
      subst hwz4
      exact K1 _ _ _ hP hD hS (lv_sub hl [0, 1, 2, 3] rfl)
    · rw [if_neg c9] at hF
      refine lv_aloadq_n hx hb dX8_put4_16 rfl (lv_at hl 2 rfl) ?_
      refine lv_aload_n hx hb dX8_put4_17 rfl (lv_at hl 1 rfl) ?_
      refine lv_dup hx hb dX8_put4_18 rfl ?_
      refine va_get (D := D) (ci := 8) (v := .int (s2.2.1 a 14)) (C := RX8) (T := TX8) (N := 15) hx hb hts (by decide +kernel) hown hK hP a (wld_o ct ad G s2.2 hc hk (by decide)) rfl 14 (by decide) (hts (.fieldLink RX8 75 "VideoSuite$Units" "fileAt" "I") (by decide +kernel)) (fun _ h9 => h9) rfl dX8_put4_19 ?_
      obtain ⟨x10, ex10, hF⟩ := ltt_some hF
      refine lv_topi (fun zx10 ezx10 => ?_)
      obtain rfl : x10 = zx10 := ex10.trans ezx10.symm
      refine lv_dup_x1 hx hb dX8_put4_22 rfl rfl ?_
      refine lv_iconst (v := (1 : Int32)) hx hb dX8_put4_23 (by decide) ?_
      refine lv_iadd hx hb dX8_put4_24 ?_
      obtain ⟨x11, ex11, hF⟩ := ltt_some hF
      refine lv_topi (fun zx11 ezx11 => ?_)
      obtain rfl : x11 = zx11 := ex11.trans ezx11.symm
      refine va_put (D := D) (ci := 8) (v := .int x11) (ty := .int) (C := RX8) (T := TX8) (N := 15) hx hb hts (by decide +kernel) tyX8 tyX8_ok nmX8 hown hK hP hD hS a (wld_o ct ad G s2.2 hc hk (by decide)) rfl 14 (by decide) (hts (.fieldLink RX8 75 "VideoSuite$Units" "fileAt" "I") (by decide +kernel)) (fun _ h9 => h9) rfl (by decide +kernel) rfl rfl (Nat.le_of_ble_eq_true rfl) dX8_put4_25 (fun H locs hP hD hS => ?_)
      obtain ⟨M12, eM12, hF⟩ := ltt_some hF
      rw [set_oI ct ad G s2.2 hc hk (by decide) (by rfl), ← eM12] at hP hD
      refine lv_iload_n hx hb dX8_put4_28 rfl (lv_at hl 3 rfl) ?_
      refine lv_iload_n hx hb dX8_put4_29 rfl (lv_at hl 0 rfl) ?_
      refine lv_ishr hx hb dX8_put4_30 ?_
      obtain ⟨x13, ex13, hF⟩ := ltt_some hF
      refine lv_topi (fun zx13 ezx13 => ?_)
      obtain rfl : x13 = zx13 := ex13.trans ezx13.symm
      refine lv_i2b hx hb dX8_put4_31 rfl ?_
      obtain ⟨x14, ex14, hF⟩ := ltt_some hF
      refine lv_topi (fun zx14 ezx14 => ?_)
      obtain rfl : x14 = zx14 := ex14.trans ezx14.symm
      refine W_st (st' := [.int x14, .int x10, .ref (ad b7)]) (by rw [va_some ho7]) ?_
      obtain ⟨hvc, hF⟩ := chk_some hF
      refine va_bast hx hb hK hP hD hS b7 0 (wld_b ct ad G M12 hc7 hk7) rfl hvc dX8_put4_32 (fun H locs hP hD hS => ?_)
      obtain ⟨M15, eM15, hF⟩ := ltt_some hF
      rw [set_b ct ad G M12 hc7 hk7, ← eM15] at hP hD
      obtain ⟨x16, ex16, hF⟩ := ltt_some hF
      refine lv_iinc (v := x16) (lv' := [(3, .int x16), (0, .ref (ad a)), (1, va_re ad p0), (2, .int p1)]) hx hb dX8_put4_33 hl (k := 0) rfl (by rw [ex16]; rfl) (by decide) rfl (fun ls hl => ?_)
      refine lv_goto (tgt := 3) hx hb dX8_put4_36 (by decide) ?_
      obtain rfl := Option.some.inj hF
      exact hwz4 _ _ _ hP hD hS (lv_sub hl [0, 1, 2, 3] rfl)
theorem ggX8_readBoxes_J7_fill_53178 : GoodIn wsX8_readBoxes wsJ7_fill_53178 := goodIn_r _ [10] (by decide +kernel) (by decide +kernel)
set_option maxRecDepth 20000 in
theorem gX8_readBoxes_J7_fill_53178 : GoodIn wsX8_readBoxes (va_wsS RX8 98 yJ7_fill_53178 wsJ7_fill_53178) := goodIn_app (goodIn_of _ (by decide +kernel)) ggX8_readBoxes_J7_fill_53178
set_option maxRecDepth 20000 in
theorem ggX8_readBoxes_X8_number4 : GoodIn wsX8_readBoxes wsX8_number4 := goodIn_r _ [14] (by decide +kernel) (by decide +kernel)
set_option maxRecDepth 20000 in
theorem gX8_readBoxes_X8_number4 : GoodIn wsX8_readBoxes (va_wsS RX8 104 yX8_number4 wsX8_number4) := goodIn_app (goodIn_of _ (by decide +kernel)) ggX8_readBoxes_X8_number4
set_option maxRecDepth 20000 in
theorem ggX8_readBoxes_X8_noteBox : GoodIn wsX8_readBoxes wsX8_noteBox := goodIn_r _ [18, 1, 19, 20, 21, 2, 22, 23, 24, 25, 26, 27, 28, 29, 30, 31, 32, 33, 34, 35, 36] (by decide +kernel) (by decide +kernel)
set_option maxRecDepth 20000 in
theorem gX8_readBoxes_X8_noteBox : GoodIn wsX8_readBoxes (wsV RX8 110 RX8 yX8_noteBox wsX8_noteBox) := goodIn_app (goodIn_of _ (by decide +kernel)) ggX8_readBoxes_X8_noteBox
theorem dX8_readBoxes_0 : decode cX8_readBoxes 0 = .ok (.aload_n 0, 1) := by decide +kernel
theorem dX8_readBoxes_1 : decode cX8_readBoxes 1 = .ok (.iconst 0, 1) := by decide +kernel
theorem dX8_readBoxes_2 : decode cX8_readBoxes 2 = .ok (.putfield 95, 3) := by decide +kernel
theorem dX8_readBoxes_5 : decode cX8_readBoxes 5 = .ok (.aload_n 0, 1) := by decide +kernel
theorem dX8_readBoxes_6 : decode cX8_readBoxes 6 = .ok (.getfield 35, 3) := by decide +kernel
theorem dX8_readBoxes_9 : decode cX8_readBoxes 9 = .ok (.iconst (-1), 1) := by decide +kernel
theorem dX8_readBoxes_10 : decode cX8_readBoxes 10 = .ok (.invokestatic 98, 3) := by decide +kernel
theorem dX8_readBoxes_13 : decode cX8_readBoxes 13 = .ok (.iconst 0, 1) := by decide +kernel
theorem dX8_readBoxes_14 : decode cX8_readBoxes 14 = .ok (.istore_n 3, 1) := by decide +kernel
theorem dX8_readBoxes_15 : decode cX8_readBoxes 15 = .ok (.iconst 0, 1) := by decide +kernel
theorem dX8_readBoxes_16 : decode cX8_readBoxes 16 = .ok (.istore 4, 2) := by decide +kernel
theorem dX8_readBoxes_18 : decode cX8_readBoxes 18 = .ok (.aload_n 0, 1) := by decide +kernel
theorem dX8_readBoxes_19 : decode cX8_readBoxes 19 = .ok (.getfield 38, 3) := by decide +kernel
theorem dX8_readBoxes_22 : decode cX8_readBoxes 22 = .ok (.iconst 0, 1) := by decide +kernel
theorem dX8_readBoxes_23 : decode cX8_readBoxes 23 = .ok (.iload_n 2, 1) := by decide +kernel
theorem dX8_readBoxes_24 : decode cX8_readBoxes 24 = .ok (.iastore, 1) := by decide +kernel
theorem dX8_readBoxes_25 : decode cX8_readBoxes 25 = .ok (.aload_n 0, 1) := by decide +kernel
theorem dX8_readBoxes_26 : decode cX8_readBoxes 26 = .ok (.getfield 38, 3) := by decide +kernel
theorem dX8_readBoxes_29 : decode cX8_readBoxes 29 = .ok (.iconst 1, 1) := by decide +kernel
theorem dX8_readBoxes_30 : decode cX8_readBoxes 30 = .ok (.iconst (-1), 1) := by decide +kernel
theorem dX8_readBoxes_31 : decode cX8_readBoxes 31 = .ok (.iastore, 1) := by decide +kernel
theorem dX8_readBoxes_32 : decode cX8_readBoxes 32 = .ok (.iload 4, 2) := by decide +kernel
theorem dX8_readBoxes_34 : decode cX8_readBoxes 34 = .ok (.iload_n 2, 1) := by decide +kernel
theorem dX8_readBoxes_35 : decode cX8_readBoxes 35 = .ok (.if_icmp .ge 202, 3) := by decide +kernel
theorem dX8_readBoxes_38 : decode cX8_readBoxes 38 = .ok (.iload 4, 2) := by decide +kernel
theorem dX8_readBoxes_40 : decode cX8_readBoxes 40 = .ok (.aload_n 0, 1) := by decide +kernel
theorem dX8_readBoxes_41 : decode cX8_readBoxes 41 = .ok (.getfield 38, 3) := by decide +kernel
theorem dX8_readBoxes_44 : decode cX8_readBoxes 44 = .ok (.iconst 2, 1) := by decide +kernel
theorem dX8_readBoxes_45 : decode cX8_readBoxes 45 = .ok (.iload_n 3, 1) := by decide +kernel
theorem dX8_readBoxes_46 : decode cX8_readBoxes 46 = .ok (.imul, 1) := by decide +kernel
theorem dX8_readBoxes_47 : decode cX8_readBoxes 47 = .ok (.iaload, 1) := by decide +kernel
theorem dX8_readBoxes_48 : decode cX8_readBoxes 48 = .ok (.if_icmp .ne 13, 3) := by decide +kernel
theorem dX8_readBoxes_51 : decode cX8_readBoxes 51 = .ok (.iload_n 3, 1) := by decide +kernel
theorem dX8_readBoxes_52 : decode cX8_readBoxes 52 = .ok (.ifCond .le 9, 3) := by decide +kernel
theorem dX8_readBoxes_55 : decode cX8_readBoxes 55 = .ok (.iinc 3 (-1), 3) := by decide +kernel
theorem dX8_readBoxes_58 : decode cX8_readBoxes 58 = .ok (.goto (-26), 3) := by decide +kernel
theorem dX8_readBoxes_61 : decode cX8_readBoxes 61 = .ok (.aload_n 0, 1) := by decide +kernel
theorem dX8_readBoxes_62 : decode cX8_readBoxes 62 = .ok (.getfield 38, 3) := by decide +kernel
theorem dX8_readBoxes_65 : decode cX8_readBoxes 65 = .ok (.iconst 2, 1) := by decide +kernel
theorem dX8_readBoxes_66 : decode cX8_readBoxes 66 = .ok (.iload_n 3, 1) := by decide +kernel
theorem dX8_readBoxes_67 : decode cX8_readBoxes 67 = .ok (.imul, 1) := by decide +kernel
theorem dX8_readBoxes_68 : decode cX8_readBoxes 68 = .ok (.iaload, 1) := by decide +kernel
theorem dX8_readBoxes_69 : decode cX8_readBoxes 69 = .ok (.iload 4, 2) := by decide +kernel
theorem dX8_readBoxes_71 : decode cX8_readBoxes 71 = .ok (.isub, 1) := by decide +kernel
theorem dX8_readBoxes_72 : decode cX8_readBoxes 72 = .ok (.istore 5, 2) := by decide +kernel
theorem dX8_readBoxes_74 : decode cX8_readBoxes 74 = .ok (.iload 5, 2) := by decide +kernel
theorem dX8_readBoxes_76 : decode cX8_readBoxes 76 = .ok (.bipush 8, 2) := by decide +kernel
theorem dX8_readBoxes_78 : decode cX8_readBoxes 78 = .ok (.if_icmp .ge 7, 3) := by decide +kernel
theorem dX8_readBoxes_81 : decode cX8_readBoxes 81 = .ok (.lconst 0, 1) := by decide +kernel
theorem dX8_readBoxes_82 : decode cX8_readBoxes 82 = .ok (.goto 9, 3) := by decide +kernel
theorem dX8_readBoxes_85 : decode cX8_readBoxes 85 = .ok (.aload_n 1, 1) := by decide +kernel
theorem dX8_readBoxes_86 : decode cX8_readBoxes 86 = .ok (.iload 4, 2) := by decide +kernel
theorem dX8_readBoxes_88 : decode cX8_readBoxes 88 = .ok (.invokestatic 104, 3) := by decide +kernel
theorem dX8_readBoxes_91 : decode cX8_readBoxes 91 = .ok (.lstore 6, 2) := by decide +kernel
theorem dX8_readBoxes_93 : decode cX8_readBoxes 93 = .ok (.lload 6, 2) := by decide +kernel
theorem dX8_readBoxes_95 : decode cX8_readBoxes 95 = .ok (.ldc2_w 108, 3) := by decide +kernel
theorem dX8_readBoxes_98 : decode cX8_readBoxes 98 = .ok (.lcmp, 1) := by decide +kernel
theorem dX8_readBoxes_99 : decode cX8_readBoxes 99 = .ok (.ifCond .lt 12, 3) := by decide +kernel
theorem dX8_readBoxes_102 : decode cX8_readBoxes 102 = .ok (.lload 6, 2) := by decide +kernel
theorem dX8_readBoxes_104 : decode cX8_readBoxes 104 = .ok (.iload 5, 2) := by decide +kernel
theorem dX8_readBoxes_106 : decode cX8_readBoxes 106 = .ok (.i2l, 1) := by decide +kernel
theorem dX8_readBoxes_107 : decode cX8_readBoxes 107 = .ok (.lcmp, 1) := by decide +kernel
theorem dX8_readBoxes_108 : decode cX8_readBoxes 108 = .ok (.ifCond .le 5, 3) := by decide +kernel
theorem dX8_readBoxes_111 : decode cX8_readBoxes 111 = .ok (.iconst 0, 1) := by decide +kernel
theorem dX8_readBoxes_112 : decode cX8_readBoxes 112 = .ok (.ireturn, 1) := by decide +kernel
theorem dX8_readBoxes_113 : decode cX8_readBoxes 113 = .ok (.aload_n 1, 1) := by decide +kernel
theorem dX8_readBoxes_114 : decode cX8_readBoxes 114 = .ok (.iload 4, 2) := by decide +kernel
theorem dX8_readBoxes_116 : decode cX8_readBoxes 116 = .ok (.iconst 4, 1) := by decide +kernel
theorem dX8_readBoxes_117 : decode cX8_readBoxes 117 = .ok (.iadd, 1) := by decide +kernel
theorem dX8_readBoxes_118 : decode cX8_readBoxes 118 = .ok (.invokestatic 104, 3) := by decide +kernel
theorem dX8_readBoxes_121 : decode cX8_readBoxes 121 = .ok (.l2i, 1) := by decide +kernel
theorem dX8_readBoxes_122 : decode cX8_readBoxes 122 = .ok (.istore 8, 2) := by decide +kernel
theorem dX8_readBoxes_124 : decode cX8_readBoxes 124 = .ok (.aload_n 0, 1) := by decide +kernel
theorem dX8_readBoxes_125 : decode cX8_readBoxes 125 = .ok (.getfield 95, 3) := by decide +kernel
theorem dX8_readBoxes_128 : decode cX8_readBoxes 128 = .ok (.bipush 60, 2) := by decide +kernel
theorem dX8_readBoxes_130 : decode cX8_readBoxes 130 = .ok (.if_icmp .ge 7, 3) := by decide +kernel
theorem dX8_readBoxes_133 : decode cX8_readBoxes 133 = .ok (.iconst 1, 1) := by decide +kernel
theorem dX8_readBoxes_134 : decode cX8_readBoxes 134 = .ok (.goto 4, 3) := by decide +kernel
theorem dX8_readBoxes_137 : decode cX8_readBoxes 137 = .ok (.iconst 0, 1) := by decide +kernel
theorem dX8_readBoxes_138 : decode cX8_readBoxes 138 = .ok (.istore 9, 2) := by decide +kernel
theorem dX8_readBoxes_140 : decode cX8_readBoxes 140 = .ok (.aload_n 0, 1) := by decide +kernel
theorem dX8_readBoxes_141 : decode cX8_readBoxes 141 = .ok (.iload 8, 2) := by decide +kernel
theorem dX8_readBoxes_143 : decode cX8_readBoxes 143 = .ok (.iload 4, 2) := by decide +kernel
theorem dX8_readBoxes_145 : decode cX8_readBoxes 145 = .ok (.lload 6, 2) := by decide +kernel
theorem dX8_readBoxes_147 : decode cX8_readBoxes 147 = .ok (.l2i, 1) := by decide +kernel
theorem dX8_readBoxes_148 : decode cX8_readBoxes 148 = .ok (.aload_n 0, 1) := by decide +kernel
theorem dX8_readBoxes_149 : decode cX8_readBoxes 149 = .ok (.getfield 38, 3) := by decide +kernel
theorem dX8_readBoxes_152 : decode cX8_readBoxes 152 = .ok (.iconst 2, 1) := by decide +kernel
theorem dX8_readBoxes_153 : decode cX8_readBoxes 153 = .ok (.iload_n 3, 1) := by decide +kernel
theorem dX8_readBoxes_154 : decode cX8_readBoxes 154 = .ok (.imul, 1) := by decide +kernel
theorem dX8_readBoxes_155 : decode cX8_readBoxes 155 = .ok (.iconst 1, 1) := by decide +kernel
theorem dX8_readBoxes_156 : decode cX8_readBoxes 156 = .ok (.iadd, 1) := by decide +kernel
theorem dX8_readBoxes_157 : decode cX8_readBoxes 157 = .ok (.iaload, 1) := by decide +kernel
theorem dX8_readBoxes_158 : decode cX8_readBoxes 158 = .ok (.invokevirtual 110, 3) := by decide +kernel
theorem dX8_readBoxes_161 : decode cX8_readBoxes 161 = .ok (.iload 9, 2) := by decide +kernel
theorem dX8_readBoxes_163 : decode cX8_readBoxes 163 = .ok (.ifCond .eq 63, 3) := by decide +kernel
theorem dX8_readBoxes_166 : decode cX8_readBoxes 166 = .ok (.iload_n 3, 1) := by decide +kernel
theorem dX8_readBoxes_167 : decode cX8_readBoxes 167 = .ok (.iconst 2, 1) := by decide +kernel
theorem dX8_readBoxes_168 : decode cX8_readBoxes 168 = .ok (.if_icmp .ge 58, 3) := by decide +kernel
theorem dX8_readBoxes_171 : decode cX8_readBoxes 171 = .ok (.iload 8, 2) := by decide +kernel
theorem dX8_readBoxes_173 : decode cX8_readBoxes 173 = .ok (.iload_n 3, 1) := by decide +kernel
theorem dX8_readBoxes_174 : decode cX8_readBoxes 174 = .ok (.ifCond .ne 8, 3) := by decide +kernel
theorem dX8_readBoxes_177 : decode cX8_readBoxes 177 = .ok (.ldc 85, 2) := by decide +kernel
theorem dX8_readBoxes_179 : decode cX8_readBoxes 179 = .ok (.goto 5, 3) := by decide +kernel
theorem dX8_readBoxes_182 : decode cX8_readBoxes 182 = .ok (.ldc 87, 2) := by decide +kernel
theorem dX8_readBoxes_184 : decode cX8_readBoxes 184 = .ok (.if_icmp .ne 42, 3) := by decide +kernel
theorem dX8_readBoxes_187 : decode cX8_readBoxes 187 = .ok (.iinc 3 1, 3) := by decide +kernel
theorem dX8_readBoxes_190 : decode cX8_readBoxes 190 = .ok (.aload_n 0, 1) := by decide +kernel
theorem dX8_readBoxes_191 : decode cX8_readBoxes 191 = .ok (.getfield 38, 3) := by decide +kernel
theorem dX8_readBoxes_194 : decode cX8_readBoxes 194 = .ok (.iconst 2, 1) := by decide +kernel
theorem dX8_readBoxes_195 : decode cX8_readBoxes 195 = .ok (.iload_n 3, 1) := by decide +kernel
theorem dX8_readBoxes_196 : decode cX8_readBoxes 196 = .ok (.imul, 1) := by decide +kernel
theorem dX8_readBoxes_197 : decode cX8_readBoxes 197 = .ok (.iload 4, 2) := by decide +kernel
theorem dX8_readBoxes_199 : decode cX8_readBoxes 199 = .ok (.lload 6, 2) := by decide +kernel
theorem dX8_readBoxes_201 : decode cX8_readBoxes 201 = .ok (.l2i, 1) := by decide +kernel
theorem dX8_readBoxes_202 : decode cX8_readBoxes 202 = .ok (.iadd, 1) := by decide +kernel
theorem dX8_readBoxes_203 : decode cX8_readBoxes 203 = .ok (.iastore, 1) := by decide +kernel
theorem dX8_readBoxes_204 : decode cX8_readBoxes 204 = .ok (.aload_n 0, 1) := by decide +kernel
theorem dX8_readBoxes_205 : decode cX8_readBoxes 205 = .ok (.getfield 38, 3) := by decide +kernel
theorem dX8_readBoxes_208 : decode cX8_readBoxes 208 = .ok (.iconst 2, 1) := by decide +kernel
theorem dX8_readBoxes_209 : decode cX8_readBoxes 209 = .ok (.iload_n 3, 1) := by decide +kernel
theorem dX8_readBoxes_210 : decode cX8_readBoxes 210 = .ok (.imul, 1) := by decide +kernel
theorem dX8_readBoxes_211 : decode cX8_readBoxes 211 = .ok (.iconst 1, 1) := by decide +kernel
theorem dX8_readBoxes_212 : decode cX8_readBoxes 212 = .ok (.iadd, 1) := by decide +kernel
theorem dX8_readBoxes_213 : decode cX8_readBoxes 213 = .ok (.aload_n 0, 1) := by decide +kernel
theorem dX8_readBoxes_214 : decode cX8_readBoxes 214 = .ok (.getfield 95, 3) := by decide +kernel
theorem dX8_readBoxes_217 : decode cX8_readBoxes 217 = .ok (.iconst 1, 1) := by decide +kernel
theorem dX8_readBoxes_218 : decode cX8_readBoxes 218 = .ok (.isub, 1) := by decide +kernel
theorem dX8_readBoxes_219 : decode cX8_readBoxes 219 = .ok (.iastore, 1) := by decide +kernel
theorem dX8_readBoxes_220 : decode cX8_readBoxes 220 = .ok (.iinc 4 8, 3) := by decide +kernel
theorem dX8_readBoxes_223 : decode cX8_readBoxes 223 = .ok (.goto 11, 3) := by decide +kernel
theorem dX8_readBoxes_226 : decode cX8_readBoxes 226 = .ok (.iload 4, 2) := by decide +kernel
theorem dX8_readBoxes_228 : decode cX8_readBoxes 228 = .ok (.lload 6, 2) := by decide +kernel
theorem dX8_readBoxes_230 : decode cX8_readBoxes 230 = .ok (.l2i, 1) := by decide +kernel
theorem dX8_readBoxes_231 : decode cX8_readBoxes 231 = .ok (.iadd, 1) := by decide +kernel
theorem dX8_readBoxes_232 : decode cX8_readBoxes 232 = .ok (.istore 4, 2) := by decide +kernel
theorem dX8_readBoxes_234 : decode cX8_readBoxes 234 = .ok (.goto (-202), 3) := by decide +kernel
theorem dX8_readBoxes_237 : decode cX8_readBoxes 237 = .ok (.iconst 1, 1) := by decide +kernel
theorem dX8_readBoxes_238 : decode cX8_readBoxes 238 = .ok (.ireturn, 1) := by decide +kernel
def FX8_readBoxes (G : GG) (M : DD) (a : Nat) (p0 : Option Nat) (p1 : Int32) : Option (DD × Int32) :=
  ltt (uI M a 11 ((0 : Int32))) fun M1 =>
  bnd (FJ7_fill_53178 G M1 ((M1.2 a 12)) ((-1 : Int32))) fun y2 =>
  dr G 13 ((y2.2 a 13)) fun b3 =>
  chk (¬ (((0 : Int32)) < 0 ∨ G.2.2 b3 ≤ ((0 : Int32)).toNatClampNeg)) <|
  ltt (uI y2 b3 ((0 : Int32)).toNatClampNeg p1) fun M4 =>
  dr G 13 ((M4.2 a 13)) fun b5 =>
  chk (¬ (((1 : Int32)) < 0 ∨ G.2.2 b5 ≤ ((1 : Int32)).toNatClampNeg)) <|
  ltt (uI M4 b5 ((1 : Int32)).toNatClampNeg ((-1 : Int32))) fun M6 =>
  bnd (itr (fun (s8 : Int32 × Int32 × DD) => ((if p1 ≤ s8.2.1 then (some (.inr (.inl (s8.1, s8.2.1, s8.2.2)))) else
  (ltt ((((2 : Int32)) * s8.1)) fun x12 =>
  dr G 13 ((s8.2.2.2 a 13)) fun b13 =>
  chk (¬ (x12 < 0 ∨ G.2.2 b13 ≤ x12.toNatClampNeg)) <|
  ltt (s8.2.2.1 b13 x12.toNatClampNeg) fun x14 =>
  if s8.2.1 = x14 then (if s8.1 ≤ ((0 : Int32)) then (ltt ((((2 : Int32)) * s8.1)) fun x67 =>
  chk (¬ (x67 < 0 ∨ G.2.2 b13 ≤ x67.toNatClampNeg)) <|
  ltt (s8.2.2.1 b13 x67.toNatClampNeg) fun x68 =>
  ltt ((x68 - s8.2.1)) fun x69 =>
  bnd (if ((8 : Int32)) ≤ x69 then (bnd (FX8_number4 G s8.2.2 p0 s8.2.1) fun y116 =>
  some (y116.2, y116.1)) else
  (some ((0 : Int64), s8.2.2))) fun (y70 : Int64 × DD) =>
  ltt (lg_cmp y70.1 ((8 : Int64))) fun x71 =>
  if x71 < ((0 : Int32)) then (chk (((0 : Int32)) = 0 ∨ ((0 : Int32)) = 1) <|
  some (.inr (.inr (y70.2, (0 : Int32))))) else
  (ltt (x69.toInt64) fun x73 =>
  ltt (lg_cmp y70.1 x73) fun x74 =>
  if x74 ≤ ((0 : Int32)) then (ltt ((s8.2.1 + ((4 : Int32)))) fun x76 =>
  bnd (FX8_number4 G y70.2 p0 x76) fun y77 =>
  ltt (y77.2.toInt32) fun x78 =>
  ltt (y77.1.1 a 11) fun x79 =>
  bnd (if ((60 : Int32)) ≤ x79 then (some ((0 : Int32))) else
  (some ((1 : Int32)))) fun (y80 : Int32) =>
  ltt (y70.1.toInt32) fun x81 =>
  ltt ((((2 : Int32)) * s8.1)) fun x82 =>
  ltt ((x82 + ((1 : Int32)))) fun x83 =>
  dr G 13 ((y77.1.2 a 13)) fun b84 =>
  chk (¬ (x83 < 0 ∨ G.2.2 b84 ≤ x83.toNatClampNeg)) <|
  ltt (y77.1.1 b84 x83.toNatClampNeg) fun x85 =>
  bnd (FX8_noteBox G y77.1 a x78 s8.2.1 x81 x85) fun y86 =>
  bnd (if y80 = ((0 : Int32)) then (ltt (y70.1.toInt32) fun x89 =>
  ltt ((s8.2.1 + x89)) fun x90 =>
  some (s8.1, x90, y86)) else
  (bnd (if ((2 : Int32)) ≤ s8.1 then (ltt (y70.1.toInt32) fun x93 =>
  ltt ((s8.2.1 + x93)) fun x94 =>
  some (s8.1, x94, y86)) else
  (bnd (if s8.1 = ((0 : Int32)) then (some ((1836019574 : Int32))) else
  (some ((1953653099 : Int32)))) fun (y95 : Int32) =>
  bnd (if x78 = y95 then (ltt (s8.1 + (1 : Int32)) fun x100 =>
  ltt ((((2 : Int32)) * x100)) fun x101 =>
  ltt (y70.1.toInt32) fun x102 =>
  ltt ((s8.2.1 + x102)) fun x103 =>
  dr G 13 ((y86.2 a 13)) fun b104 =>
  chk (¬ (x101 < 0 ∨ G.2.2 b104 ≤ x101.toNatClampNeg)) <|
  ltt (uI y86 b104 x101.toNatClampNeg x103) fun M105 =>
  ltt ((((2 : Int32)) * x100)) fun x106 =>
  ltt ((x106 + ((1 : Int32)))) fun x107 =>
  ltt (M105.1 a 11) fun x108 =>
  ltt ((x108 - ((1 : Int32)))) fun x109 =>
  dr G 13 ((M105.2 a 13)) fun b110 =>
  chk (¬ (x107 < 0 ∨ G.2.2 b110 ≤ x107.toNatClampNeg)) <|
  ltt (uI M105 b110 x107.toNatClampNeg x109) fun M111 =>
  ltt (s8.2.1 + (8 : Int32)) fun x112 =>
  some (x100, x112, M111)) else
  (ltt (y70.1.toInt32) fun x98 =>
  ltt ((s8.2.1 + x98)) fun x99 =>
  some (s8.1, x99, y86))) fun (y96 : Int32 × Int32 × DD) =>
  some (y96.1, y96.2.1, y96.2.2))) fun (y91 : Int32 × Int32 × DD) =>
  some (y91.1, y91.2.1, y91.2.2))) fun (y87 : Int32 × Int32 × DD) =>
  some (.inl (y87.1, y87.2.1, y87.2.2))) else
  (chk (((0 : Int32)) = 0 ∨ ((0 : Int32)) = 1) <|
  some (.inr (.inr (y70.2, (0 : Int32))))))) else
  (ltt (s8.1 + (-1 : Int32)) fun x117 =>
  some (.inl (x117, s8.2.1, s8.2.2)))) else
  (ltt ((((2 : Int32)) * s8.1)) fun x16 =>
  chk (¬ (x16 < 0 ∨ G.2.2 b13 ≤ x16.toNatClampNeg)) <|
  ltt (s8.2.2.1 b13 x16.toNatClampNeg) fun x17 =>
  ltt ((x17 - s8.2.1)) fun x18 =>
  bnd (if ((8 : Int32)) ≤ x18 then (bnd (FX8_number4 G s8.2.2 p0 s8.2.1) fun y65 =>
  some (y65.2, y65.1)) else
  (some ((0 : Int64), s8.2.2))) fun (y19 : Int64 × DD) =>
  ltt (lg_cmp y19.1 ((8 : Int64))) fun x20 =>
  if x20 < ((0 : Int32)) then (chk (((0 : Int32)) = 0 ∨ ((0 : Int32)) = 1) <|
  some (.inr (.inr (y19.2, (0 : Int32))))) else
  (ltt (x18.toInt64) fun x22 =>
  ltt (lg_cmp y19.1 x22) fun x23 =>
  if x23 ≤ ((0 : Int32)) then (ltt ((s8.2.1 + ((4 : Int32)))) fun x25 =>
  bnd (FX8_number4 G y19.2 p0 x25) fun y26 =>
  ltt (y26.2.toInt32) fun x27 =>
  ltt (y26.1.1 a 11) fun x28 =>
  bnd (if ((60 : Int32)) ≤ x28 then (some ((0 : Int32))) else
  (some ((1 : Int32)))) fun (y29 : Int32) =>
  ltt (y19.1.toInt32) fun x30 =>
  ltt ((((2 : Int32)) * s8.1)) fun x31 =>
  ltt ((x31 + ((1 : Int32)))) fun x32 =>
  dr G 13 ((y26.1.2 a 13)) fun b33 =>
  chk (¬ (x32 < 0 ∨ G.2.2 b33 ≤ x32.toNatClampNeg)) <|
  ltt (y26.1.1 b33 x32.toNatClampNeg) fun x34 =>
  bnd (FX8_noteBox G y26.1 a x27 s8.2.1 x30 x34) fun y35 =>
  bnd (if y29 = ((0 : Int32)) then (ltt (y19.1.toInt32) fun x38 =>
  ltt ((s8.2.1 + x38)) fun x39 =>
  some (s8.1, x39, y35)) else
  (bnd (if ((2 : Int32)) ≤ s8.1 then (ltt (y19.1.toInt32) fun x42 =>
  ltt ((s8.2.1 + x42)) fun x43 =>
  some (s8.1, x43, y35)) else
  (bnd (if s8.1 = ((0 : Int32)) then (some ((1836019574 : Int32))) else
  (some ((1953653099 : Int32)))) fun (y44 : Int32) =>
  bnd (if x27 = y44 then (ltt (s8.1 + (1 : Int32)) fun x49 =>
  ltt ((((2 : Int32)) * x49)) fun x50 =>
  ltt (y19.1.toInt32) fun x51 =>
  ltt ((s8.2.1 + x51)) fun x52 =>
  dr G 13 ((y35.2 a 13)) fun b53 =>
  chk (¬ (x50 < 0 ∨ G.2.2 b53 ≤ x50.toNatClampNeg)) <|
  ltt (uI y35 b53 x50.toNatClampNeg x52) fun M54 =>
  ltt ((((2 : Int32)) * x49)) fun x55 =>
  ltt ((x55 + ((1 : Int32)))) fun x56 =>
  ltt (M54.1 a 11) fun x57 =>
  ltt ((x57 - ((1 : Int32)))) fun x58 =>
  dr G 13 ((M54.2 a 13)) fun b59 =>
  chk (¬ (x56 < 0 ∨ G.2.2 b59 ≤ x56.toNatClampNeg)) <|
  ltt (uI M54 b59 x56.toNatClampNeg x58) fun M60 =>
  ltt (s8.2.1 + (8 : Int32)) fun x61 =>
  some (x49, x61, M60)) else
  (ltt (y19.1.toInt32) fun x47 =>
  ltt ((s8.2.1 + x47)) fun x48 =>
  some (s8.1, x48, y35))) fun (y45 : Int32 × Int32 × DD) =>
  some (y45.1, y45.2.1, y45.2.2))) fun (y40 : Int32 × Int32 × DD) =>
  some (y40.1, y40.2.1, y40.2.2))) fun (y36 : Int32 × Int32 × DD) =>
  some (.inl (y36.1, y36.2.1, y36.2.2))) else
  (chk (((0 : Int32)) = 0 ∨ ((0 : Int32)) = 1) <|
  some (.inr (.inr (y19.2, (0 : Int32))))))))) : Option ((Int32 × Int32 × DD) ⊕ ((Int32 × Int32 × DD) ⊕ (DD × Int32))))) 1000000 ((0 : Int32), (0 : Int32), M6)) fun (y7 : (Int32 × Int32 × DD) ⊕ (DD × Int32)) =>
  sel y7 (fun (z7k : Int32 × Int32 × DD) =>
  chk (((1 : Int32)) = 0 ∨ ((1 : Int32)) = 1) <|
  some (z7k.2.2, (1 : Int32))) fun r9 => some r9
set_option maxHeartbeats 4000000 in
set_option maxRecDepth 100000 in
theorem kX8_readBoxes (l : Launch) (D : va_G) (ct : CT) (ad : Nat → Nat) (Z : Nat → Nat) (G : GG) (M : DD) (sz : Nat) (a : Nat) (p0 : Option Nat) (p1 : Int32) (y : DD × Int32) (hc : a < G.1) (hk : G.2.1 a = 8) (hF : FX8_readBoxes G M a p0 p1 = some y) : Met l yX8_readBoxes wsX8_readBoxes ({ frames := 1, cells := 0, slots := 0, locals := 25 }) (va_Pc [.ref (ad a), va_re ad p0, .int p1] (kB D ct ad Z G M sz)) (va_Qi (fun (q : Int32) (_ : Unit) => q = y.2) (fun _ t => kE D ct ad G (wA ad G sz) y.1 t) (wA ad G sz)) 0 0 (wA ad G sz) := by
  refine Met.ofW (cc := cX8_readBoxes) (maxL := 10) (ret := (some .boolean)) (by decide) rfl ?_
  intro p e s m args below meth c s₁ B hml hv
  obtain ⟨rfl, hsz, hP, hK, hD0, hZ, hN⟩ := hv
  have hx := B.exec
  have hb := B.bytes
  have hr := B.returns
  have hts := atoms_spec (ws := wsX8_readBoxes) B.pre
  have hown : s.vm.findClass RX8 = some m.cls := findClass_of_methodNamed B.named
  have hlocks := B.notSynchronized
  subst hsz
  have hD := wD_self (sz := s.heap.size) hD0
  have hA9 : ∀ q, s.heap.size ≤ q → wA ad G s.heap.size q := fun q h => Or.inr h
  generalize hAe : wA ad G s.heap.size = A at hD hA9 hZ ⊢
  have hS : va_S A s.heap s.heap [] := va_S.rf
  have hl := lv_entry ([.ref (ad a), va_re ad p0, .int p1]) (n := 10) (by cases p0 <;> exact Nat.le_of_ble_eq_true rfl)
  rw [lg_entry_eq]
  generalize (lg_sl ([.ref (ad a), va_re ad p0, .int p1]) ++ List.replicate (10 - (lg_sl ([.ref (ad a), va_re ad p0, .int p1])).length) Slot.unset).toArray = ls at hl ⊢
  have hl : lv_has ls 10 [(0, .ref (ad a)), (1, va_re ad p0), (2, .int p1)] := by have e9 : lv_args 0 [.ref (ad a), va_re ad p0, .int p1] = [(0, .ref (ad a)), (1, va_re ad p0), (2, .int p1)] := (by cases p0 <;> rfl); rw [e9] at hl; exact hl
  unfold FX8_readBoxes at hF
  refine lv_aload_n hx hb dX8_readBoxes_0 rfl (lv_at hl 0 rfl) ?_
  refine lv_iconst (v := (0 : Int32)) hx hb dX8_readBoxes_1 (by decide) ?_
  refine va_put (D := D) (ci := 8) (v := .int (0 : Int32)) (ty := .int) (C := RX8) (T := TX8) (N := 15) hx hb hts (by decide +kernel) tyX8 tyX8_ok nmX8 hown hK hP hD hS a (wld_o ct ad G M hc hk (by decide)) rfl 11 (by decide) (hts (.fieldLink RX8 95 "VideoSuite$Units" "boxCount" "I") (by decide +kernel)) (fun _ h9 => h9) rfl (by decide +kernel) rfl rfl (Nat.le_of_ble_eq_true rfl) dX8_readBoxes_2 (fun H locs hP hD hS => ?_)
  obtain ⟨M1, eM1, hF⟩ := ltt_some hF
  rw [set_oI ct ad G M hc hk (by decide) (by rfl), ← eM1] at hP hD
  refine lv_aload_n hx hb dX8_readBoxes_5 rfl (lv_at hl 0 rfl) ?_
  refine va_get (D := D) (ci := 8) (v := va_re ad (M1.2 a 12)) (C := RX8) (T := TX8) (N := 15) hx hb hts (by decide +kernel) hown hK hP a (wld_o ct ad G M1 hc hk (by decide)) rfl 12 (by decide) (hts (.fieldLink RX8 35 "VideoSuite$Units" "table" "[I") (by decide +kernel)) (fun _ h9 => h9) rfl dX8_readBoxes_6 ?_
  refine lv_iconst (v := (-1 : Int32)) hx hb dX8_readBoxes_9 (by decide) ?_
  obtain ⟨y2, hy2, hF⟩ := bnd_some hF
  have hf9 := wA_in hD hA9 hS
  refine va_callv (va_runS (As := [va_re ad (M1.2 a 12), .int (-1 : Int32)]) (rest := []) ⟨hx, hb, hml, hown, hts⟩ (kJ7_fill_53178 l D ct ad Z G M1 H.size ((M1.2 a 12)) ((-1 : Int32)) y2 hy2) (va_cwS 2 hts gX8_readBoxes_J7_fill_53178 rfl rfl rfl (by decide +kernel) ⟨Nat.le_of_ble_eq_true rfl, Nat.le_of_ble_eq_true rfl⟩) ⟨fun a U g mk q => by obtain ⟨q0, q1, qP, qK, qD, qZ, qN⟩ := q; exact ⟨q0, q1, qP, va_K.moved (u := U) (U := U.calling g mk a) (Vm.Alike.refl U.vm) qK, qD, sF.moved (u := U) (U := U.calling g mk a) (Vm.Alike.refl U.vm) qZ, nF.same rfl qN⟩, fun U hU hW => ⟨rfl, by rw [hU], by rw [hU]; exact hP, va_K.moved hW.alike hK, hD.weaken (fun _ _ _ _ => trivial), by rw [hU]; exact ((hZ.kept hS.2.1).narrow hf9).moved hW.alike, hN.warm hW⟩⟩ rfl rfl hl.1 rfl (lv_room (Nat.le_of_ble_eq_true rfl)) dX8_readBoxes_10 ⟨(Nat.zero_le _), (Nat.zero_le _)⟩) hS (fun q _ h => hf9 q h) hf9 (fun u t H locs ht hvm hw hB hz1 hk1 hS => ?_)
  obtain ⟨hP, hK9, hD9⟩ := hB
  rw [ht] at hP
  have hD := hD9.weaken (fun _ q _ h => hf9 q.1 h)
  refine lv_iconst (v := (0 : Int32)) hx hb dX8_readBoxes_13 (by decide) ?_
  refine lv_istore_n (lv' := [(3, .int (0 : Int32)), (0, .ref (ad a)), (1, va_re ad p0), (2, .int p1)]) hx hb dX8_readBoxes_14 rfl hl (by decide) rfl (fun ls hl => ?_)
  refine lv_iconst (v := (0 : Int32)) hx hb dX8_readBoxes_15 (by decide) ?_
  refine lv_istore (lv' := [(4, .int (0 : Int32)), (3, .int (0 : Int32)), (0, .ref (ad a)), (1, va_re ad p0), (2, .int p1)]) hx hb dX8_readBoxes_16 hl (by decide) rfl (fun ls hl => ?_)
  refine lv_aload_n hx hb dX8_readBoxes_18 rfl (lv_at hl 2 rfl) ?_
  refine va_get (D := D) (ci := 8) (v := va_re ad (y2.2 a 13)) (C := RX8) (T := TX8) (N := 15) hx hb hts (by decide +kernel) hown hK hP a (wld_o ct ad G y2 hc hk (by decide)) rfl 13 (by decide) (hts (.fieldLink RX8 38 "VideoSuite$Units" "nest" "[I") (by decide +kernel)) (fun _ h9 => h9) rfl dX8_readBoxes_19 ?_
  refine lv_iconst (v := (0 : Int32)) hx hb dX8_readBoxes_22 (by decide) ?_
  refine lv_iload_n hx hb dX8_readBoxes_23 rfl (lv_at hl 4 rfl) ?_
  obtain ⟨b3, ho3, hc3, hk3, hF⟩ := dr_some hF
  refine W_st (st' := [.int p1, .int (0 : Int32), .ref (ad b3)]) (by rw [va_some ho3]) ?_
  obtain ⟨hvc, hF⟩ := chk_some hF
  refine va_iast hx hb hK hP hD hS b3 1 (wld_i ct ad G y2 hc3 hk3) rfl hvc dX8_readBoxes_24 (fun H locs hP hD hS => ?_)
  obtain ⟨M4, eM4, hF⟩ := ltt_some hF
  rw [set_i ct ad G y2 hc3 hk3, ← eM4] at hP hD
  refine lv_aload_n hx hb dX8_readBoxes_25 rfl (lv_at hl 2 rfl) ?_
  refine va_get (D := D) (ci := 8) (v := va_re ad (M4.2 a 13)) (C := RX8) (T := TX8) (N := 15) hx hb hts (by decide +kernel) hown hK hP a (wld_o ct ad G M4 hc hk (by decide)) rfl 13 (by decide) (hts (.fieldLink RX8 38 "VideoSuite$Units" "nest" "[I") (by decide +kernel)) (fun _ h9 => h9) rfl dX8_readBoxes_26 ?_
  refine lv_iconst (v := (1 : Int32)) hx hb dX8_readBoxes_29 (by decide) ?_
  refine lv_iconst (v := (-1 : Int32)) hx hb dX8_readBoxes_30 (by decide) ?_
  obtain ⟨b5, ho5, hc5, hk5, hF⟩ := dr_some hF
  refine W_st (st' := [.int (-1 : Int32), .int (1 : Int32), .ref (ad b5)]) (by rw [va_some ho5]) ?_
  obtain ⟨hvc, hF⟩ := chk_some hF
  refine va_iast hx hb hK hP hD hS b5 1 (wld_i ct ad G M4 hc5 hk5) rfl hvc dX8_readBoxes_31 (fun H locs hP hD hS => ?_)
  obtain ⟨M6, eM6, hF⟩ := ltt_some hF
  rw [set_i ct ad G M4 hc5 hk5, ← eM6] at hP hD
  obtain ⟨y7, hy7, hF⟩ := bnd_some hF
  have K7 : ∀ z7k : Int32 × Int32 × DD, y7 = .inl z7k → ∀ (H : Heap) (locs : List Loc) (ls : Array Slot), va_P D classes (wld ct ad G z7k.2.2) H → va_D A (wld ct ad G z7k.2.2) → va_S A s.heap H locs → lv_has ls 10 [(4, .int z7k.2.1), (3, .int z7k.1), (0, .ref (ad a)), (1, va_re ad p0), (2, .int p1)] → W p l e (headSpec wsX8_readBoxes ({ frames := 1, cells := 0, slots := 0, locals := 25 })).room s m ([.ref (ad a), va_re ad p0, .int p1] : List Value).toArray below meth c H locs 0 0 (MQ below (va_Qi (fun (q : Int32) (_ : Unit) => q = y.2) (fun _ t => kE D ct ad G A y.1 t) A) ([.ref (ad a), va_re ad p0, .int p1] : List Value).toArray s 0 0 A) (F0 m 237 ls []) := by
    intro z7k hz7 H locs ls hP hD hS hl
    have hF := sel_inl (hz7 ▸ hF)
    refine lv_iconst (v := (1 : Int32)) hx hb dX8_readBoxes_237 (by decide) ?_
    obtain ⟨hz9, hF⟩ := chk_some hF
    obtain rfl := Option.some.inj hF
    exact W.zret (v := (1 : Int32)) (ty := .boolean) hx hb hr (nar_z hz9).1 (fun t ht hW => ⟨⟨_, (), rfl, rfl, ⟨by rw [ht]; exact hP, va_K.moved hW.alike hK, hD⟩⟩, hS.F ht⟩) hS.2.2 dX8_readBoxes_238
  have hR7 := hF
  clear hF
  refine itr_rule (fun (s8 : Int32 × Int32 × DD) => ∀ (H : Heap) (locs : List Loc) (ls : Array Slot), va_P D classes (wld ct ad G s8.2.2) H → va_D A (wld ct ad G s8.2.2) → va_S A s.heap H locs → lv_has ls 10 [(4, .int s8.2.1), (3, .int s8.1), (0, .ref (ad a)), (1, va_re ad p0), (2, .int p1)] → W p l e (headSpec wsX8_readBoxes ({ frames := 1, cells := 0, slots := 0, locals := 25 })).room s m ([.ref (ad a), va_re ad p0, .int p1] : List Value).toArray below meth c H locs 0 0 (MQ below (va_Qi (fun (q : Int32) (_ : Unit) => q = y.2) (fun _ t => kE D ct ad G A y.1 t) A) ([.ref (ad a), va_re ad p0, .int p1] : List Value).toArray s 0 0 A) (F0 m 32 ls [])) ?_ _ _ hy7 _ _ _ hP hD hS (lv_sub hl [0, 1, 2, 3, 4] rfl)
  rintro s8 ⟨z10, hF, hwz10⟩ H locs ls hP hD hS hl
  try dsimp only at hF
  refine lv_iload hx hb dX8_readBoxes_32 (lv_at hl 0 rfl) ?_
  refine lv_iload_n hx hb dX8_readBoxes_34 rfl (lv_at hl 4 rfl) ?_
  refine lv_icmp_ge (tgt := 237) hx hb dX8_readBoxes_35 (by decide) (fun c11 => ?_) (fun c11 => ?_)
  · rw [if_pos c11] at hF
    obtain rfl := Option.some.inj hF
    exact K7 _ hwz10.symm _ _ _ hP hD hS (lv_sub hl [0, 1, 2, 3, 4] rfl)
  · rw [if_neg c11] at hF
    refine lv_iload hx hb dX8_readBoxes_38 (lv_at hl 0 rfl) ?_
    refine lv_aload_n hx hb dX8_readBoxes_40 rfl (lv_at hl 2 rfl) ?_
    refine va_get (D := D) (ci := 8) (v := va_re ad (s8.2.2.2 a 13)) (C := RX8) (T := TX8) (N := 15) hx hb hts (by decide +kernel) hown hK hP a (wld_o ct ad G s8.2.2 hc hk (by decide)) rfl 13 (by decide) (hts (.fieldLink RX8 38 "VideoSuite$Units" "nest" "[I") (by decide +kernel)) (fun _ h9 => h9) rfl dX8_readBoxes_41 ?_
    refine lv_iconst (v := (2 : Int32)) hx hb dX8_readBoxes_44 (by decide) ?_
    refine lv_iload_n hx hb dX8_readBoxes_45 rfl (lv_at hl 1 rfl) ?_
    refine lv_imul hx hb dX8_readBoxes_46 ?_
    obtain ⟨x12, ex12, hF⟩ := ltt_some hF
    refine lv_topi (fun zx12 ezx12 => ?_)
    obtain rfl : x12 = zx12 := ex12.trans ezx12.symm
    obtain ⟨b13, ho13, hc13, hk13, hF⟩ := dr_some hF
    refine W_st (st' := [.int x12, .ref (ad b13), .int s8.2.1]) (by rw [va_some ho13]) ?_
    obtain ⟨hvc, hF⟩ := chk_some hF
    refine va_iald hx hb hK hP b13 1 (wld_i ct ad G s8.2.2 hc13 hk13) rfl hvc dX8_readBoxes_47 ?_
    obtain ⟨x14, ex14, hF⟩ := ltt_some hF
    refine lv_topi (fun zx14 ezx14 => ?_)
    obtain rfl : x14 = zx14 := ex14.trans ezx14.symm
    refine lv_icmp_ne (tgt := 61) hx hb dX8_readBoxes_48 (by decide) (fun c15 => ?_) (fun c15 => ?_)
    · rw [if_neg c15] at hF
      refine lv_aload_n hx hb dX8_readBoxes_61 rfl (lv_at hl 2 rfl) ?_
      refine va_get (D := D) (ci := 8) (v := va_re ad (s8.2.2.2 a 13)) (C := RX8) (T := TX8) (N := 15) hx hb hts (by decide +kernel) hown hK hP a (wld_o ct ad G s8.2.2 hc hk (by decide)) rfl 13 (by decide) (hts (.fieldLink RX8 38 "VideoSuite$Units" "nest" "[I") (by decide +kernel)) (fun _ h9 => h9) rfl dX8_readBoxes_62 ?_
      refine lv_iconst (v := (2 : Int32)) hx hb dX8_readBoxes_65 (by decide) ?_
      refine lv_iload_n hx hb dX8_readBoxes_66 rfl (lv_at hl 1 rfl) ?_
      refine lv_imul hx hb dX8_readBoxes_67 ?_
      obtain ⟨x16, ex16, hF⟩ := ltt_some hF
      refine lv_topi (fun zx16 ezx16 => ?_)
      obtain rfl : x16 = zx16 := ex16.trans ezx16.symm
      refine W_st (st' := [.int x16, .ref (ad b13)]) (by rw [va_some ho13]) ?_
      obtain ⟨hvc, hF⟩ := chk_some hF
      refine va_iald hx hb hK hP b13 1 (wld_i ct ad G s8.2.2 hc13 hk13) rfl hvc dX8_readBoxes_68 ?_
      obtain ⟨x17, ex17, hF⟩ := ltt_some hF
      refine lv_topi (fun zx17 ezx17 => ?_)
      obtain rfl : x17 = zx17 := ex17.trans ezx17.symm
      refine lv_iload hx hb dX8_readBoxes_69 (lv_at hl 0 rfl) ?_
      refine lv_isub hx hb dX8_readBoxes_71 ?_
      obtain ⟨x18, ex18, hF⟩ := ltt_some hF
      refine lv_topi (fun zx18 ezx18 => ?_)
      obtain rfl : x18 = zx18 := ex18.trans ezx18.symm
      refine lv_istore (lv' := [(5, .int x18), (4, .int s8.2.1), (3, .int s8.1), (0, .ref (ad a)), (1, va_re ad p0), (2, .int p1)]) hx hb dX8_readBoxes_72 hl (by decide) rfl (fun ls hl => ?_)
      refine lv_iload hx hb dX8_readBoxes_74 (lv_at hl 0 rfl) ?_
      refine lv_bipush (v := (8 : Int32)) hx hb dX8_readBoxes_76 (by decide) ?_
      obtain ⟨y19, hy19, hF⟩ := bnd_some hF
      have J19 : ∀ (H : Heap) (locs : List Loc) (ls : Array Slot), va_P D classes (wld ct ad G y19.2) H → va_D A (wld ct ad G y19.2) → va_S A s.heap H locs → lv_has ls 10 [(5, .int x18), (4, .int s8.2.1), (3, .int s8.1), (0, .ref (ad a)), (1, va_re ad p0), (2, .int p1)] → W p l e (headSpec wsX8_readBoxes ({ frames := 1, cells := 0, slots := 0, locals := 25 })).room s m ([.ref (ad a), va_re ad p0, .int p1] : List Value).toArray below meth c H locs 0 0 (MQ below (va_Qi (fun (q : Int32) (_ : Unit) => q = y.2) (fun _ t => kE D ct ad G A y.1 t) A) ([.ref (ad a), va_re ad p0, .int p1] : List Value).toArray s 0 0 A) (F0 m 91 ls [.long y19.1]) := by
        intro H locs ls hP hD hS hl
        refine lv_lstore (lv' := [(6, .long y19.1), (5, .int x18), (4, .int s8.2.1), (3, .int s8.1), (0, .ref (ad a)), (1, va_re ad p0), (2, .int p1)]) hx hb dX8_readBoxes_91 hl (by decide) rfl (fun ls hl => ?_)
        refine lv_lload hx hb dX8_readBoxes_93 (lv_at hl 0 rfl) ?_
        refine lv_ldc2 (v := (8 : Int64)) hx hb hown (hts (.constantLong RX8 108 (8 : Int64)) (by decide +kernel)) dX8_readBoxes_95 ?_
        refine W.lcmp hx hb dX8_readBoxes_98 ?_
        obtain ⟨x20, ex20, hF⟩ := ltt_some hF
        refine lv_topi (fun zx20 ezx20 => ?_)
        obtain rfl : x20 = zx20 := ex20.trans ezx20.symm
        refine lv_if_lt (tgt := 111) hx hb dX8_readBoxes_99 (by decide) (fun c21 => ?_) (fun c21 => ?_)
        · rw [if_pos c21] at hF
          refine lv_iconst (v := (0 : Int32)) hx hb dX8_readBoxes_111 (by decide) ?_
          obtain ⟨hz9, hF⟩ := chk_some hF
          obtain rfl := Option.some.inj hF
          have hF := sel_inr (hwz10 ▸ hR7)
          obtain rfl := Option.some.inj hF
          exact W.zret (v := (0 : Int32)) (ty := .boolean) hx hb hr (nar_z hz9).1 (fun t ht hW => ⟨⟨_, (), rfl, rfl, ⟨by rw [ht]; exact hP, va_K.moved hW.alike hK, hD⟩⟩, hS.F ht⟩) hS.2.2 dX8_readBoxes_112
        · rw [if_neg c21] at hF
          refine lv_lload hx hb dX8_readBoxes_102 (lv_at hl 0 rfl) ?_
          refine lv_iload hx hb dX8_readBoxes_104 (lv_at hl 1 rfl) ?_
          refine lv_i2l (v := x18.toInt64) hx hb dX8_readBoxes_106 rfl ?_
          obtain ⟨x22, ex22, hF⟩ := ltt_some hF
          refine lv_topl (fun zx22 ezx22 => ?_)
          obtain rfl : x22 = zx22 := ex22.trans ezx22.symm
          refine W.lcmp hx hb dX8_readBoxes_107 ?_
          obtain ⟨x23, ex23, hF⟩ := ltt_some hF
          refine lv_topi (fun zx23 ezx23 => ?_)
          obtain rfl : x23 = zx23 := ex23.trans ezx23.symm
          refine lv_if_le (tgt := 113) hx hb dX8_readBoxes_108 (by decide) (fun c24 => ?_) (fun c24 => ?_)
          · rw [if_pos c24] at hF
            refine lv_aloadq_n hx hb dX8_readBoxes_113 rfl (lv_at hl 5 rfl) ?_
            refine lv_iload hx hb dX8_readBoxes_114 (lv_at hl 2 rfl) ?_
            refine lv_iconst (v := (4 : Int32)) hx hb dX8_readBoxes_116 (by decide) ?_
            refine lv_iadd hx hb dX8_readBoxes_117 ?_
            obtain ⟨x25, ex25, hF⟩ := ltt_some hF
            refine lv_topi (fun zx25 ezx25 => ?_)
            obtain rfl : x25 = zx25 := ex25.trans ezx25.symm
            obtain ⟨y26, hy26, hF⟩ := bnd_some hF
            have hf9 := wA_in hD hA9 hS
            refine va_calll (va_runS (As := [va_re ad p0, .int x25]) (rest := []) ⟨hx, hb, hml, hown, hts⟩ (kX8_number4 l D ct ad Z G y19.2 H.size p0 x25 y26 hy26) (va_cwS 2 hts gX8_readBoxes_X8_number4 rfl rfl rfl (by decide +kernel) ⟨Nat.le_of_ble_eq_true rfl, Nat.le_of_ble_eq_true rfl⟩) ⟨fun a U g mk q => by obtain ⟨q0, q1, qP, qK, qD, qZ, qN⟩ := q; exact ⟨q0, q1, qP, va_K.moved (u := U) (U := U.calling g mk a) (Vm.Alike.refl U.vm) qK, qD, sF.moved (u := U) (U := U.calling g mk a) (Vm.Alike.refl U.vm) qZ, nF.same rfl qN⟩, fun U hU hW => ⟨rfl, by rw [hU], by rw [hU]; exact hP, va_K.moved hW.alike hK, hD.weaken (fun _ _ _ _ => trivial), by rw [hU]; exact ((hZ.kept hS.2.1).narrow hf9).moved hW.alike, hN.warm hW⟩⟩ rfl rfl hl.1 rfl (lv_room (Nat.le_of_ble_eq_true rfl)) dX8_readBoxes_118 ⟨(Nat.zero_le _), (Nat.zero_le _)⟩) hS (fun q _ h => hf9 q h) hf9 (fun r u t H locs ht hvm hw hB hz1 hk1 hS => ?_)
            obtain ⟨hP, hK9, hD9⟩ := hB
            rw [ht] at hP
            try dsimp only at hw
            subst hw
            have hD := hD9.weaken (fun _ q _ h => hf9 q.1 h)
            refine lv_l2i (v := y26.2.toInt32) hx hb dX8_readBoxes_121 rfl ?_
            obtain ⟨x27, ex27, hF⟩ := ltt_some hF
            refine lv_topi (fun zx27 ezx27 => ?_)
            obtain rfl : x27 = zx27 := ex27.trans ezx27.symm
            refine lv_istore (lv' := [(8, .int x27), (6, .long y19.1), (5, .int x18), (4, .int s8.2.1), (3, .int s8.1), (0, .ref (ad a)), (1, va_re ad p0), (2, .int p1)]) hx hb dX8_readBoxes_122 hl (by decide) rfl (fun ls hl => ?_)
            refine lv_aload_n hx hb dX8_readBoxes_124 rfl (lv_at hl 5 rfl) ?_
            refine va_get (D := D) (ci := 8) (v := .int (y26.1.1 a 11)) (C := RX8) (T := TX8) (N := 15) hx hb hts (by decide +kernel) hown hK hP a (wld_o ct ad G y26.1 hc hk (by decide)) rfl 11 (by decide) (hts (.fieldLink RX8 95 "VideoSuite$Units" "boxCount" "I") (by decide +kernel)) (fun _ h9 => h9) rfl dX8_readBoxes_125 ?_
            obtain ⟨x28, ex28, hF⟩ := ltt_some hF
            refine lv_topi (fun zx28 ezx28 => ?_)
            obtain rfl : x28 = zx28 := ex28.trans ezx28.symm
            refine lv_bipush (v := (60 : Int32)) hx hb dX8_readBoxes_128 (by decide) ?_
            obtain ⟨y29, hy29, hF⟩ := bnd_some hF
            have J29 : ∀ (H : Heap) (locs : List Loc) (ls : Array Slot), va_P D classes (wld ct ad G y26.1) H → va_D A (wld ct ad G y26.1) → va_S A s.heap H locs → lv_has ls 10 [(8, .int x27), (6, .long y19.1), (5, .int x18), (4, .int s8.2.1), (3, .int s8.1), (0, .ref (ad a)), (1, va_re ad p0), (2, .int p1)] → W p l e (headSpec wsX8_readBoxes ({ frames := 1, cells := 0, slots := 0, locals := 25 })).room s m ([.ref (ad a), va_re ad p0, .int p1] : List Value).toArray below meth c H locs 0 0 (MQ below (va_Qi (fun (q : Int32) (_ : Unit) => q = y.2) (fun _ t => kE D ct ad G A y.1 t) A) ([.ref (ad a), va_re ad p0, .int p1] : List Value).toArray s 0 0 A) (F0 m 138 ls [.int y29]) := by
              intro H locs ls hP hD hS hl
              refine lv_istore (lv' := [(9, .int y29), (8, .int x27), (6, .long y19.1), (5, .int x18), (4, .int s8.2.1), (3, .int s8.1), (0, .ref (ad a)), (1, va_re ad p0), (2, .int p1)]) hx hb dX8_readBoxes_138 hl (by decide) rfl (fun ls hl => ?_)
              refine lv_aload_n hx hb dX8_readBoxes_140 rfl (lv_at hl 6 rfl) ?_
              refine lv_iload hx hb dX8_readBoxes_141 (lv_at hl 1 rfl) ?_
              refine lv_iload hx hb dX8_readBoxes_143 (lv_at hl 4 rfl) ?_
              refine lv_lload hx hb dX8_readBoxes_145 (lv_at hl 2 rfl) ?_
              refine lv_l2i (v := y19.1.toInt32) hx hb dX8_readBoxes_147 rfl ?_
              obtain ⟨x30, ex30, hF⟩ := ltt_some hF
              refine lv_topi (fun zx30 ezx30 => ?_)
              obtain rfl : x30 = zx30 := ex30.trans ezx30.symm
              refine lv_aload_n hx hb dX8_readBoxes_148 rfl (lv_at hl 6 rfl) ?_
              refine va_get (D := D) (ci := 8) (v := va_re ad (y26.1.2 a 13)) (C := RX8) (T := TX8) (N := 15) hx hb hts (by decide +kernel) hown hK hP a (wld_o ct ad G y26.1 hc hk (by decide)) rfl 13 (by decide) (hts (.fieldLink RX8 38 "VideoSuite$Units" "nest" "[I") (by decide +kernel)) (fun _ h9 => h9) rfl dX8_readBoxes_149 ?_
              refine lv_iconst (v := (2 : Int32)) hx hb dX8_readBoxes_152 (by decide) ?_
              refine lv_iload_n hx hb dX8_readBoxes_153 rfl (lv_at hl 5 rfl) ?_
              refine lv_imul hx hb dX8_readBoxes_154 ?_
              obtain ⟨x31, ex31, hF⟩ := ltt_some hF
              refine lv_topi (fun zx31 ezx31 => ?_)
              obtain rfl : x31 = zx31 := ex31.trans ezx31.symm
              refine lv_iconst (v := (1 : Int32)) hx hb dX8_readBoxes_155 (by decide) ?_
              refine lv_iadd hx hb dX8_readBoxes_156 ?_
              obtain ⟨x32, ex32, hF⟩ := ltt_some hF
              refine lv_topi (fun zx32 ezx32 => ?_)
              obtain rfl : x32 = zx32 := ex32.trans ezx32.symm
              obtain ⟨b33, ho33, hc33, hk33, hF⟩ := dr_some hF
              refine W_st (st' := [.int x32, .ref (ad b33), .int x30, .int s8.2.1, .int x27, .ref (ad a)]) (by rw [va_some ho33]) ?_
              obtain ⟨hvc, hF⟩ := chk_some hF
              refine va_iald hx hb hK hP b33 1 (wld_i ct ad G y26.1 hc33 hk33) rfl hvc dX8_readBoxes_157 ?_
              obtain ⟨x34, ex34, hF⟩ := ltt_some hF
              refine lv_topi (fun zx34 ezx34 => ?_)
              obtain rfl : x34 = zx34 := ex34.trans ezx34.symm
              obtain ⟨y35, hy35, hF⟩ := bnd_some hF
              have hf9 := wA_in hD hA9 hS
              refine va_callv (va_runV (As := [.int x27, .int s8.2.1, .int x30, .int x34]) (rest := []) ⟨hx, hb, hml, hown, hts⟩ (kX8_noteBox l D ct ad Z G y26.1 H.size a x27 s8.2.1 x30 x34 y35 hc hk hy35) (cwV 4 hts gX8_readBoxes_X8_noteBox rfl rfl rfl (by decide +kernel) ⟨Nat.le_of_ble_eq_true rfl, Nat.le_of_ble_eq_true rfl⟩) ⟨fun a U g mk q => by obtain ⟨q0, q1, qP, qK, qD, qZ, qN⟩ := q; exact ⟨q0, q1, qP, va_K.moved (u := U) (U := U.calling g mk a) (Vm.Alike.refl U.vm) qK, qD, sF.moved (u := U) (U := U.calling g mk a) (Vm.Alike.refl U.vm) qZ, nF.same rfl qN⟩, va_recv hK hP (ci := 8) (q0 := a) rfl (wld_o ct ad G y26.1 hc hk (by decide)), fun U hU hW => ⟨rfl, by rw [hU], by rw [hU]; exact hP, va_K.moved hW.alike hK, hD.weaken (fun _ _ _ _ => trivial), by rw [hU]; exact ((hZ.kept hS.2.1).narrow hf9).moved hW.alike, hN.warm hW⟩⟩ rfl rfl hl.1 rfl (lv_room (Nat.le_of_ble_eq_true rfl)) dX8_readBoxes_158 ⟨(Nat.zero_le _), (Nat.zero_le _)⟩) hS (fun q _ h => hf9 q h) hf9 (fun u t H locs ht hvm hw hB hz1 hk1 hS => ?_)
              obtain ⟨hP, hK9, hD9⟩ := hB
              rw [ht] at hP
              have hD := hD9.weaken (fun _ q _ h => hf9 q.1 h)
              refine lv_iload hx hb dX8_readBoxes_161 (lv_at hl 0 rfl) ?_
              obtain ⟨y36, hy36, hF⟩ := bnd_some hF
              have J36 : ∀ (H : Heap) (locs : List Loc) (ls : Array Slot), va_P D classes (wld ct ad G y36.2.2) H → va_D A (wld ct ad G y36.2.2) → va_S A s.heap H locs → lv_has ls 10 [(9, .int y29), (8, .int x27), (6, .long y19.1), (5, .int x18), (4, .int y36.2.1), (3, .int y36.1), (0, .ref (ad a)), (1, va_re ad p0), (2, .int p1)] → W p l e (headSpec wsX8_readBoxes ({ frames := 1, cells := 0, slots := 0, locals := 25 })).room s m ([.ref (ad a), va_re ad p0, .int p1] : List Value).toArray below meth c H locs 0 0 (MQ below (va_Qi (fun (q : Int32) (_ : Unit) => q = y.2) (fun _ t => kE D ct ad G A y.1 t) A) ([.ref (ad a), va_re ad p0, .int p1] : List Value).toArray s 0 0 A) (F0 m 234 ls []) := by
                intro H locs ls hP hD hS hl
                refine lv_goto (tgt := 32) hx hb dX8_readBoxes_234 (by decide) ?_
                obtain rfl := Option.some.inj hF
                exact hwz10 _ _ _ hP hD hS (lv_sub hl [4, 5, 6, 7, 8] rfl)
              clear hF
              have hF := hy36
              clear hy36
              refine lv_if_eq (tgt := 226) hx hb dX8_readBoxes_163 (by decide) (fun c37 => ?_) (fun c37 => ?_)
              · rw [if_pos c37] at hF
                refine lv_iload hx hb dX8_readBoxes_226 (lv_at hl 4 rfl) ?_
                refine lv_lload hx hb dX8_readBoxes_228 (lv_at hl 2 rfl) ?_
                refine lv_l2i (v := y19.1.toInt32) hx hb dX8_readBoxes_230 rfl ?_
                obtain ⟨x38, ex38, hF⟩ := ltt_some hF
                refine lv_topi (fun zx38 ezx38 => ?_)
                obtain rfl : x38 = zx38 := ex38.trans ezx38.symm
                refine lv_iadd hx hb dX8_readBoxes_231 ?_
                obtain ⟨x39, ex39, hF⟩ := ltt_some hF
                refine lv_topi (fun zx39 ezx39 => ?_)
                obtain rfl : x39 = zx39 := ex39.trans ezx39.symm
                refine lv_istore (lv' := [(4, .int x39), (9, .int y29), (8, .int x27), (6, .long y19.1), (5, .int x18), (3, .int s8.1), (0, .ref (ad a)), (1, va_re ad p0), (2, .int p1)]) hx hb dX8_readBoxes_232 hl (by decide) rfl (fun ls hl => ?_)
                obtain rfl := Option.some.inj hF
                exact J36 _ _ _ hP hD hS (lv_sub hl [1, 2, 3, 4, 0, 5, 6, 7, 8] rfl)
              · rw [if_neg c37] at hF
                refine lv_iload_n hx hb dX8_readBoxes_166 rfl (lv_at hl 5 rfl) ?_
                refine lv_iconst (v := (2 : Int32)) hx hb dX8_readBoxes_167 (by decide) ?_
                obtain ⟨y40, hy40, hF⟩ := bnd_some hF
                have J40 : ∀ (H : Heap) (locs : List Loc) (ls : Array Slot), va_P D classes (wld ct ad G y40.2.2) H → va_D A (wld ct ad G y40.2.2) → va_S A s.heap H locs → lv_has ls 10 [(9, .int y29), (8, .int x27), (6, .long y19.1), (5, .int x18), (4, .int y40.2.1), (3, .int y40.1), (0, .ref (ad a)), (1, va_re ad p0), (2, .int p1)] → W p l e (headSpec wsX8_readBoxes ({ frames := 1, cells := 0, slots := 0, locals := 25 })).room s m ([.ref (ad a), va_re ad p0, .int p1] : List Value).toArray below meth c H locs 0 0 (MQ below (va_Qi (fun (q : Int32) (_ : Unit) => q = y.2) (fun _ t => kE D ct ad G A y.1 t) A) ([.ref (ad a), va_re ad p0, .int p1] : List Value).toArray s 0 0 A) (F0 m 234 ls []) := by
                  intro H locs ls hP hD hS hl
                  obtain rfl := Option.some.inj hF
                  exact J36 _ _ _ hP hD hS (lv_sub hl [0, 1, 2, 3, 4, 5, 6, 7, 8] rfl)
                clear hF
                have hF := hy40
                clear hy40
                refine lv_icmp_ge (tgt := 226) hx hb dX8_readBoxes_168 (by decide) (fun c41 => ?_) (fun c41 => ?_)
                · rw [if_pos c41] at hF
                  refine lv_iload hx hb dX8_readBoxes_226 (lv_at hl 4 rfl) ?_
                  refine lv_lload hx hb dX8_readBoxes_228 (lv_at hl 2 rfl) ?_
                  refine lv_l2i (v := y19.1.toInt32) hx hb dX8_readBoxes_230 rfl ?_
                  obtain ⟨x42, ex42, hF⟩ := ltt_some hF
                  refine lv_topi (fun zx42 ezx42 => ?_)
                  obtain rfl : x42 = zx42 := ex42.trans ezx42.symm
                  refine lv_iadd hx hb dX8_readBoxes_231 ?_
                  obtain ⟨x43, ex43, hF⟩ := ltt_some hF
                  refine lv_topi (fun zx43 ezx43 => ?_)
                  obtain rfl : x43 = zx43 := ex43.trans ezx43.symm
                  refine lv_istore (lv' := [(4, .int x43), (9, .int y29), (8, .int x27), (6, .long y19.1), (5, .int x18), (3, .int s8.1), (0, .ref (ad a)), (1, va_re ad p0), (2, .int p1)]) hx hb dX8_readBoxes_232 hl (by decide) rfl (fun ls hl => ?_)
                  obtain rfl := Option.some.inj hF
                  exact J40 _ _ _ hP hD hS (lv_sub hl [1, 2, 3, 4, 0, 5, 6, 7, 8] rfl)
                · rw [if_neg c41] at hF
                  refine lv_iload hx hb dX8_readBoxes_171 (lv_at hl 1 rfl) ?_
                  refine lv_iload_n hx hb dX8_readBoxes_173 rfl (lv_at hl 5 rfl) ?_
                  obtain ⟨y44, hy44, hF⟩ := bnd_some hF
                  have J44 : ∀ (H : Heap) (locs : List Loc) (ls : Array Slot), va_P D classes (wld ct ad G y35) H → va_D A (wld ct ad G y35) → va_S A s.heap H locs → lv_has ls 10 [(9, .int y29), (8, .int x27), (6, .long y19.1), (5, .int x18), (4, .int s8.2.1), (3, .int s8.1), (0, .ref (ad a)), (1, va_re ad p0), (2, .int p1)] → W p l e (headSpec wsX8_readBoxes ({ frames := 1, cells := 0, slots := 0, locals := 25 })).room s m ([.ref (ad a), va_re ad p0, .int p1] : List Value).toArray below meth c H locs 0 0 (MQ below (va_Qi (fun (q : Int32) (_ : Unit) => q = y.2) (fun _ t => kE D ct ad G A y.1 t) A) ([.ref (ad a), va_re ad p0, .int p1] : List Value).toArray s 0 0 A) (F0 m 184 ls [.int y44, .int x27]) := by
                    intro H locs ls hP hD hS hl
                    obtain ⟨y45, hy45, hF⟩ := bnd_some hF
                    have J45 : ∀ (H : Heap) (locs : List Loc) (ls : Array Slot), va_P D classes (wld ct ad G y45.2.2) H → va_D A (wld ct ad G y45.2.2) → va_S A s.heap H locs → lv_has ls 10 [(9, .int y29), (8, .int x27), (6, .long y19.1), (5, .int x18), (4, .int y45.2.1), (3, .int y45.1), (0, .ref (ad a)), (1, va_re ad p0), (2, .int p1)] → W p l e (headSpec wsX8_readBoxes ({ frames := 1, cells := 0, slots := 0, locals := 25 })).room s m ([.ref (ad a), va_re ad p0, .int p1] : List Value).toArray below meth c H locs 0 0 (MQ below (va_Qi (fun (q : Int32) (_ : Unit) => q = y.2) (fun _ t => kE D ct ad G A y.1 t) A) ([.ref (ad a), va_re ad p0, .int p1] : List Value).toArray s 0 0 A) (F0 m 234 ls []) := by
                      intro H locs ls hP hD hS hl
                      obtain rfl := Option.some.inj hF
                      exact J40 _ _ _ hP hD hS (lv_sub hl [0, 1, 2, 3, 4, 5, 6, 7, 8] rfl)
                    clear hF
                    have hF := hy45
                    clear hy45
                    refine lv_icmp_ne (tgt := 226) hx hb dX8_readBoxes_184 (by decide) (fun c46 => ?_) (fun c46 => ?_)
                    · rw [if_neg c46] at hF
                      refine lv_iload hx hb dX8_readBoxes_226 (lv_at hl 4 rfl) ?_
                      refine lv_lload hx hb dX8_readBoxes_228 (lv_at hl 2 rfl) ?_
                      refine lv_l2i (v := y19.1.toInt32) hx hb dX8_readBoxes_230 rfl ?_
                      obtain ⟨x47, ex47, hF⟩ := ltt_some hF
                      refine lv_topi (fun zx47 ezx47 => ?_)
                      obtain rfl : x47 = zx47 := ex47.trans ezx47.symm
                      refine lv_iadd hx hb dX8_readBoxes_231 ?_
                      obtain ⟨x48, ex48, hF⟩ := ltt_some hF
                      refine lv_topi (fun zx48 ezx48 => ?_)
                      obtain rfl : x48 = zx48 := ex48.trans ezx48.symm
                      refine lv_istore (lv' := [(4, .int x48), (9, .int y29), (8, .int x27), (6, .long y19.1), (5, .int x18), (3, .int s8.1), (0, .ref (ad a)), (1, va_re ad p0), (2, .int p1)]) hx hb dX8_readBoxes_232 hl (by decide) rfl (fun ls hl => ?_)
                      obtain rfl := Option.some.inj hF
                      exact J45 _ _ _ hP hD hS (lv_sub hl [1, 2, 3, 4, 0, 5, 6, 7, 8] rfl)
                    · rw [if_pos c46] at hF
                      obtain ⟨x49, ex49, hF⟩ := ltt_some hF
                      refine lv_iinc (v := x49) (lv' := [(3, .int x49), (9, .int y29), (8, .int x27), (6, .long y19.1), (5, .int x18), (4, .int s8.2.1), (0, .ref (ad a)), (1, va_re ad p0), (2, .int p1)]) hx hb dX8_readBoxes_187 hl (k := 5) rfl (by rw [ex49]; rfl) (by decide) rfl (fun ls hl => ?_)
                      refine lv_aload_n hx hb dX8_readBoxes_190 rfl (lv_at hl 6 rfl) ?_
                      refine va_get (D := D) (ci := 8) (v := va_re ad (y35.2 a 13)) (C := RX8) (T := TX8) (N := 15) hx hb hts (by decide +kernel) hown hK hP a (wld_o ct ad G y35 hc hk (by decide)) rfl 13 (by decide) (hts (.fieldLink RX8 38 "VideoSuite$Units" "nest" "[I") (by decide +kernel)) (fun _ h9 => h9) rfl dX8_readBoxes_191 ?_
                      refine lv_iconst (v := (2 : Int32)) hx hb dX8_readBoxes_194 (by decide) ?_
                      refine lv_iload_n hx hb dX8_readBoxes_195 rfl (lv_at hl 0 rfl) ?_
                      refine lv_imul hx hb dX8_readBoxes_196 ?_
                      obtain ⟨x50, ex50, hF⟩ := ltt_some hF
                      refine lv_topi (fun zx50 ezx50 => ?_)
                      obtain rfl : x50 = zx50 := ex50.trans ezx50.symm
                      refine lv_iload hx hb dX8_readBoxes_197 (lv_at hl 5 rfl) ?_
                      refine lv_lload hx hb dX8_readBoxes_199 (lv_at hl 3 rfl) ?_
                      refine lv_l2i (v := y19.1.toInt32) hx hb dX8_readBoxes_201 rfl ?_
                      obtain ⟨x51, ex51, hF⟩ := ltt_some hF
                      refine lv_topi (fun zx51 ezx51 => ?_)
                      obtain rfl : x51 = zx51 := ex51.trans ezx51.symm
                      refine lv_iadd hx hb dX8_readBoxes_202 ?_
                      obtain ⟨x52, ex52, hF⟩ := ltt_some hF
                      refine lv_topi (fun zx52 ezx52 => ?_)
                      obtain rfl : x52 = zx52 := ex52.trans ezx52.symm
                      obtain ⟨b53, ho53, hc53, hk53, hF⟩ := dr_some hF
                      refine W_st (st' := [.int x52, .int x50, .ref (ad b53)]) (by rw [va_some ho53]) ?_
                      obtain ⟨hvc, hF⟩ := chk_some hF
                      refine va_iast hx hb hK hP hD hS b53 1 (wld_i ct ad G y35 hc53 hk53) rfl hvc dX8_readBoxes_203 (fun H locs hP hD hS => ?_)
                      obtain ⟨M54, eM54, hF⟩ := ltt_some hF
                      rw [set_i ct ad G y35 hc53 hk53, ← eM54] at hP hD
                      refine lv_aload_n hx hb dX8_readBoxes_204 rfl (lv_at hl 6 rfl) ?_
                      refine va_get (D := D) (ci := 8) (v := va_re ad (M54.2 a 13)) (C := RX8) (T := TX8) (N := 15) hx hb hts (by decide +kernel) hown hK hP a (wld_o ct ad G M54 hc hk (by decide)) rfl 13 (by decide) (hts (.fieldLink RX8 38 "VideoSuite$Units" "nest" "[I") (by decide +kernel)) (fun _ h9 => h9) rfl dX8_readBoxes_205 ?_
                      refine lv_iconst (v := (2 : Int32)) hx hb dX8_readBoxes_208 (by decide) ?_
                      refine lv_iload_n hx hb dX8_readBoxes_209 rfl (lv_at hl 0 rfl) ?_
                      refine lv_imul hx hb dX8_readBoxes_210 ?_
                      obtain ⟨x55, ex55, hF⟩ := ltt_some hF
                      refine lv_topi (fun zx55 ezx55 => ?_)
                      obtain rfl : x55 = zx55 := ex55.trans ezx55.symm
                      refine lv_iconst (v := (1 : Int32)) hx hb dX8_readBoxes_211 (by decide) ?_
                      refine lv_iadd hx hb dX8_readBoxes_212 ?_
                      obtain ⟨x56, ex56, hF⟩ := ltt_some hF
                      refine lv_topi (fun zx56 ezx56 => ?_)
                      obtain rfl : x56 = zx56 := ex56.trans ezx56.symm
                      refine lv_aload_n hx hb dX8_readBoxes_213 rfl (lv_at hl 6 rfl) ?_
                      refine va_get (D := D) (ci := 8) (v := .int (M54.1 a 11)) (C := RX8) (T := TX8) (N := 15) hx hb hts (by decide +kernel) hown hK hP a (wld_o ct ad G M54 hc hk (by decide)) rfl 11 (by decide) (hts (.fieldLink RX8 95 "VideoSuite$Units" "boxCount" "I") (by decide +kernel)) (fun _ h9 => h9) rfl dX8_readBoxes_214 ?_
                      obtain ⟨x57, ex57, hF⟩ := ltt_some hF
                      refine lv_topi (fun zx57 ezx57 => ?_)
                      obtain rfl : x57 = zx57 := ex57.trans ezx57.symm
                      refine lv_iconst (v := (1 : Int32)) hx hb dX8_readBoxes_217 (by decide) ?_
                      refine lv_isub hx hb dX8_readBoxes_218 ?_
                      obtain ⟨x58, ex58, hF⟩ := ltt_some hF
                      refine lv_topi (fun zx58 ezx58 => ?_)
                      obtain rfl : x58 = zx58 := ex58.trans ezx58.symm
                      obtain ⟨b59, ho59, hc59, hk59, hF⟩ := dr_some hF
                      refine W_st (st' := [.int x58, .int x56, .ref (ad b59)]) (by rw [va_some ho59]) ?_
                      obtain ⟨hvc, hF⟩ := chk_some hF
                      refine va_iast hx hb hK hP hD hS b59 1 (wld_i ct ad G M54 hc59 hk59) rfl hvc dX8_readBoxes_219 (fun H locs hP hD hS => ?_)
                      obtain ⟨M60, eM60, hF⟩ := ltt_some hF
                      rw [set_i ct ad G M54 hc59 hk59, ← eM60] at hP hD
                      obtain ⟨x61, ex61, hF⟩ := ltt_some hF
                      refine lv_iinc (v := x61) (lv' := [(4, .int x61), (3, .int x49), (9, .int y29), (8, .int x27), (6, .long y19.1), (5, .int x18), (0, .ref (ad a)), (1, va_re ad p0), (2, .int p1)]) hx hb dX8_readBoxes_220 hl (k := 5) rfl (by rw [ex61]; rfl) (by decide) rfl (fun ls hl => ?_)
                      refine lv_goto (tgt := 234) hx hb dX8_readBoxes_223 (by decide) ?_
                      obtain rfl := Option.some.inj hF
                      exact J45 _ _ _ hP hD hS (lv_sub hl [2, 3, 4, 5, 0, 1, 6, 7, 8] rfl)
                  clear hF
                  have hF := hy44
                  clear hy44
                  refine lv_if_ne (tgt := 182) hx hb dX8_readBoxes_174 (by decide) (fun c62 => ?_) (fun c62 => ?_)
                  · rw [if_neg c62] at hF
                    refine lv_ldc (v := (1953653099 : Int32)) hx hb hown (hts (.constant RX8 87 (1953653099 : Int32)) (by decide +kernel)) dX8_readBoxes_182 ?_
                    obtain rfl := Option.some.inj hF
                    exact J44 _ _ _ hP hD hS (lv_sub hl [0, 1, 2, 3, 4, 5, 6, 7, 8] rfl)
                  · rw [if_pos c62] at hF
                    refine lv_ldc (v := (1836019574 : Int32)) hx hb hown (hts (.constant RX8 85 (1836019574 : Int32)) (by decide +kernel)) dX8_readBoxes_177 ?_
                    refine lv_goto (tgt := 184) hx hb dX8_readBoxes_179 (by decide) ?_
                    obtain rfl := Option.some.inj hF
                    exact J44 _ _ _ hP hD hS (lv_sub hl [0, 1, 2, 3, 4, 5, 6, 7, 8] rfl)
            clear hF
            have hF := hy29
            clear hy29
            refine lv_icmp_ge (tgt := 137) hx hb dX8_readBoxes_130 (by decide) (fun c63 => ?_) (fun c63 => ?_)
            · rw [if_pos c63] at hF
              refine lv_iconst (v := (0 : Int32)) hx hb dX8_readBoxes_137 (by decide) ?_
              obtain rfl := Option.some.inj hF
              exact J29 _ _ _ hP hD hS (lv_sub hl [0, 1, 2, 3, 4, 5, 6, 7] rfl)
            · rw [if_neg c63] at hF
              refine lv_iconst (v := (1 : Int32)) hx hb dX8_readBoxes_133 (by decide) ?_
              refine lv_goto (tgt := 138) hx hb dX8_readBoxes_134 (by decide) ?_
              obtain rfl := Option.some.inj hF
              exact J29 _ _ _ hP hD hS (lv_sub hl [0, 1, 2, 3, 4, 5, 6, 7] rfl)
          · rw [if_neg c24] at hF
            refine lv_iconst (v := (0 : Int32)) hx hb dX8_readBoxes_111 (by decide) ?_
            obtain ⟨hz9, hF⟩ := chk_some hF
            obtain rfl := Option.some.inj hF
            have hF := sel_inr (hwz10 ▸ hR7)
            obtain rfl := Option.some.inj hF
            exact W.zret (v := (0 : Int32)) (ty := .boolean) hx hb hr (nar_z hz9).1 (fun t ht hW => ⟨⟨_, (), rfl, rfl, ⟨by rw [ht]; exact hP, va_K.moved hW.alike hK, hD⟩⟩, hS.F ht⟩) hS.2.2 dX8_readBoxes_112
      clear hF
      have hF := hy19
      clear hy19
      refine lv_icmp_ge (tgt := 85) hx hb dX8_readBoxes_78 (by decide) (fun c64 => ?_) (fun c64 => ?_)
      · rw [if_pos c64] at hF
        refine lv_aloadq_n hx hb dX8_readBoxes_85 rfl (lv_at hl 4 rfl) ?_
        refine lv_iload hx hb dX8_readBoxes_86 (lv_at hl 1 rfl) ?_
        obtain ⟨y65, hy65, hF⟩ := bnd_some hF
        have hf9 := wA_in hD hA9 hS
        refine va_calll (va_runS (As := [va_re ad p0, .int s8.2.1]) (rest := []) ⟨hx, hb, hml, hown, hts⟩ (kX8_number4 l D ct ad Z G s8.2.2 H.size p0 s8.2.1 y65 hy65) (va_cwS 2 hts gX8_readBoxes_X8_number4 rfl rfl rfl (by decide +kernel) ⟨Nat.le_of_ble_eq_true rfl, Nat.le_of_ble_eq_true rfl⟩) ⟨fun a U g mk q => by obtain ⟨q0, q1, qP, qK, qD, qZ, qN⟩ := q; exact ⟨q0, q1, qP, va_K.moved (u := U) (U := U.calling g mk a) (Vm.Alike.refl U.vm) qK, qD, sF.moved (u := U) (U := U.calling g mk a) (Vm.Alike.refl U.vm) qZ, nF.same rfl qN⟩, fun U hU hW => ⟨rfl, by rw [hU], by rw [hU]; exact hP, va_K.moved hW.alike hK, hD.weaken (fun _ _ _ _ => trivial), by rw [hU]; exact ((hZ.kept hS.2.1).narrow hf9).moved hW.alike, hN.warm hW⟩⟩ rfl rfl hl.1 rfl (lv_room (Nat.le_of_ble_eq_true rfl)) dX8_readBoxes_88 ⟨(Nat.zero_le _), (Nat.zero_le _)⟩) hS (fun q _ h => hf9 q h) hf9 (fun r u t H locs ht hvm hw hB hz1 hk1 hS => ?_)
        obtain ⟨hP, hK9, hD9⟩ := hB
        rw [ht] at hP
        try dsimp only at hw
        subst hw
        have hD := hD9.weaken (fun _ q _ h => hf9 q.1 h)
        obtain rfl := Option.some.inj hF
        exact J19 _ _ _ hP hD hS (lv_sub hl [0, 1, 2, 3, 4, 5] rfl)
      · rw [if_neg c64] at hF
        refine lv_lconst (v := (0 : Int64)) hx hb dX8_readBoxes_81 rfl ?_
        refine lv_goto (tgt := 91) hx hb dX8_readBoxes_82 (by decide) ?_
        obtain rfl := Option.some.inj hF
        exact J19 _ _ _ hP hD hS (lv_sub hl [0, 1, 2, 3, 4, 5] rfl)
    · rw [if_pos c15] at hF
      refine lv_iload_n hx hb dX8_readBoxes_51 rfl (lv_at hl 1 rfl) ?_
      refine lv_if_le (tgt := 61) hx hb dX8_readBoxes_52 (by decide) (fun c66 => ?_) (fun c66 => ?_)
      · rw [if_pos c66] at hF
        refine lv_aload_n hx hb dX8_readBoxes_61 rfl (lv_at hl 2 rfl) ?_
        refine va_get (D := D) (ci := 8) (v := va_re ad (s8.2.2.2 a 13)) (C := RX8) (T := TX8) (N := 15) hx hb hts (by decide +kernel) hown hK hP a (wld_o ct ad G s8.2.2 hc hk (by decide)) rfl 13 (by decide) (hts (.fieldLink RX8 38 "VideoSuite$Units" "nest" "[I") (by decide +kernel)) (fun _ h9 => h9) rfl dX8_readBoxes_62 ?_
        refine lv_iconst (v := (2 : Int32)) hx hb dX8_readBoxes_65 (by decide) ?_
        refine lv_iload_n hx hb dX8_readBoxes_66 rfl (lv_at hl 1 rfl) ?_
        refine lv_imul hx hb dX8_readBoxes_67 ?_
        obtain ⟨x67, ex67, hF⟩ := ltt_some hF
        refine lv_topi (fun zx67 ezx67 => ?_)
        obtain rfl : x67 = zx67 := ex67.trans ezx67.symm
        refine W_st (st' := [.int x67, .ref (ad b13)]) (by rw [va_some ho13]) ?_
        obtain ⟨hvc, hF⟩ := chk_some hF
        refine va_iald hx hb hK hP b13 1 (wld_i ct ad G s8.2.2 hc13 hk13) rfl hvc dX8_readBoxes_68 ?_
        obtain ⟨x68, ex68, hF⟩ := ltt_some hF
        refine lv_topi (fun zx68 ezx68 => ?_)
        obtain rfl : x68 = zx68 := ex68.trans ezx68.symm
        refine lv_iload hx hb dX8_readBoxes_69 (lv_at hl 0 rfl) ?_
        refine lv_isub hx hb dX8_readBoxes_71 ?_
        obtain ⟨x69, ex69, hF⟩ := ltt_some hF
        refine lv_topi (fun zx69 ezx69 => ?_)
        obtain rfl : x69 = zx69 := ex69.trans ezx69.symm
        refine lv_istore (lv' := [(5, .int x69), (4, .int s8.2.1), (3, .int s8.1), (0, .ref (ad a)), (1, va_re ad p0), (2, .int p1)]) hx hb dX8_readBoxes_72 hl (by decide) rfl (fun ls hl => ?_)
        refine lv_iload hx hb dX8_readBoxes_74 (lv_at hl 0 rfl) ?_
        refine lv_bipush (v := (8 : Int32)) hx hb dX8_readBoxes_76 (by decide) ?_
        obtain ⟨y70, hy70, hF⟩ := bnd_some hF
        have J70 : ∀ (H : Heap) (locs : List Loc) (ls : Array Slot), va_P D classes (wld ct ad G y70.2) H → va_D A (wld ct ad G y70.2) → va_S A s.heap H locs → lv_has ls 10 [(5, .int x69), (4, .int s8.2.1), (3, .int s8.1), (0, .ref (ad a)), (1, va_re ad p0), (2, .int p1)] → W p l e (headSpec wsX8_readBoxes ({ frames := 1, cells := 0, slots := 0, locals := 25 })).room s m ([.ref (ad a), va_re ad p0, .int p1] : List Value).toArray below meth c H locs 0 0 (MQ below (va_Qi (fun (q : Int32) (_ : Unit) => q = y.2) (fun _ t => kE D ct ad G A y.1 t) A) ([.ref (ad a), va_re ad p0, .int p1] : List Value).toArray s 0 0 A) (F0 m 91 ls [.long y70.1]) := by
          intro H locs ls hP hD hS hl
          refine lv_lstore (lv' := [(6, .long y70.1), (5, .int x69), (4, .int s8.2.1), (3, .int s8.1), (0, .ref (ad a)), (1, va_re ad p0), (2, .int p1)]) hx hb dX8_readBoxes_91 hl (by decide) rfl (fun ls hl => ?_)
          refine lv_lload hx hb dX8_readBoxes_93 (lv_at hl 0 rfl) ?_
          refine lv_ldc2 (v := (8 : Int64)) hx hb hown (hts (.constantLong RX8 108 (8 : Int64)) (by decide +kernel)) dX8_readBoxes_95 ?_
          refine W.lcmp hx hb dX8_readBoxes_98 ?_
          obtain ⟨x71, ex71, hF⟩ := ltt_some hF
          refine lv_topi (fun zx71 ezx71 => ?_)
          obtain rfl : x71 = zx71 := ex71.trans ezx71.symm
          refine lv_if_lt (tgt := 111) hx hb dX8_readBoxes_99 (by decide) (fun c72 => ?_) (fun c72 => ?_)
          · rw [if_pos c72] at hF
            refine lv_iconst (v := (0 : Int32)) hx hb dX8_readBoxes_111 (by decide) ?_
            obtain ⟨hz9, hF⟩ := chk_some hF
            obtain rfl := Option.some.inj hF
            have hF := sel_inr (hwz10 ▸ hR7)
            obtain rfl := Option.some.inj hF
            exact W.zret (v := (0 : Int32)) (ty := .boolean) hx hb hr (nar_z hz9).1 (fun t ht hW => ⟨⟨_, (), rfl, rfl, ⟨by rw [ht]; exact hP, va_K.moved hW.alike hK, hD⟩⟩, hS.F ht⟩) hS.2.2 dX8_readBoxes_112
          · rw [if_neg c72] at hF
            refine lv_lload hx hb dX8_readBoxes_102 (lv_at hl 0 rfl) ?_
            refine lv_iload hx hb dX8_readBoxes_104 (lv_at hl 1 rfl) ?_
            refine lv_i2l (v := x69.toInt64) hx hb dX8_readBoxes_106 rfl ?_
            obtain ⟨x73, ex73, hF⟩ := ltt_some hF
            refine lv_topl (fun zx73 ezx73 => ?_)
            obtain rfl : x73 = zx73 := ex73.trans ezx73.symm
            refine W.lcmp hx hb dX8_readBoxes_107 ?_
            obtain ⟨x74, ex74, hF⟩ := ltt_some hF
            refine lv_topi (fun zx74 ezx74 => ?_)
            obtain rfl : x74 = zx74 := ex74.trans ezx74.symm
            refine lv_if_le (tgt := 113) hx hb dX8_readBoxes_108 (by decide) (fun c75 => ?_) (fun c75 => ?_)
            · rw [if_pos c75] at hF
              refine lv_aloadq_n hx hb dX8_readBoxes_113 rfl (lv_at hl 5 rfl) ?_
              refine lv_iload hx hb dX8_readBoxes_114 (lv_at hl 2 rfl) ?_
              refine lv_iconst (v := (4 : Int32)) hx hb dX8_readBoxes_116 (by decide) ?_
              refine lv_iadd hx hb dX8_readBoxes_117 ?_
              obtain ⟨x76, ex76, hF⟩ := ltt_some hF
              refine lv_topi (fun zx76 ezx76 => ?_)
              obtain rfl : x76 = zx76 := ex76.trans ezx76.symm
              obtain ⟨y77, hy77, hF⟩ := bnd_some hF
              have hf9 := wA_in hD hA9 hS
              refine va_calll (va_runS (As := [va_re ad p0, .int x76]) (rest := []) ⟨hx, hb, hml, hown, hts⟩ (kX8_number4 l D ct ad Z G y70.2 H.size p0 x76 y77 hy77) (va_cwS 2 hts gX8_readBoxes_X8_number4 rfl rfl rfl (by decide +kernel) ⟨Nat.le_of_ble_eq_true rfl, Nat.le_of_ble_eq_true rfl⟩) ⟨fun a U g mk q => by obtain ⟨q0, q1, qP, qK, qD, qZ, qN⟩ := q; exact ⟨q0, q1, qP, va_K.moved (u := U) (U := U.calling g mk a) (Vm.Alike.refl U.vm) qK, qD, sF.moved (u := U) (U := U.calling g mk a) (Vm.Alike.refl U.vm) qZ, nF.same rfl qN⟩, fun U hU hW => ⟨rfl, by rw [hU], by rw [hU]; exact hP, va_K.moved hW.alike hK, hD.weaken (fun _ _ _ _ => trivial), by rw [hU]; exact ((hZ.kept hS.2.1).narrow hf9).moved hW.alike, hN.warm hW⟩⟩ rfl rfl hl.1 rfl (lv_room (Nat.le_of_ble_eq_true rfl)) dX8_readBoxes_118 ⟨(Nat.zero_le _), (Nat.zero_le _)⟩) hS (fun q _ h => hf9 q h) hf9 (fun r u t H locs ht hvm hw hB hz1 hk1 hS => ?_)
              obtain ⟨hP, hK9, hD9⟩ := hB
              rw [ht] at hP
              try dsimp only at hw
              subst hw
              have hD := hD9.weaken (fun _ q _ h => hf9 q.1 h)
              refine lv_l2i (v := y77.2.toInt32) hx hb dX8_readBoxes_121 rfl ?_
              obtain ⟨x78, ex78, hF⟩ := ltt_some hF
              refine lv_topi (fun zx78 ezx78 => ?_)
              obtain rfl : x78 = zx78 := ex78.trans ezx78.symm
              refine lv_istore (lv' := [(8, .int x78), (6, .long y70.1), (5, .int x69), (4, .int s8.2.1), (3, .int s8.1), (0, .ref (ad a)), (1, va_re ad p0), (2, .int p1)]) hx hb dX8_readBoxes_122 hl (by decide) rfl (fun ls hl => ?_)
              refine lv_aload_n hx hb dX8_readBoxes_124 rfl (lv_at hl 5 rfl) ?_
              refine va_get (D := D) (ci := 8) (v := .int (y77.1.1 a 11)) (C := RX8) (T := TX8) (N := 15) hx hb hts (by decide +kernel) hown hK hP a (wld_o ct ad G y77.1 hc hk (by decide)) rfl 11 (by decide) (hts (.fieldLink RX8 95 "VideoSuite$Units" "boxCount" "I") (by decide +kernel)) (fun _ h9 => h9) rfl dX8_readBoxes_125 ?_
              obtain ⟨x79, ex79, hF⟩ := ltt_some hF
              refine lv_topi (fun zx79 ezx79 => ?_)
              obtain rfl : x79 = zx79 := ex79.trans ezx79.symm
              refine lv_bipush (v := (60 : Int32)) hx hb dX8_readBoxes_128 (by decide) ?_
              obtain ⟨y80, hy80, hF⟩ := bnd_some hF
              have J80 : ∀ (H : Heap) (locs : List Loc) (ls : Array Slot), va_P D classes (wld ct ad G y77.1) H → va_D A (wld ct ad G y77.1) → va_S A s.heap H locs → lv_has ls 10 [(8, .int x78), (6, .long y70.1), (5, .int x69), (4, .int s8.2.1), (3, .int s8.1), (0, .ref (ad a)), (1, va_re ad p0), (2, .int p1)] → W p l e (headSpec wsX8_readBoxes ({ frames := 1, cells := 0, slots := 0, locals := 25 })).room s m ([.ref (ad a), va_re ad p0, .int p1] : List Value).toArray below meth c H locs 0 0 (MQ below (va_Qi (fun (q : Int32) (_ : Unit) => q = y.2) (fun _ t => kE D ct ad G A y.1 t) A) ([.ref (ad a), va_re ad p0, .int p1] : List Value).toArray s 0 0 A) (F0 m 138 ls [.int y80]) := by
                intro H locs ls hP hD hS hl
                refine lv_istore (lv' := [(9, .int y80), (8, .int x78), (6, .long y70.1), (5, .int x69), (4, .int s8.2.1), (3, .int s8.1), (0, .ref (ad a)), (1, va_re ad p0), (2, .int p1)]) hx hb dX8_readBoxes_138 hl (by decide) rfl (fun ls hl => ?_)
                refine lv_aload_n hx hb dX8_readBoxes_140 rfl (lv_at hl 6 rfl) ?_
                refine lv_iload hx hb dX8_readBoxes_141 (lv_at hl 1 rfl) ?_
                refine lv_iload hx hb dX8_readBoxes_143 (lv_at hl 4 rfl) ?_
                refine lv_lload hx hb dX8_readBoxes_145 (lv_at hl 2 rfl) ?_
                refine lv_l2i (v := y70.1.toInt32) hx hb dX8_readBoxes_147 rfl ?_
                obtain ⟨x81, ex81, hF⟩ := ltt_some hF
                refine lv_topi (fun zx81 ezx81 => ?_)
                obtain rfl : x81 = zx81 := ex81.trans ezx81.symm
                refine lv_aload_n hx hb dX8_readBoxes_148 rfl (lv_at hl 6 rfl) ?_
                refine va_get (D := D) (ci := 8) (v := va_re ad (y77.1.2 a 13)) (C := RX8) (T := TX8) (N := 15) hx hb hts (by decide +kernel) hown hK hP a (wld_o ct ad G y77.1 hc hk (by decide)) rfl 13 (by decide) (hts (.fieldLink RX8 38 "VideoSuite$Units" "nest" "[I") (by decide +kernel)) (fun _ h9 => h9) rfl dX8_readBoxes_149 ?_
                refine lv_iconst (v := (2 : Int32)) hx hb dX8_readBoxes_152 (by decide) ?_
                refine lv_iload_n hx hb dX8_readBoxes_153 rfl (lv_at hl 5 rfl) ?_
                refine lv_imul hx hb dX8_readBoxes_154 ?_
                obtain ⟨x82, ex82, hF⟩ := ltt_some hF
                refine lv_topi (fun zx82 ezx82 => ?_)
                obtain rfl : x82 = zx82 := ex82.trans ezx82.symm
                refine lv_iconst (v := (1 : Int32)) hx hb dX8_readBoxes_155 (by decide) ?_
                refine lv_iadd hx hb dX8_readBoxes_156 ?_
                obtain ⟨x83, ex83, hF⟩ := ltt_some hF
                refine lv_topi (fun zx83 ezx83 => ?_)
                obtain rfl : x83 = zx83 := ex83.trans ezx83.symm
                obtain ⟨b84, ho84, hc84, hk84, hF⟩ := dr_some hF
                refine W_st (st' := [.int x83, .ref (ad b84), .int x81, .int s8.2.1, .int x78, .ref (ad a)]) (by rw [va_some ho84]) ?_
                obtain ⟨hvc, hF⟩ := chk_some hF
                refine va_iald hx hb hK hP b84 1 (wld_i ct ad G y77.1 hc84 hk84) rfl hvc dX8_readBoxes_157 ?_
                obtain ⟨x85, ex85, hF⟩ := ltt_some hF
                refine lv_topi (fun zx85 ezx85 => ?_)
                obtain rfl : x85 = zx85 := ex85.trans ezx85.symm
                obtain ⟨y86, hy86, hF⟩ := bnd_some hF
                have hf9 := wA_in hD hA9 hS
                refine va_callv (va_runV (As := [.int x78, .int s8.2.1, .int x81, .int x85]) (rest := []) ⟨hx, hb, hml, hown, hts⟩ (kX8_noteBox l D ct ad Z G y77.1 H.size a x78 s8.2.1 x81 x85 y86 hc hk hy86) (cwV 4 hts gX8_readBoxes_X8_noteBox rfl rfl rfl (by decide +kernel) ⟨Nat.le_of_ble_eq_true rfl, Nat.le_of_ble_eq_true rfl⟩) ⟨fun a U g mk q => by obtain ⟨q0, q1, qP, qK, qD, qZ, qN⟩ := q; exact ⟨q0, q1, qP, va_K.moved (u := U) (U := U.calling g mk a) (Vm.Alike.refl U.vm) qK, qD, sF.moved (u := U) (U := U.calling g mk a) (Vm.Alike.refl U.vm) qZ, nF.same rfl qN⟩, va_recv hK hP (ci := 8) (q0 := a) rfl (wld_o ct ad G y77.1 hc hk (by decide)), fun U hU hW => ⟨rfl, by rw [hU], by rw [hU]; exact hP, va_K.moved hW.alike hK, hD.weaken (fun _ _ _ _ => trivial), by rw [hU]; exact ((hZ.kept hS.2.1).narrow hf9).moved hW.alike, hN.warm hW⟩⟩ rfl rfl hl.1 rfl (lv_room (Nat.le_of_ble_eq_true rfl)) dX8_readBoxes_158 ⟨(Nat.zero_le _), (Nat.zero_le _)⟩) hS (fun q _ h => hf9 q h) hf9 (fun u t H locs ht hvm hw hB hz1 hk1 hS => ?_)
                obtain ⟨hP, hK9, hD9⟩ := hB
                rw [ht] at hP
                have hD := hD9.weaken (fun _ q _ h => hf9 q.1 h)
                refine lv_iload hx hb dX8_readBoxes_161 (lv_at hl 0 rfl) ?_
                obtain ⟨y87, hy87, hF⟩ := bnd_some hF
                have J87 : ∀ (H : Heap) (locs : List Loc) (ls : Array Slot), va_P D classes (wld ct ad G y87.2.2) H → va_D A (wld ct ad G y87.2.2) → va_S A s.heap H locs → lv_has ls 10 [(9, .int y80), (8, .int x78), (6, .long y70.1), (5, .int x69), (4, .int y87.2.1), (3, .int y87.1), (0, .ref (ad a)), (1, va_re ad p0), (2, .int p1)] → W p l e (headSpec wsX8_readBoxes ({ frames := 1, cells := 0, slots := 0, locals := 25 })).room s m ([.ref (ad a), va_re ad p0, .int p1] : List Value).toArray below meth c H locs 0 0 (MQ below (va_Qi (fun (q : Int32) (_ : Unit) => q = y.2) (fun _ t => kE D ct ad G A y.1 t) A) ([.ref (ad a), va_re ad p0, .int p1] : List Value).toArray s 0 0 A) (F0 m 234 ls []) := by
                  intro H locs ls hP hD hS hl
                  refine lv_goto (tgt := 32) hx hb dX8_readBoxes_234 (by decide) ?_
                  obtain rfl := Option.some.inj hF
                  exact hwz10 _ _ _ hP hD hS (lv_sub hl [4, 5, 6, 7, 8] rfl)
                clear hF
                have hF := hy87
                clear hy87
                refine lv_if_eq (tgt := 226) hx hb dX8_readBoxes_163 (by decide) (fun c88 => ?_) (fun c88 => ?_)
                · rw [if_pos c88] at hF
                  refine lv_iload hx hb dX8_readBoxes_226 (lv_at hl 4 rfl) ?_
                  refine lv_lload hx hb dX8_readBoxes_228 (lv_at hl 2 rfl) ?_
                  refine lv_l2i (v := y70.1.toInt32) hx hb dX8_readBoxes_230 rfl ?_
                  obtain ⟨x89, ex89, hF⟩ := ltt_some hF
                  refine lv_topi (fun zx89 ezx89 => ?_)
                  obtain rfl : x89 = zx89 := ex89.trans ezx89.symm
                  refine lv_iadd hx hb dX8_readBoxes_231 ?_
                  obtain ⟨x90, ex90, hF⟩ := ltt_some hF
                  refine lv_topi (fun zx90 ezx90 => ?_)
                  obtain rfl : x90 = zx90 := ex90.trans ezx90.symm
                  refine lv_istore (lv' := [(4, .int x90), (9, .int y80), (8, .int x78), (6, .long y70.1), (5, .int x69), (3, .int s8.1), (0, .ref (ad a)), (1, va_re ad p0), (2, .int p1)]) hx hb dX8_readBoxes_232 hl (by decide) rfl (fun ls hl => ?_)
                  obtain rfl := Option.some.inj hF
                  exact J87 _ _ _ hP hD hS (lv_sub hl [1, 2, 3, 4, 0, 5, 6, 7, 8] rfl)
                · rw [if_neg c88] at hF
                  refine lv_iload_n hx hb dX8_readBoxes_166 rfl (lv_at hl 5 rfl) ?_
                  refine lv_iconst (v := (2 : Int32)) hx hb dX8_readBoxes_167 (by decide) ?_
                  obtain ⟨y91, hy91, hF⟩ := bnd_some hF
                  have J91 : ∀ (H : Heap) (locs : List Loc) (ls : Array Slot), va_P D classes (wld ct ad G y91.2.2) H → va_D A (wld ct ad G y91.2.2) → va_S A s.heap H locs → lv_has ls 10 [(9, .int y80), (8, .int x78), (6, .long y70.1), (5, .int x69), (4, .int y91.2.1), (3, .int y91.1), (0, .ref (ad a)), (1, va_re ad p0), (2, .int p1)] → W p l e (headSpec wsX8_readBoxes ({ frames := 1, cells := 0, slots := 0, locals := 25 })).room s m ([.ref (ad a), va_re ad p0, .int p1] : List Value).toArray below meth c H locs 0 0 (MQ below (va_Qi (fun (q : Int32) (_ : Unit) => q = y.2) (fun _ t => kE D ct ad G A y.1 t) A) ([.ref (ad a), va_re ad p0, .int p1] : List Value).toArray s 0 0 A) (F0 m 234 ls []) := by
                    intro H locs ls hP hD hS hl
                    obtain rfl := Option.some.inj hF
                    exact J87 _ _ _ hP hD hS (lv_sub hl [0, 1, 2, 3, 4, 5, 6, 7, 8] rfl)
                  clear hF
                  have hF := hy91
                  clear hy91
                  refine lv_icmp_ge (tgt := 226) hx hb dX8_readBoxes_168 (by decide) (fun c92 => ?_) (fun c92 => ?_)
                  · rw [if_pos c92] at hF
                    refine lv_iload hx hb dX8_readBoxes_226 (lv_at hl 4 rfl) ?_
                    refine lv_lload hx hb dX8_readBoxes_228 (lv_at hl 2 rfl) ?_
                    refine lv_l2i (v := y70.1.toInt32) hx hb dX8_readBoxes_230 rfl ?_
                    obtain ⟨x93, ex93, hF⟩ := ltt_some hF
                    refine lv_topi (fun zx93 ezx93 => ?_)
                    obtain rfl : x93 = zx93 := ex93.trans ezx93.symm
                    refine lv_iadd hx hb dX8_readBoxes_231 ?_
                    obtain ⟨x94, ex94, hF⟩ := ltt_some hF
                    refine lv_topi (fun zx94 ezx94 => ?_)
                    obtain rfl : x94 = zx94 := ex94.trans ezx94.symm
                    refine lv_istore (lv' := [(4, .int x94), (9, .int y80), (8, .int x78), (6, .long y70.1), (5, .int x69), (3, .int s8.1), (0, .ref (ad a)), (1, va_re ad p0), (2, .int p1)]) hx hb dX8_readBoxes_232 hl (by decide) rfl (fun ls hl => ?_)
                    obtain rfl := Option.some.inj hF
                    exact J91 _ _ _ hP hD hS (lv_sub hl [1, 2, 3, 4, 0, 5, 6, 7, 8] rfl)
                  · rw [if_neg c92] at hF
                    refine lv_iload hx hb dX8_readBoxes_171 (lv_at hl 1 rfl) ?_
                    refine lv_iload_n hx hb dX8_readBoxes_173 rfl (lv_at hl 5 rfl) ?_
                    obtain ⟨y95, hy95, hF⟩ := bnd_some hF
                    have J95 : ∀ (H : Heap) (locs : List Loc) (ls : Array Slot), va_P D classes (wld ct ad G y86) H → va_D A (wld ct ad G y86) → va_S A s.heap H locs → lv_has ls 10 [(9, .int y80), (8, .int x78), (6, .long y70.1), (5, .int x69), (4, .int s8.2.1), (3, .int s8.1), (0, .ref (ad a)), (1, va_re ad p0), (2, .int p1)] → W p l e (headSpec wsX8_readBoxes ({ frames := 1, cells := 0, slots := 0, locals := 25 })).room s m ([.ref (ad a), va_re ad p0, .int p1] : List Value).toArray below meth c H locs 0 0 (MQ below (va_Qi (fun (q : Int32) (_ : Unit) => q = y.2) (fun _ t => kE D ct ad G A y.1 t) A) ([.ref (ad a), va_re ad p0, .int p1] : List Value).toArray s 0 0 A) (F0 m 184 ls [.int y95, .int x78]) := by
                      intro H locs ls hP hD hS hl
                      obtain ⟨y96, hy96, hF⟩ := bnd_some hF
                      have J96 : ∀ (H : Heap) (locs : List Loc) (ls : Array Slot), va_P D classes (wld ct ad G y96.2.2) H → va_D A (wld ct ad G y96.2.2) → va_S A s.heap H locs → lv_has ls 10 [(9, .int y80), (8, .int x78), (6, .long y70.1), (5, .int x69), (4, .int y96.2.1), (3, .int y96.1), (0, .ref (ad a)), (1, va_re ad p0), (2, .int p1)] → W p l e (headSpec wsX8_readBoxes ({ frames := 1, cells := 0, slots := 0, locals := 25 })).room s m ([.ref (ad a), va_re ad p0, .int p1] : List Value).toArray below meth c H locs 0 0 (MQ below (va_Qi (fun (q : Int32) (_ : Unit) => q = y.2) (fun _ t => kE D ct ad G A y.1 t) A) ([.ref (ad a), va_re ad p0, .int p1] : List Value).toArray s 0 0 A) (F0 m 234 ls []) := by
                        intro H locs ls hP hD hS hl
                        obtain rfl := Option.some.inj hF
                        exact J91 _ _ _ hP hD hS (lv_sub hl [0, 1, 2, 3, 4, 5, 6, 7, 8] rfl)
                      clear hF
                      have hF := hy96
                      clear hy96
                      refine lv_icmp_ne (tgt := 226) hx hb dX8_readBoxes_184 (by decide) (fun c97 => ?_) (fun c97 => ?_)
                      · rw [if_neg c97] at hF
                        refine lv_iload hx hb dX8_readBoxes_226 (lv_at hl 4 rfl) ?_
                        refine lv_lload hx hb dX8_readBoxes_228 (lv_at hl 2 rfl) ?_
                        refine lv_l2i (v := y70.1.toInt32) hx hb dX8_readBoxes_230 rfl ?_
                        obtain ⟨x98, ex98, hF⟩ := ltt_some hF
                        refine lv_topi (fun zx98 ezx98 => ?_)
                        obtain rfl : x98 = zx98 := ex98.trans ezx98.symm
                        refine lv_iadd hx hb dX8_readBoxes_231 ?_
                        obtain ⟨x99, ex99, hF⟩ := ltt_some hF
                        refine lv_topi (fun zx99 ezx99 => ?_)
                        obtain rfl : x99 = zx99 := ex99.trans ezx99.symm
                        refine lv_istore (lv' := [(4, .int x99), (9, .int y80), (8, .int x78), (6, .long y70.1), (5, .int x69), (3, .int s8.1), (0, .ref (ad a)), (1, va_re ad p0), (2, .int p1)]) hx hb dX8_readBoxes_232 hl (by decide) rfl (fun ls hl => ?_)
                        obtain rfl := Option.some.inj hF
                        exact J96 _ _ _ hP hD hS (lv_sub hl [1, 2, 3, 4, 0, 5, 6, 7, 8] rfl)
                      · rw [if_pos c97] at hF
                        obtain ⟨x100, ex100, hF⟩ := ltt_some hF
                        refine lv_iinc (v := x100) (lv' := [(3, .int x100), (9, .int y80), (8, .int x78), (6, .long y70.1), (5, .int x69), (4, .int s8.2.1), (0, .ref (ad a)), (1, va_re ad p0), (2, .int p1)]) hx hb dX8_readBoxes_187 hl (k := 5) rfl (by rw [ex100]; rfl) (by decide) rfl (fun ls hl => ?_)
                        refine lv_aload_n hx hb dX8_readBoxes_190 rfl (lv_at hl 6 rfl) ?_
                        refine va_get (D := D) (ci := 8) (v := va_re ad (y86.2 a 13)) (C := RX8) (T := TX8) (N := 15) hx hb hts (by decide +kernel) hown hK hP a (wld_o ct ad G y86 hc hk (by decide)) rfl 13 (by decide) (hts (.fieldLink RX8 38 "VideoSuite$Units" "nest" "[I") (by decide +kernel)) (fun _ h9 => h9) rfl dX8_readBoxes_191 ?_
                        refine lv_iconst (v := (2 : Int32)) hx hb dX8_readBoxes_194 (by decide) ?_
                        refine lv_iload_n hx hb dX8_readBoxes_195 rfl (lv_at hl 0 rfl) ?_
                        refine lv_imul hx hb dX8_readBoxes_196 ?_
                        obtain ⟨x101, ex101, hF⟩ := ltt_some hF
                        refine lv_topi (fun zx101 ezx101 => ?_)
                        obtain rfl : x101 = zx101 := ex101.trans ezx101.symm
                        refine lv_iload hx hb dX8_readBoxes_197 (lv_at hl 5 rfl) ?_
                        refine lv_lload hx hb dX8_readBoxes_199 (lv_at hl 3 rfl) ?_
                        refine lv_l2i (v := y70.1.toInt32) hx hb dX8_readBoxes_201 rfl ?_
                        obtain ⟨x102, ex102, hF⟩ := ltt_some hF
                        refine lv_topi (fun zx102 ezx102 => ?_)
                        obtain rfl : x102 = zx102 := ex102.trans ezx102.symm
                        refine lv_iadd hx hb dX8_readBoxes_202 ?_
                        obtain ⟨x103, ex103, hF⟩ := ltt_some hF
                        refine lv_topi (fun zx103 ezx103 => ?_)
                        obtain rfl : x103 = zx103 := ex103.trans ezx103.symm
                        obtain ⟨b104, ho104, hc104, hk104, hF⟩ := dr_some hF
                        refine W_st (st' := [.int x103, .int x101, .ref (ad b104)]) (by rw [va_some ho104]) ?_
                        obtain ⟨hvc, hF⟩ := chk_some hF
                        refine va_iast hx hb hK hP hD hS b104 1 (wld_i ct ad G y86 hc104 hk104) rfl hvc dX8_readBoxes_203 (fun H locs hP hD hS => ?_)
                        obtain ⟨M105, eM105, hF⟩ := ltt_some hF
                        rw [set_i ct ad G y86 hc104 hk104, ← eM105] at hP hD
                        refine lv_aload_n hx hb dX8_readBoxes_204 rfl (lv_at hl 6 rfl) ?_
                        refine va_get (D := D) (ci := 8) (v := va_re ad (M105.2 a 13)) (C := RX8) (T := TX8) (N := 15) hx hb hts (by decide +kernel) hown hK hP a (wld_o ct ad G M105 hc hk (by decide)) rfl 13 (by decide) (hts (.fieldLink RX8 38 "VideoSuite$Units" "nest" "[I") (by decide +kernel)) (fun _ h9 => h9) rfl dX8_readBoxes_205 ?_
                        refine lv_iconst (v := (2 : Int32)) hx hb dX8_readBoxes_208 (by decide) ?_
                        refine lv_iload_n hx hb dX8_readBoxes_209 rfl (lv_at hl 0 rfl) ?_
                        refine lv_imul hx hb dX8_readBoxes_210 ?_
                        obtain ⟨x106, ex106, hF⟩ := ltt_some hF
                        refine lv_topi (fun zx106 ezx106 => ?_)
                        obtain rfl : x106 = zx106 := ex106.trans ezx106.symm
                        refine lv_iconst (v := (1 : Int32)) hx hb dX8_readBoxes_211 (by decide) ?_
                        refine lv_iadd hx hb dX8_readBoxes_212 ?_
                        obtain ⟨x107, ex107, hF⟩ := ltt_some hF
                        refine lv_topi (fun zx107 ezx107 => ?_)
                        obtain rfl : x107 = zx107 := ex107.trans ezx107.symm
                        refine lv_aload_n hx hb dX8_readBoxes_213 rfl (lv_at hl 6 rfl) ?_
                        refine va_get (D := D) (ci := 8) (v := .int (M105.1 a 11)) (C := RX8) (T := TX8) (N := 15) hx hb hts (by decide +kernel) hown hK hP a (wld_o ct ad G M105 hc hk (by decide)) rfl 11 (by decide) (hts (.fieldLink RX8 95 "VideoSuite$Units" "boxCount" "I") (by decide +kernel)) (fun _ h9 => h9) rfl dX8_readBoxes_214 ?_
                        obtain ⟨x108, ex108, hF⟩ := ltt_some hF
                        refine lv_topi (fun zx108 ezx108 => ?_)
                        obtain rfl : x108 = zx108 := ex108.trans ezx108.symm
                        refine lv_iconst (v := (1 : Int32)) hx hb dX8_readBoxes_217 (by decide) ?_
                        refine lv_isub hx hb dX8_readBoxes_218 ?_
                        obtain ⟨x109, ex109, hF⟩ := ltt_some hF
                        refine lv_topi (fun zx109 ezx109 => ?_)
                        obtain rfl : x109 = zx109 := ex109.trans ezx109.symm
                        obtain ⟨b110, ho110, hc110, hk110, hF⟩ := dr_some hF
                        refine W_st (st' := [.int x109, .int x107, .ref (ad b110)]) (by rw [va_some ho110]) ?_
                        obtain ⟨hvc, hF⟩ := chk_some hF
                        refine va_iast hx hb hK hP hD hS b110 1 (wld_i ct ad G M105 hc110 hk110) rfl hvc dX8_readBoxes_219 (fun H locs hP hD hS => ?_)
                        obtain ⟨M111, eM111, hF⟩ := ltt_some hF
                        rw [set_i ct ad G M105 hc110 hk110, ← eM111] at hP hD
                        obtain ⟨x112, ex112, hF⟩ := ltt_some hF
                        refine lv_iinc (v := x112) (lv' := [(4, .int x112), (3, .int x100), (9, .int y80), (8, .int x78), (6, .long y70.1), (5, .int x69), (0, .ref (ad a)), (1, va_re ad p0), (2, .int p1)]) hx hb dX8_readBoxes_220 hl (k := 5) rfl (by rw [ex112]; rfl) (by decide) rfl (fun ls hl => ?_)
                        refine lv_goto (tgt := 234) hx hb dX8_readBoxes_223 (by decide) ?_
                        obtain rfl := Option.some.inj hF
                        exact J96 _ _ _ hP hD hS (lv_sub hl [2, 3, 4, 5, 0, 1, 6, 7, 8] rfl)
                    clear hF
                    have hF := hy95
                    clear hy95
                    refine lv_if_ne (tgt := 182) hx hb dX8_readBoxes_174 (by decide) (fun c113 => ?_) (fun c113 => ?_)
                    · rw [if_neg c113] at hF
                      refine lv_ldc (v := (1953653099 : Int32)) hx hb hown (hts (.constant RX8 87 (1953653099 : Int32)) (by decide +kernel)) dX8_readBoxes_182 ?_
                      obtain rfl := Option.some.inj hF
                      exact J95 _ _ _ hP hD hS (lv_sub hl [0, 1, 2, 3, 4, 5, 6, 7, 8] rfl)
                    · rw [if_pos c113] at hF
                      refine lv_ldc (v := (1836019574 : Int32)) hx hb hown (hts (.constant RX8 85 (1836019574 : Int32)) (by decide +kernel)) dX8_readBoxes_177 ?_
                      refine lv_goto (tgt := 184) hx hb dX8_readBoxes_179 (by decide) ?_
                      obtain rfl := Option.some.inj hF
                      exact J95 _ _ _ hP hD hS (lv_sub hl [0, 1, 2, 3, 4, 5, 6, 7, 8] rfl)
              clear hF
              have hF := hy80
              clear hy80
              refine lv_icmp_ge (tgt := 137) hx hb dX8_readBoxes_130 (by decide) (fun c114 => ?_) (fun c114 => ?_)
              · rw [if_pos c114] at hF
                refine lv_iconst (v := (0 : Int32)) hx hb dX8_readBoxes_137 (by decide) ?_
                obtain rfl := Option.some.inj hF
                exact J80 _ _ _ hP hD hS (lv_sub hl [0, 1, 2, 3, 4, 5, 6, 7] rfl)
              · rw [if_neg c114] at hF
                refine lv_iconst (v := (1 : Int32)) hx hb dX8_readBoxes_133 (by decide) ?_
                refine lv_goto (tgt := 138) hx hb dX8_readBoxes_134 (by decide) ?_
                obtain rfl := Option.some.inj hF
                exact J80 _ _ _ hP hD hS (lv_sub hl [0, 1, 2, 3, 4, 5, 6, 7] rfl)
            · rw [if_neg c75] at hF
              refine lv_iconst (v := (0 : Int32)) hx hb dX8_readBoxes_111 (by decide) ?_
              obtain ⟨hz9, hF⟩ := chk_some hF
              obtain rfl := Option.some.inj hF
              have hF := sel_inr (hwz10 ▸ hR7)
              obtain rfl := Option.some.inj hF
              exact W.zret (v := (0 : Int32)) (ty := .boolean) hx hb hr (nar_z hz9).1 (fun t ht hW => ⟨⟨_, (), rfl, rfl, ⟨by rw [ht]; exact hP, va_K.moved hW.alike hK, hD⟩⟩, hS.F ht⟩) hS.2.2 dX8_readBoxes_112
        clear hF
        have hF := hy70
        clear hy70
        refine lv_icmp_ge (tgt := 85) hx hb dX8_readBoxes_78 (by decide) (fun c115 => ?_) (fun c115 => ?_)
        · rw [if_pos c115] at hF
          refine lv_aloadq_n hx hb dX8_readBoxes_85 rfl (lv_at hl 4 rfl) ?_
          refine lv_iload hx hb dX8_readBoxes_86 (lv_at hl 1 rfl) ?_
          obtain ⟨y116, hy116, hF⟩ := bnd_some hF
          have hf9 := wA_in hD hA9 hS
          refine va_calll (va_runS (As := [va_re ad p0, .int s8.2.1]) (rest := []) ⟨hx, hb, hml, hown, hts⟩ (kX8_number4 l D ct ad Z G s8.2.2 H.size p0 s8.2.1 y116 hy116) (va_cwS 2 hts gX8_readBoxes_X8_number4 rfl rfl rfl (by decide +kernel) ⟨Nat.le_of_ble_eq_true rfl, Nat.le_of_ble_eq_true rfl⟩) ⟨fun a U g mk q => by obtain ⟨q0, q1, qP, qK, qD, qZ, qN⟩ := q; exact ⟨q0, q1, qP, va_K.moved (u := U) (U := U.calling g mk a) (Vm.Alike.refl U.vm) qK, qD, sF.moved (u := U) (U := U.calling g mk a) (Vm.Alike.refl U.vm) qZ, nF.same rfl qN⟩, fun U hU hW => ⟨rfl, by rw [hU], by rw [hU]; exact hP, va_K.moved hW.alike hK, hD.weaken (fun _ _ _ _ => trivial), by rw [hU]; exact ((hZ.kept hS.2.1).narrow hf9).moved hW.alike, hN.warm hW⟩⟩ rfl rfl hl.1 rfl (lv_room (Nat.le_of_ble_eq_true rfl)) dX8_readBoxes_88 ⟨(Nat.zero_le _), (Nat.zero_le _)⟩) hS (fun q _ h => hf9 q h) hf9 (fun r u t H locs ht hvm hw hB hz1 hk1 hS => ?_)
          obtain ⟨hP, hK9, hD9⟩ := hB
          rw [ht] at hP
          try dsimp only at hw
          subst hw
          have hD := hD9.weaken (fun _ q _ h => hf9 q.1 h)
          obtain rfl := Option.some.inj hF
          exact J70 _ _ _ hP hD hS (lv_sub hl [0, 1, 2, 3, 4, 5] rfl)
        · rw [if_neg c115] at hF
          refine lv_lconst (v := (0 : Int64)) hx hb dX8_readBoxes_81 rfl ?_
          refine lv_goto (tgt := 91) hx hb dX8_readBoxes_82 (by decide) ?_
          obtain rfl := Option.some.inj hF
          exact J70 _ _ _ hP hD hS (lv_sub hl [0, 1, 2, 3, 4, 5] rfl)
      · rw [if_neg c66] at hF
        obtain ⟨x117, ex117, hF⟩ := ltt_some hF
        refine lv_iinc (v := x117) (lv' := [(3, .int x117), (4, .int s8.2.1), (0, .ref (ad a)), (1, va_re ad p0), (2, .int p1)]) hx hb dX8_readBoxes_55 hl (k := 1) rfl (by rw [ex117]; rfl) (by decide) rfl (fun ls hl => ?_)
        refine lv_goto (tgt := 32) hx hb dX8_readBoxes_58 (by decide) ?_
        obtain rfl := Option.some.inj hF
        exact hwz10 _ _ _ hP hD hS (lv_sub hl [1, 0, 2, 3, 4] rfl)
