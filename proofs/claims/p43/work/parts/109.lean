theorem dX8_keepFound_0 : decode cX8_keepFound 0 = .ok (.iconst 0, 1) := by decide +kernel
theorem dX8_keepFound_1 : decode cX8_keepFound 1 = .ok (.istore_n 2, 1) := by decide +kernel
theorem dX8_keepFound_2 : decode cX8_keepFound 2 = .ok (.iconst 0, 1) := by decide +kernel
theorem dX8_keepFound_3 : decode cX8_keepFound 3 = .ok (.istore_n 3, 1) := by decide +kernel
theorem dX8_keepFound_4 : decode cX8_keepFound 4 = .ok (.iload_n 3, 1) := by decide +kernel
theorem dX8_keepFound_5 : decode cX8_keepFound 5 = .ok (.aload_n 0, 1) := by decide +kernel
theorem dX8_keepFound_6 : decode cX8_keepFound 6 = .ok (.getfield 45, 3) := by decide +kernel
theorem dX8_keepFound_9 : decode cX8_keepFound 9 = .ok (.if_icmp .ge 80, 3) := by decide +kernel
theorem dX8_keepFound_12 : decode cX8_keepFound 12 = .ok (.aload_n 0, 1) := by decide +kernel
theorem dX8_keepFound_13 : decode cX8_keepFound 13 = .ok (.getfield 26, 3) := by decide +kernel
theorem dX8_keepFound_16 : decode cX8_keepFound 16 = .ok (.iload_n 3, 1) := by decide +kernel
theorem dX8_keepFound_17 : decode cX8_keepFound 17 = .ok (.iaload, 1) := by decide +kernel
theorem dX8_keepFound_18 : decode cX8_keepFound 18 = .ok (.istore 4, 2) := by decide +kernel
theorem dX8_keepFound_20 : decode cX8_keepFound 20 = .ok (.iload 4, 2) := by decide +kernel
theorem dX8_keepFound_22 : decode cX8_keepFound 22 = .ok (.aload_n 0, 1) := by decide +kernel
theorem dX8_keepFound_23 : decode cX8_keepFound 23 = .ok (.getfield 10, 3) := by decide +kernel
theorem dX8_keepFound_26 : decode cX8_keepFound 26 = .ok (.arraylength, 1) := by decide +kernel
theorem dX8_keepFound_27 : decode cX8_keepFound 27 = .ok (.iload_n 2, 1) := by decide +kernel
theorem dX8_keepFound_28 : decode cX8_keepFound 28 = .ok (.isub, 1) := by decide +kernel
theorem dX8_keepFound_29 : decode cX8_keepFound 29 = .ok (.if_icmp .gt 34, 3) := by decide +kernel
theorem dX8_keepFound_32 : decode cX8_keepFound 32 = .ok (.iload 4, 2) := by decide +kernel
theorem dX8_keepFound_34 : decode cX8_keepFound 34 = .ok (.aload_n 1, 1) := by decide +kernel
theorem dX8_keepFound_35 : decode cX8_keepFound 35 = .ok (.arraylength, 1) := by decide +kernel
theorem dX8_keepFound_36 : decode cX8_keepFound 36 = .ok (.aload_n 0, 1) := by decide +kernel
theorem dX8_keepFound_37 : decode cX8_keepFound 37 = .ok (.getfield 23, 3) := by decide +kernel
theorem dX8_keepFound_40 : decode cX8_keepFound 40 = .ok (.iload_n 3, 1) := by decide +kernel
theorem dX8_keepFound_41 : decode cX8_keepFound 41 = .ok (.iaload, 1) := by decide +kernel
theorem dX8_keepFound_42 : decode cX8_keepFound 42 = .ok (.isub, 1) := by decide +kernel
theorem dX8_keepFound_43 : decode cX8_keepFound 43 = .ok (.if_icmp .gt 20, 3) := by decide +kernel
theorem dX8_keepFound_46 : decode cX8_keepFound 46 = .ok (.aload_n 1, 1) := by decide +kernel
theorem dX8_keepFound_47 : decode cX8_keepFound 47 = .ok (.aload_n 0, 1) := by decide +kernel
theorem dX8_keepFound_48 : decode cX8_keepFound 48 = .ok (.getfield 23, 3) := by decide +kernel
theorem dX8_keepFound_51 : decode cX8_keepFound 51 = .ok (.iload_n 3, 1) := by decide +kernel
theorem dX8_keepFound_52 : decode cX8_keepFound 52 = .ok (.iaload, 1) := by decide +kernel
theorem dX8_keepFound_53 : decode cX8_keepFound 53 = .ok (.aload_n 0, 1) := by decide +kernel
theorem dX8_keepFound_54 : decode cX8_keepFound 54 = .ok (.getfield 10, 3) := by decide +kernel
theorem dX8_keepFound_57 : decode cX8_keepFound 57 = .ok (.iload_n 2, 1) := by decide +kernel
theorem dX8_keepFound_58 : decode cX8_keepFound 58 = .ok (.iload 4, 2) := by decide +kernel
theorem dX8_keepFound_60 : decode cX8_keepFound 60 = .ok (.invokestatic 56, 3) := by decide +kernel
theorem dX8_keepFound_63 : decode cX8_keepFound 63 = .ok (.aload_n 0, 1) := by decide +kernel
theorem dX8_keepFound_64 : decode cX8_keepFound 64 = .ok (.getfield 16, 3) := by decide +kernel
theorem dX8_keepFound_67 : decode cX8_keepFound 67 = .ok (.iload_n 3, 1) := by decide +kernel
theorem dX8_keepFound_68 : decode cX8_keepFound 68 = .ok (.iload_n 2, 1) := by decide +kernel
theorem dX8_keepFound_69 : decode cX8_keepFound 69 = .ok (.iastore, 1) := by decide +kernel
theorem dX8_keepFound_70 : decode cX8_keepFound 70 = .ok (.aload_n 0, 1) := by decide +kernel
theorem dX8_keepFound_71 : decode cX8_keepFound 71 = .ok (.getfield 20, 3) := by decide +kernel
theorem dX8_keepFound_74 : decode cX8_keepFound 74 = .ok (.iload_n 3, 1) := by decide +kernel
theorem dX8_keepFound_75 : decode cX8_keepFound 75 = .ok (.iload 4, 2) := by decide +kernel
theorem dX8_keepFound_77 : decode cX8_keepFound 77 = .ok (.iastore, 1) := by decide +kernel
theorem dX8_keepFound_78 : decode cX8_keepFound 78 = .ok (.iload_n 2, 1) := by decide +kernel
theorem dX8_keepFound_79 : decode cX8_keepFound 79 = .ok (.iload 4, 2) := by decide +kernel
theorem dX8_keepFound_81 : decode cX8_keepFound 81 = .ok (.iadd, 1) := by decide +kernel
theorem dX8_keepFound_82 : decode cX8_keepFound 82 = .ok (.istore_n 2, 1) := by decide +kernel
theorem dX8_keepFound_83 : decode cX8_keepFound 83 = .ok (.iinc 3 1, 3) := by decide +kernel
theorem dX8_keepFound_86 : decode cX8_keepFound 86 = .ok (.goto (-82), 3) := by decide +kernel
theorem dX8_keepFound_89 : decode cX8_keepFound 89 = .ok (.aload_n 0, 1) := by decide +kernel
theorem dX8_keepFound_90 : decode cX8_keepFound 90 = .ok (.aload_n 0, 1) := by decide +kernel
theorem dX8_keepFound_91 : decode cX8_keepFound 91 = .ok (.getfield 45, 3) := by decide +kernel
theorem dX8_keepFound_94 : decode cX8_keepFound 94 = .ok (.putfield 41, 3) := by decide +kernel
theorem dX8_keepFound_97 : decode cX8_keepFound 97 = .ok (.aload_n 0, 1) := by decide +kernel
theorem dX8_keepFound_98 : decode cX8_keepFound 98 = .ok (.iconst 0, 1) := by decide +kernel
theorem dX8_keepFound_99 : decode cX8_keepFound 99 = .ok (.putfield 62, 3) := by decide +kernel
theorem dX8_keepFound_102 : decode cX8_keepFound 102 = .ok (.return_, 1) := by decide +kernel
def FX8_keepFound (G : GG) (M : DD) (a : Nat) (p0 : Option Nat) : Option (DD) :=
  bnd (itr (fun (s2 : Int32 × Int32 × DD) => ((ltt (s2.2.2.1 a 7) fun x8 =>
  if x8 ≤ s2.2.1 then (some (.inr (s2.1, s2.2.1, s2.2.2))) else
  (dr G 13 ((s2.2.2.2 a 6)) fun b10 =>
  chk (¬ (s2.2.1 < 0 ∨ G.2.2 b10 ≤ s2.2.1.toNatClampNeg)) <|
  ltt (s2.2.2.1 b10 s2.2.1.toNatClampNeg) fun x11 =>
  dr G 12 ((s2.2.2.2 a 0)) fun b12 =>
  ltt (Int32.ofNat (G.2.2 b12)) fun x13 =>
  ltt ((x13 - s2.1)) fun x14 =>
  bnd (if x14 < x11 then (some (s2.2.2)) else
  (dr G 12 p0 fun b23 =>
  ltt (Int32.ofNat (G.2.2 b23)) fun x24 =>
  dr G 13 ((s2.2.2.2 a 5)) fun b25 =>
  chk (¬ (s2.2.1 < 0 ∨ G.2.2 b25 ≤ s2.2.1.toNatClampNeg)) <|
  ltt (s2.2.2.1 b25 s2.2.1.toNatClampNeg) fun x26 =>
  ltt ((x24 - x26)) fun x27 =>
  bnd (if x27 < x11 then (some (s2.2.2)) else
  (chk (¬ (s2.2.1 < 0 ∨ G.2.2 b25 ≤ s2.2.1.toNatClampNeg)) <|
  ltt (s2.2.2.1 b25 s2.2.1.toNatClampNeg) fun x30 =>
  chk (¬ x30 < 0 ∧ ¬ s2.1 < 0 ∧ ¬ x11 < 0 ∧ x30.toNatClampNeg + x11.toNatClampNeg ≤ G.2.2 b23 ∧ s2.1.toNatClampNeg + x11.toNatClampNeg ≤ G.2.2 b12) <|
  chk (∀ i, i < x11.toNatClampNeg → fits .byte (.int (s2.2.2.1 b23 (x30.toNatClampNeg + i))) = true) <|
  ltt (rI s2.2.2 b12 (va_cpy (s2.2.2.1 b23) (s2.2.2.1 b12) x30.toNatClampNeg s2.1.toNatClampNeg x11.toNatClampNeg)) fun M31 =>
  some (M31))) fun (y28 : DD) =>
  some (y28))) fun (y15 : DD) =>
  dr G 13 ((y15.2 a 1)) fun b16 =>
  chk (¬ (s2.2.1 < 0 ∨ G.2.2 b16 ≤ s2.2.1.toNatClampNeg)) <|
  ltt (uI y15 b16 s2.2.1.toNatClampNeg s2.1) fun M17 =>
  dr G 13 ((M17.2 a 2)) fun b18 =>
  chk (¬ (s2.2.1 < 0 ∨ G.2.2 b18 ≤ s2.2.1.toNatClampNeg)) <|
  ltt (uI M17 b18 s2.2.1.toNatClampNeg x11) fun M19 =>
  ltt ((s2.1 + x11)) fun x20 =>
  ltt (s2.2.1 + (1 : Int32)) fun x21 =>
  some (.inl (x20, x21, M19)))) : Option ((Int32 × Int32 × DD) ⊕ (Int32 × Int32 × DD)))) 1000000 ((0 : Int32), (0 : Int32), M)) fun (y1 : Int32 × Int32 × DD) =>
  ltt (y1.2.2.1 a 7) fun x4 =>
  ltt (uI y1.2.2 a 3 x4) fun M5 =>
  ltt (uI M5 a 4 ((0 : Int32))) fun M6 =>
  some M6
set_option maxHeartbeats 4000000 in
set_option maxRecDepth 100000 in
theorem kX8_keepFound (l : Launch) (D : va_G) (ct : CT) (ad : Nat → Nat) (Z : Nat → Nat) (G : GG) (M : DD) (sz : Nat) (a : Nat) (p0 : Option Nat) (y : DD) (hc : a < G.1) (hk : G.2.1 a = 8) (hF : FX8_keepFound G M a p0 = some y) : Met l yX8_keepFound wuX8_keepFound ({ frames := 1, cells := 0, slots := 0, locals := 80 }) (va_Pc [.ref (ad a), va_re ad p0] (kB D ct ad Z G M sz)) (va_Qv (fun (_ : Unit) => True) (fun _ t => kE D ct ad G (wA ad G sz) y t) (wA ad G sz)) 0 0 (wA ad G sz) := by
  refine Met.ofW (cc := cX8_keepFound) (maxL := 5) (ret := none) (by decide) rfl ?_
  intro p e s m args below meth c s₁ B hml hv
  obtain ⟨rfl, hsz, hP, hK, hD0, hZ, hN⟩ := hv
  have hx := B.exec
  have hb := B.bytes
  have hr := B.returns
  have hts := atoms_spec (ws := wuX8_keepFound) B.pre
  have hown : s.vm.findClass RX8 = some m.cls := findClass_of_methodNamed B.named
  have hlocks := B.notSynchronized
  subst hsz
  have hD := wD_self (sz := s.heap.size) hD0
  have hA9 : ∀ q, s.heap.size ≤ q → wA ad G s.heap.size q := fun q h => Or.inr h
  generalize hAe : wA ad G s.heap.size = A at hD hA9 hZ ⊢
  have hS : va_S A s.heap s.heap [] := va_S.rf
  have hl := lv_entry ([.ref (ad a), va_re ad p0]) (n := 5) (by cases p0 <;> exact Nat.le_of_ble_eq_true rfl)
  rw [lg_entry_eq]
  generalize (lg_sl ([.ref (ad a), va_re ad p0]) ++ List.replicate (5 - (lg_sl ([.ref (ad a), va_re ad p0])).length) Slot.unset).toArray = ls at hl ⊢
  have hl : lv_has ls 5 [(0, .ref (ad a)), (1, va_re ad p0)] := by have e9 : lv_args 0 [.ref (ad a), va_re ad p0] = [(0, .ref (ad a)), (1, va_re ad p0)] := (by cases p0 <;> rfl); rw [e9] at hl; exact hl
  unfold FX8_keepFound at hF
  refine lv_iconst (v := (0 : Int32)) hx hb dX8_keepFound_0 (by decide) ?_
  refine lv_istore_n (lv' := [(2, .int (0 : Int32)), (0, .ref (ad a)), (1, va_re ad p0)]) hx hb dX8_keepFound_1 rfl hl (by decide) (by generalize p0 = o9; cases o9 <;> rfl) (fun ls hl => ?_)
  refine lv_iconst (v := (0 : Int32)) hx hb dX8_keepFound_2 (by decide) ?_
  refine lv_istore_n (lv' := [(3, .int (0 : Int32)), (2, .int (0 : Int32)), (0, .ref (ad a)), (1, va_re ad p0)]) hx hb dX8_keepFound_3 rfl hl (by decide) rfl (fun ls hl => ?_)
  obtain ⟨y1, hy1, hF⟩ := bnd_some hF
  have K1 : ∀ (H : Heap) (locs : List Loc) (ls : Array Slot), va_P D classes (wld ct ad G y1.2.2) H → va_D A (wld ct ad G y1.2.2) → va_S A s.heap H locs → lv_has ls 5 [(3, .int y1.2.1), (2, .int y1.1), (0, .ref (ad a)), (1, va_re ad p0)] → W p l e (headSpec wuX8_keepFound ({ frames := 1, cells := 0, slots := 0, locals := 80 })).room s m ([.ref (ad a), va_re ad p0] : List Value).toArray below meth c H locs 0 0 (MQ below (va_Qv (fun (_ : Unit) => True) (fun _ t => kE D ct ad G A y t) A) ([.ref (ad a), va_re ad p0] : List Value).toArray s 0 0 A) (F0 m 89 ls []) := by
    intro H locs ls hP hD hS hl
    refine lv_aload_n hx hb dX8_keepFound_89 rfl (lv_at hl 2 rfl) ?_
    refine lv_aload_n hx hb dX8_keepFound_90 rfl (lv_at hl 2 rfl) ?_
    refine va_get (D := D) (ci := 8) (v := .int (y1.2.2.1 a 7)) (C := RX8) (T := TX8) (N := 15) hx hb hts (mus hf_X8) hown hK hP a (wld_o ct ad G y1.2.2 hc hk (by decide)) rfl 7 (by decide) (hts (.fieldLink RX8 45 "VideoSuite$Units" "found" "I") (mu mw_222)) (fun _ h9 => h9) rfl dX8_keepFound_91 ?_
    obtain ⟨x4, ex4, hF⟩ := ltt_some hF
    refine lv_topi (fun zx4 ezx4 => ?_)
    obtain rfl : x4 = zx4 := ex4.trans ezx4.symm
    refine va_put (D := D) (ci := 8) (v := .int x4) (ty := .int) (C := RX8) (T := TX8) (N := 15) hx hb hts (mus hf_X8) tyX8 tyX8_ok nmX8 hown hK hP hD hS a (wld_o ct ad G y1.2.2 hc hk (by decide)) rfl 3 (by decide) (hts (.fieldLink RX8 41 "VideoSuite$Units" "count" "I") (mu mw_216)) (fun _ h9 => h9) rfl (by decide +kernel) rfl rfl (Nat.le_of_ble_eq_true rfl) dX8_keepFound_94 (fun H locs hP hD hS => ?_)
    obtain ⟨M5, eM5, hF⟩ := ltt_some hF
    rw [set_oI ct ad G y1.2.2 hc hk (by decide) (by rfl), ← eM5] at hP hD
    refine lv_aload_n hx hb dX8_keepFound_97 rfl (lv_at hl 2 rfl) ?_
    refine lv_iconst (v := (0 : Int32)) hx hb dX8_keepFound_98 (by decide) ?_
    refine va_put (D := D) (ci := 8) (v := .int (0 : Int32)) (ty := .int) (C := RX8) (T := TX8) (N := 15) hx hb hts (mus hf_X8) tyX8 tyX8_ok nmX8 hown hK hP hD hS a (wld_o ct ad G M5 hc hk (by decide)) rfl 4 (by decide) (hts (.fieldLink RX8 62 "VideoSuite$Units" "decoded" "I") (mu mw_218)) (fun _ h9 => h9) rfl (by decide +kernel) rfl rfl (Nat.le_of_ble_eq_true rfl) dX8_keepFound_99 (fun H locs hP hD hS => ?_)
    obtain ⟨M6, eM6, hF⟩ := ltt_some hF
    rw [set_oI ct ad G M5 hc hk (by decide) (by rfl), ← eM6] at hP hD
    obtain rfl := Option.some.inj hF
    exact W.vret hx hb hr (fun t ht hW => ⟨⟨(), rfl, trivial, ⟨by rw [ht]; exact hP, va_K.moved hW.alike hK, hD⟩⟩, hS.F ht⟩) hS.2.2 dX8_keepFound_102
  clear hF
  refine itr_rule (fun (s2 : Int32 × Int32 × DD) => ∀ (H : Heap) (locs : List Loc) (ls : Array Slot), va_P D classes (wld ct ad G s2.2.2) H → va_D A (wld ct ad G s2.2.2) → va_S A s.heap H locs → lv_has ls 5 [(3, .int s2.2.1), (2, .int s2.1), (0, .ref (ad a)), (1, va_re ad p0)] → W p l e (headSpec wuX8_keepFound ({ frames := 1, cells := 0, slots := 0, locals := 80 })).room s m ([.ref (ad a), va_re ad p0] : List Value).toArray below meth c H locs 0 0 (MQ below (va_Qv (fun (_ : Unit) => True) (fun _ t => kE D ct ad G A y t) A) ([.ref (ad a), va_re ad p0] : List Value).toArray s 0 0 A) (F0 m 4 ls [])) ?_ _ _ hy1 _ _ _ hP hD hS (lv_sub hl [0, 1, 2, 3] rfl)
  rintro s2 ⟨z7, hF, hwz7⟩ H locs ls hP hD hS hl
  try dsimp only at hF
  refine lv_iload_n hx hb dX8_keepFound_4 rfl (lv_at hl 0 rfl) ?_
  refine lv_aload_n hx hb dX8_keepFound_5 rfl (lv_at hl 2 rfl) ?_
  refine va_get (D := D) (ci := 8) (v := .int (s2.2.2.1 a 7)) (C := RX8) (T := TX8) (N := 15) hx hb hts (mus hf_X8) hown hK hP a (wld_o ct ad G s2.2.2 hc hk (by decide)) rfl 7 (by decide) (hts (.fieldLink RX8 45 "VideoSuite$Units" "found" "I") (mu mw_222)) (fun _ h9 => h9) rfl dX8_keepFound_6 ?_
  obtain ⟨x8, ex8, hF⟩ := ltt_some hF
  refine lv_topi (fun zx8 ezx8 => ?_)
  obtain rfl : x8 = zx8 := ex8.trans ezx8.symm
  refine lv_icmp_ge (tgt := 89) hx hb dX8_keepFound_9 (by decide) (fun c9 => ?_) (fun c9 => ?_)
  · rw [if_pos c9] at hF
    obtain rfl := Option.some.inj hF
    subst hwz7
    exact K1 _ _ _ hP hD hS (lv_sub hl [0, 1, 2, 3] rfl)
  · rw [if_neg c9] at hF
    refine lv_aload_n hx hb dX8_keepFound_12 rfl (lv_at hl 2 rfl) ?_
    refine va_get (D := D) (ci := 8) (v := va_re ad (s2.2.2.2 a 6)) (C := RX8) (T := TX8) (N := 15) hx hb hts (mus hf_X8) hown hK hP a (wld_o ct ad G s2.2.2 hc hk (by decide)) rfl 6 (by decide) (hts (.fieldLink RX8 26 "VideoSuite$Units" "foundSize" "[I") (mu mw_221)) (fun _ h9 => h9) rfl dX8_keepFound_13 ?_
    refine lv_iload_n hx hb dX8_keepFound_16 rfl (lv_at hl 0 rfl) ?_
    obtain ⟨b10, ho10, hc10, hk10, hF⟩ := dr_some hF
    refine W_st (st' := [.int s2.2.1, .ref (ad b10)]) (by rw [va_some ho10]) ?_
    obtain ⟨hvc, hF⟩ := chk_some hF
    refine va_iald hx hb hK hP b10 1 (wld_i ct ad G s2.2.2 hc10 hk10) rfl hvc dX8_keepFound_17 ?_
    obtain ⟨x11, ex11, hF⟩ := ltt_some hF
    refine lv_topi (fun zx11 ezx11 => ?_)
    obtain rfl : x11 = zx11 := ex11.trans ezx11.symm
    refine lv_istore (lv' := [(4, .int x11), (3, .int s2.2.1), (2, .int s2.1), (0, .ref (ad a)), (1, va_re ad p0)]) hx hb dX8_keepFound_18 hl (by decide) rfl (fun ls hl => ?_)
    refine lv_iload hx hb dX8_keepFound_20 (lv_at hl 0 rfl) ?_
    refine lv_aload_n hx hb dX8_keepFound_22 rfl (lv_at hl 3 rfl) ?_
    refine va_get (D := D) (ci := 8) (v := va_re ad (s2.2.2.2 a 0)) (C := RX8) (T := TX8) (N := 15) hx hb hts (mus hf_X8) hown hK hP a (wld_o ct ad G s2.2.2 hc hk (by decide)) rfl 0 (by decide) (hts (.fieldLink RX8 10 "VideoSuite$Units" "bytes" "[B") (mu mw_212)) (fun _ h9 => h9) rfl dX8_keepFound_23 ?_
    obtain ⟨b12, ho12, hc12, hk12, hF⟩ := dr_some hF
    refine W_st (st' := [.ref (ad b12), .int x11]) (by rw [va_some ho12]) ?_
    refine va_alen (v := Int32.ofNat (G.2.2 b12)) hx hb hK hP b12 0 (wld_b ct ad G s2.2.2 hc12 hk12) rfl rfl dX8_keepFound_26 ?_
    obtain ⟨x13, ex13, hF⟩ := ltt_some hF
    refine lv_topi (fun zx13 ezx13 => ?_)
    obtain rfl : x13 = zx13 := ex13.trans ezx13.symm
    refine lv_iload_n hx hb dX8_keepFound_27 rfl (lv_at hl 2 rfl) ?_
    refine lv_isub hx hb dX8_keepFound_28 ?_
    obtain ⟨x14, ex14, hF⟩ := ltt_some hF
    refine lv_topi (fun zx14 ezx14 => ?_)
    obtain rfl : x14 = zx14 := ex14.trans ezx14.symm
    obtain ⟨y15, hy15, hF⟩ := bnd_some hF
    have J15 : ∀ (H : Heap) (locs : List Loc) (ls : Array Slot), va_P D classes (wld ct ad G y15) H → va_D A (wld ct ad G y15) → va_S A s.heap H locs → lv_has ls 5 [(4, .int x11), (3, .int s2.2.1), (2, .int s2.1), (0, .ref (ad a)), (1, va_re ad p0)] → W p l e (headSpec wuX8_keepFound ({ frames := 1, cells := 0, slots := 0, locals := 80 })).room s m ([.ref (ad a), va_re ad p0] : List Value).toArray below meth c H locs 0 0 (MQ below (va_Qv (fun (_ : Unit) => True) (fun _ t => kE D ct ad G A y t) A) ([.ref (ad a), va_re ad p0] : List Value).toArray s 0 0 A) (F0 m 63 ls []) := by
      intro H locs ls hP hD hS hl
      refine lv_aload_n hx hb dX8_keepFound_63 rfl (lv_at hl 3 rfl) ?_
      refine va_get (D := D) (ci := 8) (v := va_re ad (y15.2 a 1)) (C := RX8) (T := TX8) (N := 15) hx hb hts (mus hf_X8) hown hK hP a (wld_o ct ad G y15 hc hk (by decide)) rfl 1 (by decide) (hts (.fieldLink RX8 16 "VideoSuite$Units" "start" "[I") (mu mw_213)) (fun _ h9 => h9) rfl dX8_keepFound_64 ?_
      refine lv_iload_n hx hb dX8_keepFound_67 rfl (lv_at hl 1 rfl) ?_
      refine lv_iload_n hx hb dX8_keepFound_68 rfl (lv_at hl 2 rfl) ?_
      obtain ⟨b16, ho16, hc16, hk16, hF⟩ := dr_some hF
      refine W_st (st' := [.int s2.1, .int s2.2.1, .ref (ad b16)]) (by rw [va_some ho16]) ?_
      obtain ⟨hvc, hF⟩ := chk_some hF
      refine va_iast hx hb hK hP hD hS b16 1 (wld_i ct ad G y15 hc16 hk16) rfl hvc dX8_keepFound_69 (fun H locs hP hD hS => ?_)
      obtain ⟨M17, eM17, hF⟩ := ltt_some hF
      rw [set_i ct ad G y15 hc16 hk16, ← eM17] at hP hD
      refine lv_aload_n hx hb dX8_keepFound_70 rfl (lv_at hl 3 rfl) ?_
      refine va_get (D := D) (ci := 8) (v := va_re ad (M17.2 a 2)) (C := RX8) (T := TX8) (N := 15) hx hb hts (mus hf_X8) hown hK hP a (wld_o ct ad G M17 hc hk (by decide)) rfl 2 (by decide) (hts (.fieldLink RX8 20 "VideoSuite$Units" "size" "[I") (mu mw_214)) (fun _ h9 => h9) rfl dX8_keepFound_71 ?_
      refine lv_iload_n hx hb dX8_keepFound_74 rfl (lv_at hl 1 rfl) ?_
      refine lv_iload hx hb dX8_keepFound_75 (lv_at hl 0 rfl) ?_
      obtain ⟨b18, ho18, hc18, hk18, hF⟩ := dr_some hF
      refine W_st (st' := [.int x11, .int s2.2.1, .ref (ad b18)]) (by rw [va_some ho18]) ?_
      obtain ⟨hvc, hF⟩ := chk_some hF
      refine va_iast hx hb hK hP hD hS b18 1 (wld_i ct ad G M17 hc18 hk18) rfl hvc dX8_keepFound_77 (fun H locs hP hD hS => ?_)
      obtain ⟨M19, eM19, hF⟩ := ltt_some hF
      rw [set_i ct ad G M17 hc18 hk18, ← eM19] at hP hD
      refine lv_iload_n hx hb dX8_keepFound_78 rfl (lv_at hl 2 rfl) ?_
      refine lv_iload hx hb dX8_keepFound_79 (lv_at hl 0 rfl) ?_
      refine lv_iadd hx hb dX8_keepFound_81 ?_
      obtain ⟨x20, ex20, hF⟩ := ltt_some hF
      refine lv_topi (fun zx20 ezx20 => ?_)
      obtain rfl : x20 = zx20 := ex20.trans ezx20.symm
      refine lv_istore_n (lv' := [(2, .int x20), (4, .int x11), (3, .int s2.2.1), (0, .ref (ad a)), (1, va_re ad p0)]) hx hb dX8_keepFound_82 rfl hl (by decide) (by generalize p0 = o9; cases o9 <;> rfl) (fun ls hl => ?_)
      obtain ⟨x21, ex21, hF⟩ := ltt_some hF
      refine lv_iinc (v := x21) (lv' := [(3, .int x21), (2, .int x20), (4, .int x11), (0, .ref (ad a)), (1, va_re ad p0)]) hx hb dX8_keepFound_83 hl (k := 2) rfl (by rw [ex21]; rfl) (by decide) rfl (fun ls hl => ?_)
      refine lv_goto (tgt := 4) hx hb dX8_keepFound_86 (by decide) ?_
      obtain rfl := Option.some.inj hF
      exact hwz7 _ _ _ hP hD hS (lv_sub hl [0, 1, 3, 4] rfl)
    clear hF
    have hF := hy15
    clear hy15
    refine lv_icmp_gt (tgt := 63) hx hb dX8_keepFound_29 (by decide) (fun c22 => ?_) (fun c22 => ?_)
    · rw [if_pos c22] at hF
      obtain rfl := Option.some.inj hF
      exact J15 _ _ _ hP hD hS (lv_sub hl [0, 1, 2, 3, 4] rfl)
    · rw [if_neg c22] at hF
      refine lv_iload hx hb dX8_keepFound_32 (lv_at hl 0 rfl) ?_
      refine lv_aloadq_n hx hb dX8_keepFound_34 rfl (lv_at hl 4 rfl) ?_
      obtain ⟨b23, ho23, hc23, hk23, hF⟩ := dr_some hF
      refine W_st (st' := [.ref (ad b23), .int x11]) (by rw [va_some ho23]) ?_
      refine va_alen (v := Int32.ofNat (G.2.2 b23)) hx hb hK hP b23 0 (wld_b ct ad G s2.2.2 hc23 hk23) rfl rfl dX8_keepFound_35 ?_
      obtain ⟨x24, ex24, hF⟩ := ltt_some hF
      refine lv_topi (fun zx24 ezx24 => ?_)
      obtain rfl : x24 = zx24 := ex24.trans ezx24.symm
      refine lv_aload_n hx hb dX8_keepFound_36 rfl (lv_at hl 3 rfl) ?_
      refine va_get (D := D) (ci := 8) (v := va_re ad (s2.2.2.2 a 5)) (C := RX8) (T := TX8) (N := 15) hx hb hts (mus hf_X8) hown hK hP a (wld_o ct ad G s2.2.2 hc hk (by decide)) rfl 5 (by decide) (hts (.fieldLink RX8 23 "VideoSuite$Units" "foundStart" "[I") (mu mw_220)) (fun _ h9 => h9) rfl dX8_keepFound_37 ?_
      refine lv_iload_n hx hb dX8_keepFound_40 rfl (lv_at hl 1 rfl) ?_
      obtain ⟨b25, ho25, hc25, hk25, hF⟩ := dr_some hF
      refine W_st (st' := [.int s2.2.1, .ref (ad b25), .int x24, .int x11]) (by rw [va_some ho25]) ?_
      obtain ⟨hvc, hF⟩ := chk_some hF
      refine va_iald hx hb hK hP b25 1 (wld_i ct ad G s2.2.2 hc25 hk25) rfl hvc dX8_keepFound_41 ?_
      obtain ⟨x26, ex26, hF⟩ := ltt_some hF
      refine lv_topi (fun zx26 ezx26 => ?_)
      obtain rfl : x26 = zx26 := ex26.trans ezx26.symm
      refine lv_isub hx hb dX8_keepFound_42 ?_
      obtain ⟨x27, ex27, hF⟩ := ltt_some hF
      refine lv_topi (fun zx27 ezx27 => ?_)
      obtain rfl : x27 = zx27 := ex27.trans ezx27.symm
      obtain ⟨y28, hy28, hF⟩ := bnd_some hF
      have J28 : ∀ (H : Heap) (locs : List Loc) (ls : Array Slot), va_P D classes (wld ct ad G y28) H → va_D A (wld ct ad G y28) → va_S A s.heap H locs → lv_has ls 5 [(4, .int x11), (3, .int s2.2.1), (2, .int s2.1), (0, .ref (ad a)), (1, va_re ad p0)] → W p l e (headSpec wuX8_keepFound ({ frames := 1, cells := 0, slots := 0, locals := 80 })).room s m ([.ref (ad a), va_re ad p0] : List Value).toArray below meth c H locs 0 0 (MQ below (va_Qv (fun (_ : Unit) => True) (fun _ t => kE D ct ad G A y t) A) ([.ref (ad a), va_re ad p0] : List Value).toArray s 0 0 A) (F0 m 63 ls []) := by
        intro H locs ls hP hD hS hl
        obtain rfl := Option.some.inj hF
        exact J15 _ _ _ hP hD hS (lv_sub hl [0, 1, 2, 3, 4] rfl)
      clear hF
      have hF := hy28
      clear hy28
      refine lv_icmp_gt (tgt := 63) hx hb dX8_keepFound_43 (by decide) (fun c29 => ?_) (fun c29 => ?_)
      · rw [if_pos c29] at hF
        obtain rfl := Option.some.inj hF
        exact J28 _ _ _ hP hD hS (lv_sub hl [0, 1, 2, 3, 4] rfl)
      · rw [if_neg c29] at hF
        refine lv_aloadq_n hx hb dX8_keepFound_46 rfl (lv_at hl 4 rfl) ?_
        refine lv_aload_n hx hb dX8_keepFound_47 rfl (lv_at hl 3 rfl) ?_
        refine va_get (D := D) (ci := 8) (v := va_re ad (s2.2.2.2 a 5)) (C := RX8) (T := TX8) (N := 15) hx hb hts (mus hf_X8) hown hK hP a (wld_o ct ad G s2.2.2 hc hk (by decide)) rfl 5 (by decide) (hts (.fieldLink RX8 23 "VideoSuite$Units" "foundStart" "[I") (mu mw_220)) (fun _ h9 => h9) rfl dX8_keepFound_48 ?_
        refine lv_iload_n hx hb dX8_keepFound_51 rfl (lv_at hl 1 rfl) ?_
        refine W_st (st' := [.int s2.2.1, .ref (ad b25), va_re ad p0]) (by rw [va_some ho25]) ?_
        obtain ⟨hvc, hF⟩ := chk_some hF
        refine va_iald hx hb hK hP b25 1 (wld_i ct ad G s2.2.2 hc25 hk25) rfl hvc dX8_keepFound_52 ?_
        obtain ⟨x30, ex30, hF⟩ := ltt_some hF
        refine lv_topi (fun zx30 ezx30 => ?_)
        obtain rfl : x30 = zx30 := ex30.trans ezx30.symm
        refine lv_aload_n hx hb dX8_keepFound_53 rfl (lv_at hl 3 rfl) ?_
        refine va_get (D := D) (ci := 8) (v := va_re ad (s2.2.2.2 a 0)) (C := RX8) (T := TX8) (N := 15) hx hb hts (mus hf_X8) hown hK hP a (wld_o ct ad G s2.2.2 hc hk (by decide)) rfl 0 (by decide) (hts (.fieldLink RX8 10 "VideoSuite$Units" "bytes" "[B") (mu mw_212)) (fun _ h9 => h9) rfl dX8_keepFound_54 ?_
        refine lv_iload_n hx hb dX8_keepFound_57 rfl (lv_at hl 2 rfl) ?_
        refine lv_iload hx hb dX8_keepFound_58 (lv_at hl 0 rfl) ?_
        refine W_st (st' := [.int x11, .int s2.1, va_re ad (s2.2.2.2 a 0), .int x30, .ref (ad b23)]) (by rw [va_some ho23]) ?_
        refine W_st (st' := [.int x11, .int s2.1, .ref (ad b12), .int x30, .ref (ad b23)]) (by rw [va_some ho12]) ?_
        obtain ⟨hv9, hF⟩ := chk_some hF
        obtain ⟨hv8, hF⟩ := chk_some hF
        refine va_copyi (ty := .byte) hx hb (hml.trans hl.1.symm) hown (hts (.methodLink RX8 56 arraycopyName) (mu mw_2761)) (hts (.native arraycopyName) (mu mw_1093)) (hts (.static arraycopyName) (mu mw_1092)) (hts (.initialized "java/lang/System") (mu mw_181)) hK hP hD hS b23 b12 0 0 (wld_b ct ad G s2.2.2 hc23 hk23) (wld_b ct ad G s2.2.2 hc12 hk12) rfl rfl rfl hv9.1 hv9.2.1 hv9.2.2.1 hv9.2.2.2.1 hv9.2.2.2.2 hv8 (Nat.le_of_ble_eq_true rfl) (by decide +kernel) dX8_keepFound_60 (fun H locs hP hD hS => ?_)
        obtain ⟨M31, eM31, hF⟩ := ltt_some hF
        rw [set_rb ct ad G s2.2.2 hc12 hk12, ← eM31] at hP hD
        obtain rfl := Option.some.inj hF
        exact J28 _ _ _ hP hD hS (lv_sub hl [0, 1, 2, 3, 4] rfl)
theorem dX8_loadPayload_0 : decode cX8_loadPayload 0 = .ok (.iconst 0, 1) := by decide +kernel
theorem dX8_loadPayload_1 : decode cX8_loadPayload 1 = .ok (.istore_n 2, 1) := by decide +kernel
theorem dX8_loadPayload_2 : decode cX8_loadPayload 2 = .ok (.aload_n 0, 1) := by decide +kernel
theorem dX8_loadPayload_3 : decode cX8_loadPayload 3 = .ok (.iconst 0, 1) := by decide +kernel
theorem dX8_loadPayload_4 : decode cX8_loadPayload 4 = .ok (.putfield 65, 3) := by decide +kernel
theorem dX8_loadPayload_7 : decode cX8_loadPayload 7 = .ok (.iconst 0, 1) := by decide +kernel
theorem dX8_loadPayload_8 : decode cX8_loadPayload 8 = .ok (.istore_n 3, 1) := by decide +kernel
theorem dX8_loadPayload_9 : decode cX8_loadPayload 9 = .ok (.iload_n 3, 1) := by decide +kernel
theorem dX8_loadPayload_10 : decode cX8_loadPayload 10 = .ok (.aload_n 0, 1) := by decide +kernel
theorem dX8_loadPayload_11 : decode cX8_loadPayload 11 = .ok (.getfield 20, 3) := by decide +kernel
theorem dX8_loadPayload_14 : decode cX8_loadPayload 14 = .ok (.iload_n 1, 1) := by decide +kernel
theorem dX8_loadPayload_15 : decode cX8_loadPayload 15 = .ok (.iaload, 1) := by decide +kernel
theorem dX8_loadPayload_16 : decode cX8_loadPayload 16 = .ok (.if_icmp .ge 71, 3) := by decide +kernel
theorem dX8_loadPayload_19 : decode cX8_loadPayload 19 = .ok (.aload_n 0, 1) := by decide +kernel
theorem dX8_loadPayload_20 : decode cX8_loadPayload 20 = .ok (.getfield 10, 3) := by decide +kernel
theorem dX8_loadPayload_23 : decode cX8_loadPayload 23 = .ok (.aload_n 0, 1) := by decide +kernel
theorem dX8_loadPayload_24 : decode cX8_loadPayload 24 = .ok (.getfield 16, 3) := by decide +kernel
theorem dX8_loadPayload_27 : decode cX8_loadPayload 27 = .ok (.iload_n 1, 1) := by decide +kernel
theorem dX8_loadPayload_28 : decode cX8_loadPayload 28 = .ok (.iaload, 1) := by decide +kernel
theorem dX8_loadPayload_29 : decode cX8_loadPayload 29 = .ok (.iload_n 3, 1) := by decide +kernel
theorem dX8_loadPayload_30 : decode cX8_loadPayload 30 = .ok (.iadd, 1) := by decide +kernel
theorem dX8_loadPayload_31 : decode cX8_loadPayload 31 = .ok (.baload, 1) := by decide +kernel
theorem dX8_loadPayload_32 : decode cX8_loadPayload 32 = .ok (.istore 4, 2) := by decide +kernel
theorem dX8_loadPayload_34 : decode cX8_loadPayload 34 = .ok (.iload_n 2, 1) := by decide +kernel
theorem dX8_loadPayload_35 : decode cX8_loadPayload 35 = .ok (.iconst 2, 1) := by decide +kernel
theorem dX8_loadPayload_36 : decode cX8_loadPayload 36 = .ok (.if_icmp .lt 14, 3) := by decide +kernel
theorem dX8_loadPayload_39 : decode cX8_loadPayload 39 = .ok (.iload 4, 2) := by decide +kernel
theorem dX8_loadPayload_41 : decode cX8_loadPayload 41 = .ok (.iconst 3, 1) := by decide +kernel
theorem dX8_loadPayload_42 : decode cX8_loadPayload 42 = .ok (.if_icmp .ne 8, 3) := by decide +kernel
theorem dX8_loadPayload_45 : decode cX8_loadPayload 45 = .ok (.iconst 0, 1) := by decide +kernel
theorem dX8_loadPayload_46 : decode cX8_loadPayload 46 = .ok (.istore_n 2, 1) := by decide +kernel
theorem dX8_loadPayload_47 : decode cX8_loadPayload 47 = .ok (.goto 34, 3) := by decide +kernel
theorem dX8_loadPayload_50 : decode cX8_loadPayload 50 = .ok (.aload_n 0, 1) := by decide +kernel
theorem dX8_loadPayload_51 : decode cX8_loadPayload 51 = .ok (.getfield 29, 3) := by decide +kernel
theorem dX8_loadPayload_54 : decode cX8_loadPayload 54 = .ok (.aload_n 0, 1) := by decide +kernel
theorem dX8_loadPayload_55 : decode cX8_loadPayload 55 = .ok (.dup, 1) := by decide +kernel
theorem dX8_loadPayload_56 : decode cX8_loadPayload 56 = .ok (.getfield 65, 3) := by decide +kernel
theorem dX8_loadPayload_59 : decode cX8_loadPayload 59 = .ok (.dup_x1, 1) := by decide +kernel
theorem dX8_loadPayload_60 : decode cX8_loadPayload 60 = .ok (.iconst 1, 1) := by decide +kernel
theorem dX8_loadPayload_61 : decode cX8_loadPayload 61 = .ok (.iadd, 1) := by decide +kernel
theorem dX8_loadPayload_62 : decode cX8_loadPayload 62 = .ok (.putfield 65, 3) := by decide +kernel
theorem dX8_loadPayload_65 : decode cX8_loadPayload 65 = .ok (.iload 4, 2) := by decide +kernel
theorem dX8_loadPayload_67 : decode cX8_loadPayload 67 = .ok (.bastore, 1) := by decide +kernel
theorem dX8_loadPayload_68 : decode cX8_loadPayload 68 = .ok (.iload 4, 2) := by decide +kernel
theorem dX8_loadPayload_70 : decode cX8_loadPayload 70 = .ok (.ifCond .ne 9, 3) := by decide +kernel
theorem dX8_loadPayload_73 : decode cX8_loadPayload 73 = .ok (.iload_n 2, 1) := by decide +kernel
theorem dX8_loadPayload_74 : decode cX8_loadPayload 74 = .ok (.iconst 1, 1) := by decide +kernel
theorem dX8_loadPayload_75 : decode cX8_loadPayload 75 = .ok (.iadd, 1) := by decide +kernel
theorem dX8_loadPayload_76 : decode cX8_loadPayload 76 = .ok (.goto 4, 3) := by decide +kernel
theorem dX8_loadPayload_79 : decode cX8_loadPayload 79 = .ok (.iconst 0, 1) := by decide +kernel
theorem dX8_loadPayload_80 : decode cX8_loadPayload 80 = .ok (.istore_n 2, 1) := by decide +kernel
theorem dX8_loadPayload_81 : decode cX8_loadPayload 81 = .ok (.iinc 3 1, 3) := by decide +kernel
theorem dX8_loadPayload_84 : decode cX8_loadPayload 84 = .ok (.goto (-75), 3) := by decide +kernel
theorem dX8_loadPayload_87 : decode cX8_loadPayload 87 = .ok (.return_, 1) := by decide +kernel
def FX8_loadPayload (G : GG) (M : DD) (a : Nat) (p0 : Int32) : Option (DD) :=
  ltt (uI M a 9 ((0 : Int32))) fun M1 =>
  bnd (itr (fun (s3 : Int32 × Int32 × DD) => ((dr G 13 ((s3.2.2.2 a 2)) fun b6 =>
  chk (¬ (p0 < 0 ∨ G.2.2 b6 ≤ p0.toNatClampNeg)) <|
  ltt (s3.2.2.1 b6 p0.toNatClampNeg) fun x7 =>
  if x7 ≤ s3.2.1 then (some (.inr (s3.1, s3.2.1, s3.2.2))) else
  (dr G 13 ((s3.2.2.2 a 1)) fun b9 =>
  chk (¬ (p0 < 0 ∨ G.2.2 b9 ≤ p0.toNatClampNeg)) <|
  ltt (s3.2.2.1 b9 p0.toNatClampNeg) fun x10 =>
  ltt ((x10 + s3.2.1)) fun x11 =>
  dr G 12 ((s3.2.2.2 a 0)) fun b12 =>
  chk (¬ (x11 < 0 ∨ G.2.2 b12 ≤ x11.toNatClampNeg)) <|
  ltt (s3.2.2.1 b12 x11.toNatClampNeg) fun x13 =>
  bnd (if s3.1 < ((2 : Int32)) then (ltt (s3.2.2.1 a 9) fun x17 =>
  ltt ((x17 + ((1 : Int32)))) fun x18 =>
  ltt (uI s3.2.2 a 9 x18) fun M19 =>
  dr G 12 ((s3.2.2.2 a 8)) fun b20 =>
  chk (¬ (x17 < 0 ∨ G.2.2 b20 ≤ x17.toNatClampNeg)) <|
  ltt (uI M19 b20 x17.toNatClampNeg (vp_nar .byte x13)) fun M21 =>
  bnd (if x13 = ((0 : Int32)) then (ltt ((s3.1 + ((1 : Int32)))) fun x24 =>
  some (x24)) else
  (some ((0 : Int32)))) fun (y22 : Int32) =>
  some (y22, M21)) else
  (bnd (if x13 = ((3 : Int32)) then (some ((0 : Int32), s3.2.2)) else
  (ltt (s3.2.2.1 a 9) fun x27 =>
  ltt ((x27 + ((1 : Int32)))) fun x28 =>
  ltt (uI s3.2.2 a 9 x28) fun M29 =>
  dr G 12 ((s3.2.2.2 a 8)) fun b30 =>
  chk (¬ (x27 < 0 ∨ G.2.2 b30 ≤ x27.toNatClampNeg)) <|
  ltt (uI M29 b30 x27.toNatClampNeg (vp_nar .byte x13)) fun M31 =>
  bnd (if x13 = ((0 : Int32)) then (ltt ((s3.1 + ((1 : Int32)))) fun x34 =>
  some (x34)) else
  (some ((0 : Int32)))) fun (y32 : Int32) =>
  some (y32, M31))) fun (y25 : Int32 × DD) =>
  some (y25.1, y25.2))) fun (y14 : Int32 × DD) =>
  ltt (s3.2.1 + (1 : Int32)) fun x15 =>
  some (.inl (y14.1, x15, y14.2)))) : Option ((Int32 × Int32 × DD) ⊕ (Int32 × Int32 × DD)))) 1000000 ((0 : Int32), (0 : Int32), M1)) fun (y2 : Int32 × Int32 × DD) =>
  some y2.2.2
set_option maxHeartbeats 4000000 in
set_option maxRecDepth 100000 in
theorem kX8_loadPayload (l : Launch) (D : va_G) (ct : CT) (ad : Nat → Nat) (Z : Nat → Nat) (G : GG) (M : DD) (sz : Nat) (a : Nat) (p0 : Int32) (y : DD) (hc : a < G.1) (hk : G.2.1 a = 8) (hF : FX8_loadPayload G M a p0 = some y) : Met l yX8_loadPayload wuX8_loadPayload ({ frames := 0, cells := 0, slots := 0, locals := 0 }) (va_Pc [.ref (ad a), .int p0] (kB D ct ad Z G M sz)) (va_Qv (fun (_ : Unit) => True) (fun _ t => kE D ct ad G (wA ad G sz) y t) (wA ad G sz)) 0 0 (wA ad G sz) := by
  refine Met.ofW (cc := cX8_loadPayload) (maxL := 5) (ret := none) (by decide) rfl ?_
  intro p e s m args below meth c s₁ B hml hv
  obtain ⟨rfl, hsz, hP, hK, hD0, hZ, hN⟩ := hv
  have hx := B.exec
  have hb := B.bytes
  have hr := B.returns
  have hts := atoms_spec (ws := wuX8_loadPayload) B.pre
  have hown : s.vm.findClass RX8 = some m.cls := findClass_of_methodNamed B.named
  have hlocks := B.notSynchronized
  subst hsz
  have hD := wD_self (sz := s.heap.size) hD0
  have hA9 : ∀ q, s.heap.size ≤ q → wA ad G s.heap.size q := fun q h => Or.inr h
  generalize hAe : wA ad G s.heap.size = A at hD hA9 hZ ⊢
  have hS : va_S A s.heap s.heap [] := va_S.rf
  have hl := lv_entry ([.ref (ad a), .int p0]) (n := 5) (Nat.le_of_ble_eq_true rfl)
  rw [lg_entry_eq]
  generalize (lg_sl ([.ref (ad a), .int p0]) ++ List.replicate (5 - (lg_sl ([.ref (ad a), .int p0])).length) Slot.unset).toArray = ls at hl ⊢
  have hl : lv_has ls 5 [(0, .ref (ad a)), (1, .int p0)] := hl
  unfold FX8_loadPayload at hF
  refine lv_iconst (v := (0 : Int32)) hx hb dX8_loadPayload_0 (by decide) ?_
  refine lv_istore_n (lv' := [(2, .int (0 : Int32)), (0, .ref (ad a)), (1, .int p0)]) hx hb dX8_loadPayload_1 rfl hl (by decide) rfl (fun ls hl => ?_)
  refine lv_aload_n hx hb dX8_loadPayload_2 rfl (lv_at hl 1 rfl) ?_
  refine lv_iconst (v := (0 : Int32)) hx hb dX8_loadPayload_3 (by decide) ?_
  refine va_put (D := D) (ci := 8) (v := .int (0 : Int32)) (ty := .int) (C := RX8) (T := TX8) (N := 15) hx hb hts (mus hf_X8) tyX8 tyX8_ok nmX8 hown hK hP hD hS a (wld_o ct ad G M hc hk (by decide)) rfl 9 (by decide) (hts (.fieldLink RX8 65 "VideoSuite$Units" "payloadSize" "I") (mu mw_227)) (fun _ h9 => h9) rfl (by decide +kernel) rfl rfl (Nat.le_of_ble_eq_true rfl) dX8_loadPayload_4 (fun H locs hP hD hS => ?_)
  obtain ⟨M1, eM1, hF⟩ := ltt_some hF
  rw [set_oI ct ad G M hc hk (by decide) (by rfl), ← eM1] at hP hD
  refine lv_iconst (v := (0 : Int32)) hx hb dX8_loadPayload_7 (by decide) ?_
  refine lv_istore_n (lv' := [(3, .int (0 : Int32)), (2, .int (0 : Int32)), (0, .ref (ad a)), (1, .int p0)]) hx hb dX8_loadPayload_8 rfl hl (by decide) rfl (fun ls hl => ?_)
  obtain ⟨y2, hy2, hF⟩ := bnd_some hF
  have K2 : ∀ (H : Heap) (locs : List Loc) (ls : Array Slot), va_P D classes (wld ct ad G y2.2.2) H → va_D A (wld ct ad G y2.2.2) → va_S A s.heap H locs → lv_has ls 5 [(3, .int y2.2.1), (2, .int y2.1), (0, .ref (ad a)), (1, .int p0)] → W p l e (headSpec wuX8_loadPayload ({ frames := 0, cells := 0, slots := 0, locals := 0 })).room s m ([.ref (ad a), .int p0] : List Value).toArray below meth c H locs 0 0 (MQ below (va_Qv (fun (_ : Unit) => True) (fun _ t => kE D ct ad G A y t) A) ([.ref (ad a), .int p0] : List Value).toArray s 0 0 A) (F0 m 87 ls []) := by
    intro H locs ls hP hD hS hl
    obtain rfl := Option.some.inj hF
    exact W.vret hx hb hr (fun t ht hW => ⟨⟨(), rfl, trivial, ⟨by rw [ht]; exact hP, va_K.moved hW.alike hK, hD⟩⟩, hS.F ht⟩) hS.2.2 dX8_loadPayload_87
  clear hF
  refine itr_rule (fun (s3 : Int32 × Int32 × DD) => ∀ (H : Heap) (locs : List Loc) (ls : Array Slot), va_P D classes (wld ct ad G s3.2.2) H → va_D A (wld ct ad G s3.2.2) → va_S A s.heap H locs → lv_has ls 5 [(3, .int s3.2.1), (2, .int s3.1), (0, .ref (ad a)), (1, .int p0)] → W p l e (headSpec wuX8_loadPayload ({ frames := 0, cells := 0, slots := 0, locals := 0 })).room s m ([.ref (ad a), .int p0] : List Value).toArray below meth c H locs 0 0 (MQ below (va_Qv (fun (_ : Unit) => True) (fun _ t => kE D ct ad G A y t) A) ([.ref (ad a), .int p0] : List Value).toArray s 0 0 A) (F0 m 9 ls [])) ?_ _ _ hy2 _ _ _ hP hD hS (lv_sub hl [0, 1, 2, 3] rfl)
  rintro s3 ⟨z5, hF, hwz5⟩ H locs ls hP hD hS hl
  try dsimp only at hF
  refine lv_iload_n hx hb dX8_loadPayload_9 rfl (lv_at hl 0 rfl) ?_
  refine lv_aload_n hx hb dX8_loadPayload_10 rfl (lv_at hl 2 rfl) ?_
  refine va_get (D := D) (ci := 8) (v := va_re ad (s3.2.2.2 a 2)) (C := RX8) (T := TX8) (N := 15) hx hb hts (mus hf_X8) hown hK hP a (wld_o ct ad G s3.2.2 hc hk (by decide)) rfl 2 (by decide) (hts (.fieldLink RX8 20 "VideoSuite$Units" "size" "[I") (mu mw_214)) (fun _ h9 => h9) rfl dX8_loadPayload_11 ?_
  refine lv_iload_n hx hb dX8_loadPayload_14 rfl (lv_at hl 3 rfl) ?_
  obtain ⟨b6, ho6, hc6, hk6, hF⟩ := dr_some hF
  refine W_st (st' := [.int p0, .ref (ad b6), .int s3.2.1]) (by rw [va_some ho6]) ?_
  obtain ⟨hvc, hF⟩ := chk_some hF
  refine va_iald hx hb hK hP b6 1 (wld_i ct ad G s3.2.2 hc6 hk6) rfl hvc dX8_loadPayload_15 ?_
  obtain ⟨x7, ex7, hF⟩ := ltt_some hF
  refine lv_topi (fun zx7 ezx7 => ?_)
  obtain rfl : x7 = zx7 := ex7.trans ezx7.symm
  refine lv_icmp_ge (tgt := 87) hx hb dX8_loadPayload_16 (by decide) (fun c8 => ?_) (fun c8 => ?_)
  · rw [if_pos c8] at hF
    obtain rfl := Option.some.inj hF
    subst hwz5
    exact K2 _ _ _ hP hD hS (lv_sub hl [0, 1, 2, 3] rfl)
  · rw [if_neg c8] at hF
    refine lv_aload_n hx hb dX8_loadPayload_19 rfl (lv_at hl 2 rfl) ?_
    refine va_get (D := D) (ci := 8) (v := va_re ad (s3.2.2.2 a 0)) (C := RX8) (T := TX8) (N := 15) hx hb hts (mus hf_X8) hown hK hP a (wld_o ct ad G s3.2.2 hc hk (by decide)) rfl 0 (by decide) (hts (.fieldLink RX8 10 "VideoSuite$Units" "bytes" "[B") (mu mw_212)) (fun _ h9 => h9) rfl dX8_loadPayload_20 ?_
    refine lv_aload_n hx hb dX8_loadPayload_23 rfl (lv_at hl 2 rfl) ?_
    refine va_get (D := D) (ci := 8) (v := va_re ad (s3.2.2.2 a 1)) (C := RX8) (T := TX8) (N := 15) hx hb hts (mus hf_X8) hown hK hP a (wld_o ct ad G s3.2.2 hc hk (by decide)) rfl 1 (by decide) (hts (.fieldLink RX8 16 "VideoSuite$Units" "start" "[I") (mu mw_213)) (fun _ h9 => h9) rfl dX8_loadPayload_24 ?_
    refine lv_iload_n hx hb dX8_loadPayload_27 rfl (lv_at hl 3 rfl) ?_
    obtain ⟨b9, ho9, hc9, hk9, hF⟩ := dr_some hF
    refine W_st (st' := [.int p0, .ref (ad b9), va_re ad (s3.2.2.2 a 0)]) (by rw [va_some ho9]) ?_
    obtain ⟨hvc, hF⟩ := chk_some hF
    refine va_iald hx hb hK hP b9 1 (wld_i ct ad G s3.2.2 hc9 hk9) rfl hvc dX8_loadPayload_28 ?_
    obtain ⟨x10, ex10, hF⟩ := ltt_some hF
    refine lv_topi (fun zx10 ezx10 => ?_)
    obtain rfl : x10 = zx10 := ex10.trans ezx10.symm
    refine lv_iload_n hx hb dX8_loadPayload_29 rfl (lv_at hl 0 rfl) ?_
    refine lv_iadd hx hb dX8_loadPayload_30 ?_
    obtain ⟨x11, ex11, hF⟩ := ltt_some hF
    refine lv_topi (fun zx11 ezx11 => ?_)
    obtain rfl : x11 = zx11 := ex11.trans ezx11.symm
    obtain ⟨b12, ho12, hc12, hk12, hF⟩ := dr_some hF
    refine W_st (st' := [.int x11, .ref (ad b12)]) (by rw [va_some ho12]) ?_
    obtain ⟨hvc, hF⟩ := chk_some hF
    refine va_bald hx hb hK hP b12 0 (wld_b ct ad G s3.2.2 hc12 hk12) rfl hvc dX8_loadPayload_31 ?_
    obtain ⟨x13, ex13, hF⟩ := ltt_some hF
    refine lv_topi (fun zx13 ezx13 => ?_)
    obtain rfl : x13 = zx13 := ex13.trans ezx13.symm
    refine lv_istore (lv' := [(4, .int x13), (3, .int s3.2.1), (2, .int s3.1), (0, .ref (ad a)), (1, .int p0)]) hx hb dX8_loadPayload_32 hl (by decide) rfl (fun ls hl => ?_)
    refine lv_iload_n hx hb dX8_loadPayload_34 rfl (lv_at hl 2 rfl) ?_
    refine lv_iconst (v := (2 : Int32)) hx hb dX8_loadPayload_35 (by decide) ?_
    obtain ⟨y14, hy14, hF⟩ := bnd_some hF
    have J14 : ∀ (H : Heap) (locs : List Loc) (ls : Array Slot), va_P D classes (wld ct ad G y14.2) H → va_D A (wld ct ad G y14.2) → va_S A s.heap H locs → lv_has ls 5 [(4, .int x13), (3, .int s3.2.1), (2, .int y14.1), (0, .ref (ad a)), (1, .int p0)] → W p l e (headSpec wuX8_loadPayload ({ frames := 0, cells := 0, slots := 0, locals := 0 })).room s m ([.ref (ad a), .int p0] : List Value).toArray below meth c H locs 0 0 (MQ below (va_Qv (fun (_ : Unit) => True) (fun _ t => kE D ct ad G A y t) A) ([.ref (ad a), .int p0] : List Value).toArray s 0 0 A) (F0 m 81 ls []) := by
      intro H locs ls hP hD hS hl
      obtain ⟨x15, ex15, hF⟩ := ltt_some hF
      refine lv_iinc (v := x15) (lv' := [(3, .int x15), (4, .int x13), (2, .int y14.1), (0, .ref (ad a)), (1, .int p0)]) hx hb dX8_loadPayload_81 hl (k := 1) rfl (by rw [ex15]; rfl) (by decide) rfl (fun ls hl => ?_)
      refine lv_goto (tgt := 9) hx hb dX8_loadPayload_84 (by decide) ?_
      obtain rfl := Option.some.inj hF
      exact hwz5 _ _ _ hP hD hS (lv_sub hl [0, 2, 3, 4] rfl)
    clear hF
    have hF := hy14
    clear hy14
    refine lv_icmp_lt (tgt := 50) hx hb dX8_loadPayload_36 (by decide) (fun c16 => ?_) (fun c16 => ?_)
    · rw [if_pos c16] at hF
      refine lv_aload_n hx hb dX8_loadPayload_50 rfl (lv_at hl 3 rfl) ?_
      refine va_get (D := D) (ci := 8) (v := va_re ad (s3.2.2.2 a 8)) (C := RX8) (T := TX8) (N := 15) hx hb hts (mus hf_X8) hown hK hP a (wld_o ct ad G s3.2.2 hc hk (by decide)) rfl 8 (by decide) (hts (.fieldLink RX8 29 "VideoSuite$Units" "payload" "[B") (mu mw_224)) (fun _ h9 => h9) rfl dX8_loadPayload_51 ?_
      refine lv_aload_n hx hb dX8_loadPayload_54 rfl (lv_at hl 3 rfl) ?_
      refine lv_dup hx hb dX8_loadPayload_55 rfl ?_
      refine va_get (D := D) (ci := 8) (v := .int (s3.2.2.1 a 9)) (C := RX8) (T := TX8) (N := 15) hx hb hts (mus hf_X8) hown hK hP a (wld_o ct ad G s3.2.2 hc hk (by decide)) rfl 9 (by decide) (hts (.fieldLink RX8 65 "VideoSuite$Units" "payloadSize" "I") (mu mw_227)) (fun _ h9 => h9) rfl dX8_loadPayload_56 ?_
      obtain ⟨x17, ex17, hF⟩ := ltt_some hF
      refine lv_topi (fun zx17 ezx17 => ?_)
      obtain rfl : x17 = zx17 := ex17.trans ezx17.symm
      refine lv_dup_x1 hx hb dX8_loadPayload_59 rfl rfl ?_
      refine lv_iconst (v := (1 : Int32)) hx hb dX8_loadPayload_60 (by decide) ?_
      refine lv_iadd hx hb dX8_loadPayload_61 ?_
      obtain ⟨x18, ex18, hF⟩ := ltt_some hF
      refine lv_topi (fun zx18 ezx18 => ?_)
      obtain rfl : x18 = zx18 := ex18.trans ezx18.symm
      refine va_put (D := D) (ci := 8) (v := .int x18) (ty := .int) (C := RX8) (T := TX8) (N := 15) hx hb hts (mus hf_X8) tyX8 tyX8_ok nmX8 hown hK hP hD hS a (wld_o ct ad G s3.2.2 hc hk (by decide)) rfl 9 (by decide) (hts (.fieldLink RX8 65 "VideoSuite$Units" "payloadSize" "I") (mu mw_227)) (fun _ h9 => h9) rfl (by decide +kernel) rfl rfl (Nat.le_of_ble_eq_true rfl) dX8_loadPayload_62 (fun H locs hP hD hS => ?_)
      obtain ⟨M19, eM19, hF⟩ := ltt_some hF
      rw [set_oI ct ad G s3.2.2 hc hk (by decide) (by rfl), ← eM19] at hP hD
      refine lv_iload hx hb dX8_loadPayload_65 (lv_at hl 0 rfl) ?_
      obtain ⟨b20, ho20, hc20, hk20, hF⟩ := dr_some hF
      refine W_st (st' := [.int x13, .int x17, .ref (ad b20)]) (by rw [va_some ho20]) ?_
      obtain ⟨hvc, hF⟩ := chk_some hF
      refine va_bast hx hb hK hP hD hS b20 0 (wld_b ct ad G M19 hc20 hk20) rfl hvc dX8_loadPayload_67 (fun H locs hP hD hS => ?_)
      obtain ⟨M21, eM21, hF⟩ := ltt_some hF
      rw [set_b ct ad G M19 hc20 hk20, ← eM21] at hP hD
      refine lv_iload hx hb dX8_loadPayload_68 (lv_at hl 0 rfl) ?_
      obtain ⟨y22, hy22, hF⟩ := bnd_some hF
      have J22 : ∀ (H : Heap) (locs : List Loc) (ls : Array Slot), va_P D classes (wld ct ad G M21) H → va_D A (wld ct ad G M21) → va_S A s.heap H locs → lv_has ls 5 [(4, .int x13), (3, .int s3.2.1), (2, .int s3.1), (0, .ref (ad a)), (1, .int p0)] → W p l e (headSpec wuX8_loadPayload ({ frames := 0, cells := 0, slots := 0, locals := 0 })).room s m ([.ref (ad a), .int p0] : List Value).toArray below meth c H locs 0 0 (MQ below (va_Qv (fun (_ : Unit) => True) (fun _ t => kE D ct ad G A y t) A) ([.ref (ad a), .int p0] : List Value).toArray s 0 0 A) (F0 m 80 ls [.int y22]) := by
        intro H locs ls hP hD hS hl
        refine lv_istore_n (lv' := [(2, .int y22), (4, .int x13), (3, .int s3.2.1), (0, .ref (ad a)), (1, .int p0)]) hx hb dX8_loadPayload_80 rfl hl (by decide) rfl (fun ls hl => ?_)
        obtain rfl := Option.some.inj hF
        exact J14 _ _ _ hP hD hS (lv_sub hl [1, 2, 0, 3, 4] rfl)
      clear hF
      have hF := hy22
      clear hy22
      refine lv_if_ne (tgt := 79) hx hb dX8_loadPayload_70 (by decide) (fun c23 => ?_) (fun c23 => ?_)
      · rw [if_neg c23] at hF
        refine lv_iconst (v := (0 : Int32)) hx hb dX8_loadPayload_79 (by decide) ?_
        obtain rfl := Option.some.inj hF
        exact J22 _ _ _ hP hD hS (lv_sub hl [0, 1, 2, 3, 4] rfl)
      · rw [if_pos c23] at hF
        refine lv_iload_n hx hb dX8_loadPayload_73 rfl (lv_at hl 2 rfl) ?_
        refine lv_iconst (v := (1 : Int32)) hx hb dX8_loadPayload_74 (by decide) ?_
        refine lv_iadd hx hb dX8_loadPayload_75 ?_
        obtain ⟨x24, ex24, hF⟩ := ltt_some hF
        refine lv_topi (fun zx24 ezx24 => ?_)
        obtain rfl : x24 = zx24 := ex24.trans ezx24.symm
        refine lv_goto (tgt := 80) hx hb dX8_loadPayload_76 (by decide) ?_
        obtain rfl := Option.some.inj hF
        exact J22 _ _ _ hP hD hS (lv_sub hl [0, 1, 2, 3, 4] rfl)
    · rw [if_neg c16] at hF
      refine lv_iload hx hb dX8_loadPayload_39 (lv_at hl 0 rfl) ?_
      refine lv_iconst (v := (3 : Int32)) hx hb dX8_loadPayload_41 (by decide) ?_
      obtain ⟨y25, hy25, hF⟩ := bnd_some hF
      have J25 : ∀ (H : Heap) (locs : List Loc) (ls : Array Slot), va_P D classes (wld ct ad G y25.2) H → va_D A (wld ct ad G y25.2) → va_S A s.heap H locs → lv_has ls 5 [(4, .int x13), (3, .int s3.2.1), (2, .int y25.1), (0, .ref (ad a)), (1, .int p0)] → W p l e (headSpec wuX8_loadPayload ({ frames := 0, cells := 0, slots := 0, locals := 0 })).room s m ([.ref (ad a), .int p0] : List Value).toArray below meth c H locs 0 0 (MQ below (va_Qv (fun (_ : Unit) => True) (fun _ t => kE D ct ad G A y t) A) ([.ref (ad a), .int p0] : List Value).toArray s 0 0 A) (F0 m 81 ls []) := by
        intro H locs ls hP hD hS hl
        obtain rfl := Option.some.inj hF
        exact J14 _ _ _ hP hD hS (lv_sub hl [0, 1, 2, 3, 4] rfl)
      clear hF
      have hF := hy25
      clear hy25
      refine lv_icmp_ne (tgt := 50) hx hb dX8_loadPayload_42 (by decide) (fun c26 => ?_) (fun c26 => ?_)
      · rw [if_neg c26] at hF
        refine lv_aload_n hx hb dX8_loadPayload_50 rfl (lv_at hl 3 rfl) ?_
        refine va_get (D := D) (ci := 8) (v := va_re ad (s3.2.2.2 a 8)) (C := RX8) (T := TX8) (N := 15) hx hb hts (mus hf_X8) hown hK hP a (wld_o ct ad G s3.2.2 hc hk (by decide)) rfl 8 (by decide) (hts (.fieldLink RX8 29 "VideoSuite$Units" "payload" "[B") (mu mw_224)) (fun _ h9 => h9) rfl dX8_loadPayload_51 ?_
        refine lv_aload_n hx hb dX8_loadPayload_54 rfl (lv_at hl 3 rfl) ?_
        refine lv_dup hx hb dX8_loadPayload_55 rfl ?_
        refine va_get (D := D) (ci := 8) (v := .int (s3.2.2.1 a 9)) (C := RX8) (T := TX8) (N := 15) hx hb hts (mus hf_X8) hown hK hP a (wld_o ct ad G s3.2.2 hc hk (by decide)) rfl 9 (by decide) (hts (.fieldLink RX8 65 "VideoSuite$Units" "payloadSize" "I") (mu mw_227)) (fun _ h9 => h9) rfl dX8_loadPayload_56 ?_
        obtain ⟨x27, ex27, hF⟩ := ltt_some hF
        refine lv_topi (fun zx27 ezx27 => ?_)
        obtain rfl : x27 = zx27 := ex27.trans ezx27.symm
        refine lv_dup_x1 hx hb dX8_loadPayload_59 rfl rfl ?_
        refine lv_iconst (v := (1 : Int32)) hx hb dX8_loadPayload_60 (by decide) ?_
        refine lv_iadd hx hb dX8_loadPayload_61 ?_
        obtain ⟨x28, ex28, hF⟩ := ltt_some hF
        refine lv_topi (fun zx28 ezx28 => ?_)
        obtain rfl : x28 = zx28 := ex28.trans ezx28.symm
        refine va_put (D := D) (ci := 8) (v := .int x28) (ty := .int) (C := RX8) (T := TX8) (N := 15) hx hb hts (mus hf_X8) tyX8 tyX8_ok nmX8 hown hK hP hD hS a (wld_o ct ad G s3.2.2 hc hk (by decide)) rfl 9 (by decide) (hts (.fieldLink RX8 65 "VideoSuite$Units" "payloadSize" "I") (mu mw_227)) (fun _ h9 => h9) rfl (by decide +kernel) rfl rfl (Nat.le_of_ble_eq_true rfl) dX8_loadPayload_62 (fun H locs hP hD hS => ?_)
        obtain ⟨M29, eM29, hF⟩ := ltt_some hF
        rw [set_oI ct ad G s3.2.2 hc hk (by decide) (by rfl), ← eM29] at hP hD
        refine lv_iload hx hb dX8_loadPayload_65 (lv_at hl 0 rfl) ?_
        obtain ⟨b30, ho30, hc30, hk30, hF⟩ := dr_some hF
        refine W_st (st' := [.int x13, .int x27, .ref (ad b30)]) (by rw [va_some ho30]) ?_
        obtain ⟨hvc, hF⟩ := chk_some hF
        refine va_bast hx hb hK hP hD hS b30 0 (wld_b ct ad G M29 hc30 hk30) rfl hvc dX8_loadPayload_67 (fun H locs hP hD hS => ?_)
        obtain ⟨M31, eM31, hF⟩ := ltt_some hF
        rw [set_b ct ad G M29 hc30 hk30, ← eM31] at hP hD
        refine lv_iload hx hb dX8_loadPayload_68 (lv_at hl 0 rfl) ?_
        obtain ⟨y32, hy32, hF⟩ := bnd_some hF
        have J32 : ∀ (H : Heap) (locs : List Loc) (ls : Array Slot), va_P D classes (wld ct ad G M31) H → va_D A (wld ct ad G M31) → va_S A s.heap H locs → lv_has ls 5 [(4, .int x13), (3, .int s3.2.1), (2, .int s3.1), (0, .ref (ad a)), (1, .int p0)] → W p l e (headSpec wuX8_loadPayload ({ frames := 0, cells := 0, slots := 0, locals := 0 })).room s m ([.ref (ad a), .int p0] : List Value).toArray below meth c H locs 0 0 (MQ below (va_Qv (fun (_ : Unit) => True) (fun _ t => kE D ct ad G A y t) A) ([.ref (ad a), .int p0] : List Value).toArray s 0 0 A) (F0 m 80 ls [.int y32]) := by
          intro H locs ls hP hD hS hl
          refine lv_istore_n (lv' := [(2, .int y32), (4, .int x13), (3, .int s3.2.1), (0, .ref (ad a)), (1, .int p0)]) hx hb dX8_loadPayload_80 rfl hl (by decide) rfl (fun ls hl => ?_)
          obtain rfl := Option.some.inj hF
          exact J25 _ _ _ hP hD hS (lv_sub hl [1, 2, 0, 3, 4] rfl)
        clear hF
        have hF := hy32
        clear hy32
        refine lv_if_ne (tgt := 79) hx hb dX8_loadPayload_70 (by decide) (fun c33 => ?_) (fun c33 => ?_)
        · rw [if_neg c33] at hF
          refine lv_iconst (v := (0 : Int32)) hx hb dX8_loadPayload_79 (by decide) ?_
          obtain rfl := Option.some.inj hF
          exact J32 _ _ _ hP hD hS (lv_sub hl [0, 1, 2, 3, 4] rfl)
        · rw [if_pos c33] at hF
          refine lv_iload_n hx hb dX8_loadPayload_73 rfl (lv_at hl 2 rfl) ?_
          refine lv_iconst (v := (1 : Int32)) hx hb dX8_loadPayload_74 (by decide) ?_
          refine lv_iadd hx hb dX8_loadPayload_75 ?_
          obtain ⟨x34, ex34, hF⟩ := ltt_some hF
          refine lv_topi (fun zx34 ezx34 => ?_)
          obtain rfl : x34 = zx34 := ex34.trans ezx34.symm
          refine lv_goto (tgt := 80) hx hb dX8_loadPayload_76 (by decide) ?_
          obtain rfl := Option.some.inj hF
          exact J32 _ _ _ hP hD hS (lv_sub hl [0, 1, 2, 3, 4] rfl)
      · rw [if_pos c26] at hF
        refine lv_iconst (v := (0 : Int32)) hx hb dX8_loadPayload_45 (by decide) ?_
        refine lv_istore_n (lv' := [(2, .int (0 : Int32)), (4, .int x13), (3, .int s3.2.1), (0, .ref (ad a)), (1, .int p0)]) hx hb dX8_loadPayload_46 rfl hl (by decide) rfl (fun ls hl => ?_)
        refine lv_goto (tgt := 81) hx hb dX8_loadPayload_47 (by decide) ?_
        obtain rfl := Option.some.inj hF
        exact J25 _ _ _ hP hD hS (lv_sub hl [1, 2, 0, 3, 4] rfl)
theorem dX8_note_0 : decode cX8_note 0 = .ok (.aload_n 0, 1) := by decide +kernel
theorem dX8_note_1 : decode cX8_note 1 = .ok (.getfield 45, 3) := by decide +kernel
theorem dX8_note_4 : decode cX8_note 4 = .ok (.sipush 400, 3) := by decide +kernel
theorem dX8_note_7 : decode cX8_note 7 = .ok (.if_icmp .lt 5, 3) := by decide +kernel
theorem dX8_note_10 : decode cX8_note 10 = .ok (.iconst 0, 1) := by decide +kernel
theorem dX8_note_11 : decode cX8_note 11 = .ok (.ireturn, 1) := by decide +kernel
theorem dX8_note_12 : decode cX8_note 12 = .ok (.aload_n 0, 1) := by decide +kernel
theorem dX8_note_13 : decode cX8_note 13 = .ok (.getfield 23, 3) := by decide +kernel
theorem dX8_note_16 : decode cX8_note 16 = .ok (.aload_n 0, 1) := by decide +kernel
theorem dX8_note_17 : decode cX8_note 17 = .ok (.getfield 45, 3) := by decide +kernel
theorem dX8_note_20 : decode cX8_note 20 = .ok (.iload_n 1, 1) := by decide +kernel
theorem dX8_note_21 : decode cX8_note 21 = .ok (.iastore, 1) := by decide +kernel
theorem dX8_note_22 : decode cX8_note 22 = .ok (.aload_n 0, 1) := by decide +kernel
theorem dX8_note_23 : decode cX8_note 23 = .ok (.getfield 26, 3) := by decide +kernel
theorem dX8_note_26 : decode cX8_note 26 = .ok (.aload_n 0, 1) := by decide +kernel
theorem dX8_note_27 : decode cX8_note 27 = .ok (.getfield 45, 3) := by decide +kernel
theorem dX8_note_30 : decode cX8_note 30 = .ok (.iload_n 2, 1) := by decide +kernel
theorem dX8_note_31 : decode cX8_note 31 = .ok (.iastore, 1) := by decide +kernel
theorem dX8_note_32 : decode cX8_note 32 = .ok (.aload_n 0, 1) := by decide +kernel
theorem dX8_note_33 : decode cX8_note 33 = .ok (.dup, 1) := by decide +kernel
theorem dX8_note_34 : decode cX8_note 34 = .ok (.getfield 45, 3) := by decide +kernel
theorem dX8_note_37 : decode cX8_note 37 = .ok (.iconst 1, 1) := by decide +kernel
theorem dX8_note_38 : decode cX8_note 38 = .ok (.iadd, 1) := by decide +kernel
theorem dX8_note_39 : decode cX8_note 39 = .ok (.putfield 45, 3) := by decide +kernel
theorem dX8_note_42 : decode cX8_note 42 = .ok (.iconst 1, 1) := by decide +kernel
theorem dX8_note_43 : decode cX8_note 43 = .ok (.ireturn, 1) := by decide +kernel
def FX8_note (G : GG) (M : DD) (a : Nat) (p0 : Int32) (p1 : Int32) : Option (DD × Int32) :=
  ltt (M.1 a 7) fun x1 =>
  if x1 < ((400 : Int32)) then (ltt (M.1 a 7) fun x3 =>
  dr G 13 ((M.2 a 5)) fun b4 =>
  chk (¬ (x3 < 0 ∨ G.2.2 b4 ≤ x3.toNatClampNeg)) <|
  ltt (uI M b4 x3.toNatClampNeg p0) fun M5 =>
  ltt (M5.1 a 7) fun x6 =>
  dr G 13 ((M5.2 a 6)) fun b7 =>
  chk (¬ (x6 < 0 ∨ G.2.2 b7 ≤ x6.toNatClampNeg)) <|
  ltt (uI M5 b7 x6.toNatClampNeg p1) fun M8 =>
  ltt (M8.1 a 7) fun x9 =>
  ltt ((x9 + ((1 : Int32)))) fun x10 =>
  ltt (uI M8 a 7 x10) fun M11 =>
  chk (((1 : Int32)) = 0 ∨ ((1 : Int32)) = 1) <|
  some (M11, (1 : Int32))) else
  (chk (((0 : Int32)) = 0 ∨ ((0 : Int32)) = 1) <|
  some (M, (0 : Int32)))
set_option maxHeartbeats 4000000 in
set_option maxRecDepth 100000 in
theorem kX8_note (l : Launch) (D : va_G) (ct : CT) (ad : Nat → Nat) (Z : Nat → Nat) (G : GG) (M : DD) (sz : Nat) (a : Nat) (p0 : Int32) (p1 : Int32) (y : DD × Int32) (hc : a < G.1) (hk : G.2.1 a = 8) (hF : FX8_note G M a p0 p1 = some y) : Met l yX8_note wuX8_note ({ frames := 0, cells := 0, slots := 0, locals := 0 }) (va_Pc [.ref (ad a), .int p0, .int p1] (kB D ct ad Z G M sz)) (va_Qi (fun (q : Int32) (_ : Unit) => q = y.2) (fun _ t => kE D ct ad G (wA ad G sz) y.1 t) (wA ad G sz)) 0 0 (wA ad G sz) := by
  refine Met.ofW (cc := cX8_note) (maxL := 3) (ret := (some .boolean)) (by decide) rfl ?_
  intro p e s m args below meth c s₁ B hml hv
  obtain ⟨rfl, hsz, hP, hK, hD0, hZ, hN⟩ := hv
  have hx := B.exec
  have hb := B.bytes
  have hr := B.returns
  have hts := atoms_spec (ws := wuX8_note) B.pre
  have hown : s.vm.findClass RX8 = some m.cls := findClass_of_methodNamed B.named
  have hlocks := B.notSynchronized
  subst hsz
  have hD := wD_self (sz := s.heap.size) hD0
  have hA9 : ∀ q, s.heap.size ≤ q → wA ad G s.heap.size q := fun q h => Or.inr h
  generalize hAe : wA ad G s.heap.size = A at hD hA9 hZ ⊢
  have hS : va_S A s.heap s.heap [] := va_S.rf
  have hl := lv_entry ([.ref (ad a), .int p0, .int p1]) (n := 3) (Nat.le_of_ble_eq_true rfl)
  rw [lg_entry_eq]
  generalize (lg_sl ([.ref (ad a), .int p0, .int p1]) ++ List.replicate (3 - (lg_sl ([.ref (ad a), .int p0, .int p1])).length) Slot.unset).toArray = ls at hl ⊢
  have hl : lv_has ls 3 [(0, .ref (ad a)), (1, .int p0), (2, .int p1)] := hl
  unfold FX8_note at hF
  refine lv_aload_n hx hb dX8_note_0 rfl (lv_at hl 0 rfl) ?_
  refine va_get (D := D) (ci := 8) (v := .int (M.1 a 7)) (C := RX8) (T := TX8) (N := 15) hx hb hts (mus hf_X8) hown hK hP a (wld_o ct ad G M hc hk (by decide)) rfl 7 (by decide) (hts (.fieldLink RX8 45 "VideoSuite$Units" "found" "I") (mu mw_222)) (fun _ h9 => h9) rfl dX8_note_1 ?_
  obtain ⟨x1, ex1, hF⟩ := ltt_some hF
  refine lv_topi (fun zx1 ezx1 => ?_)
  obtain rfl : x1 = zx1 := ex1.trans ezx1.symm
  refine lv_sipush (v := (400 : Int32)) hx hb dX8_note_4 (by decide) ?_
  refine lv_icmp_lt (tgt := 12) hx hb dX8_note_7 (by decide) (fun c2 => ?_) (fun c2 => ?_)
  · rw [if_pos c2] at hF
    refine lv_aload_n hx hb dX8_note_12 rfl (lv_at hl 0 rfl) ?_
    refine va_get (D := D) (ci := 8) (v := va_re ad (M.2 a 5)) (C := RX8) (T := TX8) (N := 15) hx hb hts (mus hf_X8) hown hK hP a (wld_o ct ad G M hc hk (by decide)) rfl 5 (by decide) (hts (.fieldLink RX8 23 "VideoSuite$Units" "foundStart" "[I") (mu mw_220)) (fun _ h9 => h9) rfl dX8_note_13 ?_
    refine lv_aload_n hx hb dX8_note_16 rfl (lv_at hl 0 rfl) ?_
    refine va_get (D := D) (ci := 8) (v := .int (M.1 a 7)) (C := RX8) (T := TX8) (N := 15) hx hb hts (mus hf_X8) hown hK hP a (wld_o ct ad G M hc hk (by decide)) rfl 7 (by decide) (hts (.fieldLink RX8 45 "VideoSuite$Units" "found" "I") (mu mw_222)) (fun _ h9 => h9) rfl dX8_note_17 ?_
    obtain ⟨x3, ex3, hF⟩ := ltt_some hF
    refine lv_topi (fun zx3 ezx3 => ?_)
    obtain rfl : x3 = zx3 := ex3.trans ezx3.symm
    refine lv_iload_n hx hb dX8_note_20 rfl (lv_at hl 1 rfl) ?_
    obtain ⟨b4, ho4, hc4, hk4, hF⟩ := dr_some hF
    refine W_st (st' := [.int p0, .int x3, .ref (ad b4)]) (by rw [va_some ho4]) ?_
    obtain ⟨hvc, hF⟩ := chk_some hF
    refine va_iast hx hb hK hP hD hS b4 1 (wld_i ct ad G M hc4 hk4) rfl hvc dX8_note_21 (fun H locs hP hD hS => ?_)
    obtain ⟨M5, eM5, hF⟩ := ltt_some hF
    rw [set_i ct ad G M hc4 hk4, ← eM5] at hP hD
    refine lv_aload_n hx hb dX8_note_22 rfl (lv_at hl 0 rfl) ?_
    refine va_get (D := D) (ci := 8) (v := va_re ad (M5.2 a 6)) (C := RX8) (T := TX8) (N := 15) hx hb hts (mus hf_X8) hown hK hP a (wld_o ct ad G M5 hc hk (by decide)) rfl 6 (by decide) (hts (.fieldLink RX8 26 "VideoSuite$Units" "foundSize" "[I") (mu mw_221)) (fun _ h9 => h9) rfl dX8_note_23 ?_
    refine lv_aload_n hx hb dX8_note_26 rfl (lv_at hl 0 rfl) ?_
    refine va_get (D := D) (ci := 8) (v := .int (M5.1 a 7)) (C := RX8) (T := TX8) (N := 15) hx hb hts (mus hf_X8) hown hK hP a (wld_o ct ad G M5 hc hk (by decide)) rfl 7 (by decide) (hts (.fieldLink RX8 45 "VideoSuite$Units" "found" "I") (mu mw_222)) (fun _ h9 => h9) rfl dX8_note_27 ?_
    obtain ⟨x6, ex6, hF⟩ := ltt_some hF
    refine lv_topi (fun zx6 ezx6 => ?_)
    obtain rfl : x6 = zx6 := ex6.trans ezx6.symm
    refine lv_iload_n hx hb dX8_note_30 rfl (lv_at hl 2 rfl) ?_
    obtain ⟨b7, ho7, hc7, hk7, hF⟩ := dr_some hF
    refine W_st (st' := [.int p1, .int x6, .ref (ad b7)]) (by rw [va_some ho7]) ?_
    obtain ⟨hvc, hF⟩ := chk_some hF
    refine va_iast hx hb hK hP hD hS b7 1 (wld_i ct ad G M5 hc7 hk7) rfl hvc dX8_note_31 (fun H locs hP hD hS => ?_)
    obtain ⟨M8, eM8, hF⟩ := ltt_some hF
    rw [set_i ct ad G M5 hc7 hk7, ← eM8] at hP hD
    refine lv_aload_n hx hb dX8_note_32 rfl (lv_at hl 0 rfl) ?_
    refine lv_dup hx hb dX8_note_33 rfl ?_
    refine va_get (D := D) (ci := 8) (v := .int (M8.1 a 7)) (C := RX8) (T := TX8) (N := 15) hx hb hts (mus hf_X8) hown hK hP a (wld_o ct ad G M8 hc hk (by decide)) rfl 7 (by decide) (hts (.fieldLink RX8 45 "VideoSuite$Units" "found" "I") (mu mw_222)) (fun _ h9 => h9) rfl dX8_note_34 ?_
    obtain ⟨x9, ex9, hF⟩ := ltt_some hF
    refine lv_topi (fun zx9 ezx9 => ?_)
    obtain rfl : x9 = zx9 := ex9.trans ezx9.symm
    refine lv_iconst (v := (1 : Int32)) hx hb dX8_note_37 (by decide) ?_
    refine lv_iadd hx hb dX8_note_38 ?_
    obtain ⟨x10, ex10, hF⟩ := ltt_some hF
    refine lv_topi (fun zx10 ezx10 => ?_)
    obtain rfl : x10 = zx10 := ex10.trans ezx10.symm
    refine va_put (D := D) (ci := 8) (v := .int x10) (ty := .int) (C := RX8) (T := TX8) (N := 15) hx hb hts (mus hf_X8) tyX8 tyX8_ok nmX8 hown hK hP hD hS a (wld_o ct ad G M8 hc hk (by decide)) rfl 7 (by decide) (hts (.fieldLink RX8 45 "VideoSuite$Units" "found" "I") (mu mw_222)) (fun _ h9 => h9) rfl (by decide +kernel) rfl rfl (Nat.le_of_ble_eq_true rfl) dX8_note_39 (fun H locs hP hD hS => ?_)
    obtain ⟨M11, eM11, hF⟩ := ltt_some hF
    rw [set_oI ct ad G M8 hc hk (by decide) (by rfl), ← eM11] at hP hD
    refine lv_iconst (v := (1 : Int32)) hx hb dX8_note_42 (by decide) ?_
    obtain ⟨hz9, hF⟩ := chk_some hF
    obtain rfl := Option.some.inj hF
    exact W.zret (v := (1 : Int32)) (ty := .boolean) hx hb hr (nar_z hz9).1 (fun t ht hW => ⟨⟨_, (), rfl, rfl, ⟨by rw [ht]; exact hP, va_K.moved hW.alike hK, hD⟩⟩, hS.F ht⟩) hS.2.2 dX8_note_43
  · rw [if_neg c2] at hF
    refine lv_iconst (v := (0 : Int32)) hx hb dX8_note_10 (by decide) ?_
    obtain ⟨hz9, hF⟩ := chk_some hF
    obtain rfl := Option.some.inj hF
    exact W.zret (v := (0 : Int32)) (ty := .boolean) hx hb hr (nar_z hz9).1 (fun t ht hW => ⟨⟨_, (), rfl, rfl, ⟨by rw [ht]; exact hP, va_K.moved hW.alike hK, hD⟩⟩, hS.F ht⟩) hS.2.2 dX8_note_11
theorem dX8_noteBox_0 : decode cX8_noteBox 0 = .ok (.aload_n 0, 1) := by decide +kernel
theorem dX8_noteBox_1 : decode cX8_noteBox 1 = .ok (.getfield 95, 3) := by decide +kernel
theorem dX8_noteBox_4 : decode cX8_noteBox 4 = .ok (.bipush 60, 2) := by decide +kernel
theorem dX8_noteBox_6 : decode cX8_noteBox 6 = .ok (.if_icmp .ge 60, 3) := by decide +kernel
theorem dX8_noteBox_9 : decode cX8_noteBox 9 = .ok (.iconst 4, 1) := by decide +kernel
theorem dX8_noteBox_10 : decode cX8_noteBox 10 = .ok (.aload_n 0, 1) := by decide +kernel
theorem dX8_noteBox_11 : decode cX8_noteBox 11 = .ok (.getfield 95, 3) := by decide +kernel
theorem dX8_noteBox_14 : decode cX8_noteBox 14 = .ok (.imul, 1) := by decide +kernel
theorem dX8_noteBox_15 : decode cX8_noteBox 15 = .ok (.istore 5, 2) := by decide +kernel
theorem dX8_noteBox_17 : decode cX8_noteBox 17 = .ok (.aload_n 0, 1) := by decide +kernel
theorem dX8_noteBox_18 : decode cX8_noteBox 18 = .ok (.getfield 32, 3) := by decide +kernel
theorem dX8_noteBox_21 : decode cX8_noteBox 21 = .ok (.iload 5, 2) := by decide +kernel
theorem dX8_noteBox_23 : decode cX8_noteBox 23 = .ok (.iload_n 1, 1) := by decide +kernel
theorem dX8_noteBox_24 : decode cX8_noteBox 24 = .ok (.iastore, 1) := by decide +kernel
theorem dX8_noteBox_25 : decode cX8_noteBox 25 = .ok (.aload_n 0, 1) := by decide +kernel
theorem dX8_noteBox_26 : decode cX8_noteBox 26 = .ok (.getfield 32, 3) := by decide +kernel
theorem dX8_noteBox_29 : decode cX8_noteBox 29 = .ok (.iload 5, 2) := by decide +kernel
theorem dX8_noteBox_31 : decode cX8_noteBox 31 = .ok (.iconst 1, 1) := by decide +kernel
theorem dX8_noteBox_32 : decode cX8_noteBox 32 = .ok (.iadd, 1) := by decide +kernel
theorem dX8_noteBox_33 : decode cX8_noteBox 33 = .ok (.iload_n 2, 1) := by decide +kernel
theorem dX8_noteBox_34 : decode cX8_noteBox 34 = .ok (.iastore, 1) := by decide +kernel
theorem dX8_noteBox_35 : decode cX8_noteBox 35 = .ok (.aload_n 0, 1) := by decide +kernel
theorem dX8_noteBox_36 : decode cX8_noteBox 36 = .ok (.getfield 32, 3) := by decide +kernel
theorem dX8_noteBox_39 : decode cX8_noteBox 39 = .ok (.iload 5, 2) := by decide +kernel
theorem dX8_noteBox_41 : decode cX8_noteBox 41 = .ok (.iconst 2, 1) := by decide +kernel
theorem dX8_noteBox_42 : decode cX8_noteBox 42 = .ok (.iadd, 1) := by decide +kernel
theorem dX8_noteBox_43 : decode cX8_noteBox 43 = .ok (.iload_n 3, 1) := by decide +kernel
theorem dX8_noteBox_44 : decode cX8_noteBox 44 = .ok (.iastore, 1) := by decide +kernel
theorem dX8_noteBox_45 : decode cX8_noteBox 45 = .ok (.aload_n 0, 1) := by decide +kernel
theorem dX8_noteBox_46 : decode cX8_noteBox 46 = .ok (.getfield 32, 3) := by decide +kernel
theorem dX8_noteBox_49 : decode cX8_noteBox 49 = .ok (.iload 5, 2) := by decide +kernel
theorem dX8_noteBox_51 : decode cX8_noteBox 51 = .ok (.iconst 3, 1) := by decide +kernel
theorem dX8_noteBox_52 : decode cX8_noteBox 52 = .ok (.iadd, 1) := by decide +kernel
theorem dX8_noteBox_53 : decode cX8_noteBox 53 = .ok (.iload 4, 2) := by decide +kernel
theorem dX8_noteBox_55 : decode cX8_noteBox 55 = .ok (.iastore, 1) := by decide +kernel
theorem dX8_noteBox_56 : decode cX8_noteBox 56 = .ok (.aload_n 0, 1) := by decide +kernel
theorem dX8_noteBox_57 : decode cX8_noteBox 57 = .ok (.dup, 1) := by decide +kernel
theorem dX8_noteBox_58 : decode cX8_noteBox 58 = .ok (.getfield 95, 3) := by decide +kernel
theorem dX8_noteBox_61 : decode cX8_noteBox 61 = .ok (.iconst 1, 1) := by decide +kernel
theorem dX8_noteBox_62 : decode cX8_noteBox 62 = .ok (.iadd, 1) := by decide +kernel
theorem dX8_noteBox_63 : decode cX8_noteBox 63 = .ok (.putfield 95, 3) := by decide +kernel
theorem dX8_noteBox_66 : decode cX8_noteBox 66 = .ok (.iload_n 1, 1) := by decide +kernel
theorem dX8_noteBox_67 : decode cX8_noteBox 67 = .ok (.ldc 93, 2) := by decide +kernel
theorem dX8_noteBox_69 : decode cX8_noteBox 69 = .ok (.if_icmp .ne 7, 3) := by decide +kernel
theorem dX8_noteBox_72 : decode cX8_noteBox 72 = .ok (.iconst 0, 1) := by decide +kernel
theorem dX8_noteBox_73 : decode cX8_noteBox 73 = .ok (.goto 14, 3) := by decide +kernel
theorem dX8_noteBox_76 : decode cX8_noteBox 76 = .ok (.iload_n 1, 1) := by decide +kernel
theorem dX8_noteBox_77 : decode cX8_noteBox 77 = .ok (.ldc 94, 2) := by decide +kernel
theorem dX8_noteBox_79 : decode cX8_noteBox 79 = .ok (.if_icmp .ne 7, 3) := by decide +kernel
theorem dX8_noteBox_82 : decode cX8_noteBox 82 = .ok (.iconst 2, 1) := by decide +kernel
theorem dX8_noteBox_83 : decode cX8_noteBox 83 = .ok (.goto 4, 3) := by decide +kernel
theorem dX8_noteBox_86 : decode cX8_noteBox 86 = .ok (.iconst (-1), 1) := by decide +kernel
theorem dX8_noteBox_87 : decode cX8_noteBox 87 = .ok (.istore 5, 2) := by decide +kernel
theorem dX8_noteBox_89 : decode cX8_noteBox 89 = .ok (.iload 5, 2) := by decide +kernel
theorem dX8_noteBox_91 : decode cX8_noteBox 91 = .ok (.ifCond .lt 37, 3) := by decide +kernel
theorem dX8_noteBox_94 : decode cX8_noteBox 94 = .ok (.aload_n 0, 1) := by decide +kernel
theorem dX8_noteBox_95 : decode cX8_noteBox 95 = .ok (.getfield 35, 3) := by decide +kernel
theorem dX8_noteBox_98 : decode cX8_noteBox 98 = .ok (.iload 5, 2) := by decide +kernel
theorem dX8_noteBox_100 : decode cX8_noteBox 100 = .ok (.iaload, 1) := by decide +kernel
theorem dX8_noteBox_101 : decode cX8_noteBox 101 = .ok (.ifCond .ge 27, 3) := by decide +kernel
theorem dX8_noteBox_104 : decode cX8_noteBox 104 = .ok (.aload_n 0, 1) := by decide +kernel
theorem dX8_noteBox_105 : decode cX8_noteBox 105 = .ok (.getfield 35, 3) := by decide +kernel
theorem dX8_noteBox_108 : decode cX8_noteBox 108 = .ok (.iload 5, 2) := by decide +kernel
theorem dX8_noteBox_110 : decode cX8_noteBox 110 = .ok (.iload_n 2, 1) := by decide +kernel
theorem dX8_noteBox_111 : decode cX8_noteBox 111 = .ok (.bipush 8, 2) := by decide +kernel
theorem dX8_noteBox_113 : decode cX8_noteBox 113 = .ok (.iadd, 1) := by decide +kernel
theorem dX8_noteBox_114 : decode cX8_noteBox 114 = .ok (.iastore, 1) := by decide +kernel
theorem dX8_noteBox_115 : decode cX8_noteBox 115 = .ok (.aload_n 0, 1) := by decide +kernel
theorem dX8_noteBox_116 : decode cX8_noteBox 116 = .ok (.getfield 35, 3) := by decide +kernel
theorem dX8_noteBox_119 : decode cX8_noteBox 119 = .ok (.iload 5, 2) := by decide +kernel
theorem dX8_noteBox_121 : decode cX8_noteBox 121 = .ok (.iconst 1, 1) := by decide +kernel
theorem dX8_noteBox_122 : decode cX8_noteBox 122 = .ok (.iadd, 1) := by decide +kernel
theorem dX8_noteBox_123 : decode cX8_noteBox 123 = .ok (.iload_n 3, 1) := by decide +kernel
theorem dX8_noteBox_124 : decode cX8_noteBox 124 = .ok (.bipush 8, 2) := by decide +kernel
theorem dX8_noteBox_126 : decode cX8_noteBox 126 = .ok (.isub, 1) := by decide +kernel
theorem dX8_noteBox_127 : decode cX8_noteBox 127 = .ok (.iastore, 1) := by decide +kernel
theorem dX8_noteBox_128 : decode cX8_noteBox 128 = .ok (.return_, 1) := by decide +kernel
def FX8_noteBox (G : GG) (M : DD) (a : Nat) (p0 : Int32) (p1 : Int32) (p2 : Int32) (p3 : Int32) : Option (DD) :=
  ltt (M.1 a 11) fun x1 =>
  bnd (if ((60 : Int32)) ≤ x1 then (some (M)) else
  (ltt (M.1 a 11) fun x20 =>
  ltt ((((4 : Int32)) * x20)) fun x21 =>
  dr G 13 ((M.2 a 10)) fun b22 =>
  chk (¬ (x21 < 0 ∨ G.2.2 b22 ≤ x21.toNatClampNeg)) <|
  ltt (uI M b22 x21.toNatClampNeg p0) fun M23 =>
  ltt ((x21 + ((1 : Int32)))) fun x24 =>
  dr G 13 ((M23.2 a 10)) fun b25 =>
  chk (¬ (x24 < 0 ∨ G.2.2 b25 ≤ x24.toNatClampNeg)) <|
  ltt (uI M23 b25 x24.toNatClampNeg p1) fun M26 =>
  ltt ((x21 + ((2 : Int32)))) fun x27 =>
  dr G 13 ((M26.2 a 10)) fun b28 =>
  chk (¬ (x27 < 0 ∨ G.2.2 b28 ≤ x27.toNatClampNeg)) <|
  ltt (uI M26 b28 x27.toNatClampNeg p2) fun M29 =>
  ltt ((x21 + ((3 : Int32)))) fun x30 =>
  dr G 13 ((M29.2 a 10)) fun b31 =>
  chk (¬ (x30 < 0 ∨ G.2.2 b31 ≤ x30.toNatClampNeg)) <|
  ltt (uI M29 b31 x30.toNatClampNeg p3) fun M32 =>
  ltt (M32.1 a 11) fun x33 =>
  ltt ((x33 + ((1 : Int32)))) fun x34 =>
  ltt (uI M32 a 11 x34) fun M35 =>
  some (M35))) fun (y2 : DD) =>
  bnd (if p0 = ((1937011578 : Int32)) then (some ((0 : Int32))) else
  (bnd (if p0 = ((1937007471 : Int32)) then (some ((2 : Int32))) else
  (some ((-1 : Int32)))) fun (y17 : Int32) =>
  some (y17))) fun (y3 : Int32) =>
  bnd (if y3 < ((0 : Int32)) then (some (y2)) else
  (dr G 13 ((y2.2 a 12)) fun b6 =>
  chk (¬ (y3 < 0 ∨ G.2.2 b6 ≤ y3.toNatClampNeg)) <|
  ltt (y2.1 b6 y3.toNatClampNeg) fun x7 =>
  bnd (if ((0 : Int32)) ≤ x7 then (some (y2)) else
  (ltt ((p1 + ((8 : Int32)))) fun x10 =>
  chk (¬ (y3 < 0 ∨ G.2.2 b6 ≤ y3.toNatClampNeg)) <|
  ltt (uI y2 b6 y3.toNatClampNeg x10) fun M11 =>
  ltt ((y3 + ((1 : Int32)))) fun x12 =>
  ltt ((p2 - ((8 : Int32)))) fun x13 =>
  dr G 13 ((M11.2 a 12)) fun b14 =>
  chk (¬ (x12 < 0 ∨ G.2.2 b14 ≤ x12.toNatClampNeg)) <|
  ltt (uI M11 b14 x12.toNatClampNeg x13) fun M15 =>
  some (M15))) fun (y8 : DD) =>
  some (y8))) fun (y4 : DD) =>
  some y4
set_option maxHeartbeats 4000000 in
set_option maxRecDepth 100000 in
theorem kX8_noteBox (l : Launch) (D : va_G) (ct : CT) (ad : Nat → Nat) (Z : Nat → Nat) (G : GG) (M : DD) (sz : Nat) (a : Nat) (p0 : Int32) (p1 : Int32) (p2 : Int32) (p3 : Int32) (y : DD) (hc : a < G.1) (hk : G.2.1 a = 8) (hF : FX8_noteBox G M a p0 p1 p2 p3 = some y) : Met l yX8_noteBox wuX8_noteBox ({ frames := 0, cells := 0, slots := 0, locals := 0 }) (va_Pc [.ref (ad a), .int p0, .int p1, .int p2, .int p3] (kB D ct ad Z G M sz)) (va_Qv (fun (_ : Unit) => True) (fun _ t => kE D ct ad G (wA ad G sz) y t) (wA ad G sz)) 0 0 (wA ad G sz) := by
  refine Met.ofW (cc := cX8_noteBox) (maxL := 6) (ret := none) (by decide) rfl ?_
  intro p e s m args below meth c s₁ B hml hv
  obtain ⟨rfl, hsz, hP, hK, hD0, hZ, hN⟩ := hv
  have hx := B.exec
  have hb := B.bytes
  have hr := B.returns
  have hts := atoms_spec (ws := wuX8_noteBox) B.pre
  have hown : s.vm.findClass RX8 = some m.cls := findClass_of_methodNamed B.named
  have hlocks := B.notSynchronized
  subst hsz
  have hD := wD_self (sz := s.heap.size) hD0
  have hA9 : ∀ q, s.heap.size ≤ q → wA ad G s.heap.size q := fun q h => Or.inr h
  generalize hAe : wA ad G s.heap.size = A at hD hA9 hZ ⊢
  have hS : va_S A s.heap s.heap [] := va_S.rf
  have hl := lv_entry ([.ref (ad a), .int p0, .int p1, .int p2, .int p3]) (n := 6) (Nat.le_of_ble_eq_true rfl)
  rw [lg_entry_eq]
  generalize (lg_sl ([.ref (ad a), .int p0, .int p1, .int p2, .int p3]) ++ List.replicate (6 - (lg_sl ([.ref (ad a), .int p0, .int p1, .int p2, .int p3])).length) Slot.unset).toArray = ls at hl ⊢
  have hl : lv_has ls 6 [(0, .ref (ad a)), (1, .int p0), (2, .int p1), (3, .int p2), (4, .int p3)] := hl
  unfold FX8_noteBox at hF
  refine lv_aload_n hx hb dX8_noteBox_0 rfl (lv_at hl 0 rfl) ?_
  refine va_get (D := D) (ci := 8) (v := .int (M.1 a 11)) (C := RX8) (T := TX8) (N := 15) hx hb hts (mus hf_X8) hown hK hP a (wld_o ct ad G M hc hk (by decide)) rfl 11 (by decide) (hts (.fieldLink RX8 95 "VideoSuite$Units" "boxCount" "I") (mu mw_229)) (fun _ h9 => h9) rfl dX8_noteBox_1 ?_
  obtain ⟨x1, ex1, hF⟩ := ltt_some hF
  refine lv_topi (fun zx1 ezx1 => ?_)
  obtain rfl : x1 = zx1 := ex1.trans ezx1.symm
  refine lv_bipush (v := (60 : Int32)) hx hb dX8_noteBox_4 (by decide) ?_
  obtain ⟨y2, hy2, hF⟩ := bnd_some hF
  have J2 : ∀ (H : Heap) (locs : List Loc) (ls : Array Slot), va_P D classes (wld ct ad G y2) H → va_D A (wld ct ad G y2) → va_S A s.heap H locs → lv_has ls 6 [(0, .ref (ad a)), (1, .int p0), (2, .int p1), (3, .int p2), (4, .int p3)] → W p l e (headSpec wuX8_noteBox ({ frames := 0, cells := 0, slots := 0, locals := 0 })).room s m ([.ref (ad a), .int p0, .int p1, .int p2, .int p3] : List Value).toArray below meth c H locs 0 0 (MQ below (va_Qv (fun (_ : Unit) => True) (fun _ t => kE D ct ad G A y t) A) ([.ref (ad a), .int p0, .int p1, .int p2, .int p3] : List Value).toArray s 0 0 A) (F0 m 66 ls []) := by
    intro H locs ls hP hD hS hl
    refine lv_iload_n hx hb dX8_noteBox_66 rfl (lv_at hl 1 rfl) ?_
    refine lv_ldc (v := (1937011578 : Int32)) hx hb hown (hts (.constant RX8 93 (1937011578 : Int32)) (mu mw_2813)) dX8_noteBox_67 ?_
    obtain ⟨y3, hy3, hF⟩ := bnd_some hF
    have J3 : ∀ (H : Heap) (locs : List Loc) (ls : Array Slot), va_P D classes (wld ct ad G y2) H → va_D A (wld ct ad G y2) → va_S A s.heap H locs → lv_has ls 6 [(0, .ref (ad a)), (1, .int p0), (2, .int p1), (3, .int p2), (4, .int p3)] → W p l e (headSpec wuX8_noteBox ({ frames := 0, cells := 0, slots := 0, locals := 0 })).room s m ([.ref (ad a), .int p0, .int p1, .int p2, .int p3] : List Value).toArray below meth c H locs 0 0 (MQ below (va_Qv (fun (_ : Unit) => True) (fun _ t => kE D ct ad G A y t) A) ([.ref (ad a), .int p0, .int p1, .int p2, .int p3] : List Value).toArray s 0 0 A) (F0 m 87 ls [.int y3]) := by
      intro H locs ls hP hD hS hl
      refine lv_istore (lv' := [(5, .int y3), (0, .ref (ad a)), (1, .int p0), (2, .int p1), (3, .int p2), (4, .int p3)]) hx hb dX8_noteBox_87 hl (by decide) rfl (fun ls hl => ?_)
      refine lv_iload hx hb dX8_noteBox_89 (lv_at hl 0 rfl) ?_
      obtain ⟨y4, hy4, hF⟩ := bnd_some hF
      have J4 : ∀ (H : Heap) (locs : List Loc) (ls : Array Slot), va_P D classes (wld ct ad G y4) H → va_D A (wld ct ad G y4) → va_S A s.heap H locs → lv_has ls 6 [(5, .int y3), (0, .ref (ad a)), (1, .int p0), (2, .int p1), (3, .int p2), (4, .int p3)] → W p l e (headSpec wuX8_noteBox ({ frames := 0, cells := 0, slots := 0, locals := 0 })).room s m ([.ref (ad a), .int p0, .int p1, .int p2, .int p3] : List Value).toArray below meth c H locs 0 0 (MQ below (va_Qv (fun (_ : Unit) => True) (fun _ t => kE D ct ad G A y t) A) ([.ref (ad a), .int p0, .int p1, .int p2, .int p3] : List Value).toArray s 0 0 A) (F0 m 128 ls []) := by
        intro H locs ls hP hD hS hl
        obtain rfl := Option.some.inj hF
        exact W.vret hx hb hr (fun t ht hW => ⟨⟨(), rfl, trivial, ⟨by rw [ht]; exact hP, va_K.moved hW.alike hK, hD⟩⟩, hS.F ht⟩) hS.2.2 dX8_noteBox_128
      clear hF
      have hF := hy4
      clear hy4
      refine lv_if_lt (tgt := 128) hx hb dX8_noteBox_91 (by decide) (fun c5 => ?_) (fun c5 => ?_)
      · rw [if_pos c5] at hF
        obtain rfl := Option.some.inj hF
        exact J4 _ _ _ hP hD hS (lv_sub hl [0, 1, 2, 3, 4, 5] rfl)
      · rw [if_neg c5] at hF
        refine lv_aload_n hx hb dX8_noteBox_94 rfl (lv_at hl 1 rfl) ?_
        refine va_get (D := D) (ci := 8) (v := va_re ad (y2.2 a 12)) (C := RX8) (T := TX8) (N := 15) hx hb hts (mus hf_X8) hown hK hP a (wld_o ct ad G y2 hc hk (by decide)) rfl 12 (by decide) (hts (.fieldLink RX8 35 "VideoSuite$Units" "table" "[I") (mu mw_231)) (fun _ h9 => h9) rfl dX8_noteBox_95 ?_
        refine lv_iload hx hb dX8_noteBox_98 (lv_at hl 0 rfl) ?_
        obtain ⟨b6, ho6, hc6, hk6, hF⟩ := dr_some hF
        refine W_st (st' := [.int y3, .ref (ad b6)]) (by rw [va_some ho6]) ?_
        obtain ⟨hvc, hF⟩ := chk_some hF
        refine va_iald hx hb hK hP b6 1 (wld_i ct ad G y2 hc6 hk6) rfl hvc dX8_noteBox_100 ?_
        obtain ⟨x7, ex7, hF⟩ := ltt_some hF
        refine lv_topi (fun zx7 ezx7 => ?_)
        obtain rfl : x7 = zx7 := ex7.trans ezx7.symm
        obtain ⟨y8, hy8, hF⟩ := bnd_some hF
        have J8 : ∀ (H : Heap) (locs : List Loc) (ls : Array Slot), va_P D classes (wld ct ad G y8) H → va_D A (wld ct ad G y8) → va_S A s.heap H locs → lv_has ls 6 [(5, .int y3), (0, .ref (ad a)), (1, .int p0), (2, .int p1), (3, .int p2), (4, .int p3)] → W p l e (headSpec wuX8_noteBox ({ frames := 0, cells := 0, slots := 0, locals := 0 })).room s m ([.ref (ad a), .int p0, .int p1, .int p2, .int p3] : List Value).toArray below meth c H locs 0 0 (MQ below (va_Qv (fun (_ : Unit) => True) (fun _ t => kE D ct ad G A y t) A) ([.ref (ad a), .int p0, .int p1, .int p2, .int p3] : List Value).toArray s 0 0 A) (F0 m 128 ls []) := by
          intro H locs ls hP hD hS hl
          obtain rfl := Option.some.inj hF
          exact J4 _ _ _ hP hD hS (lv_sub hl [0, 1, 2, 3, 4, 5] rfl)
        clear hF
        have hF := hy8
        clear hy8
        refine lv_if_ge (tgt := 128) hx hb dX8_noteBox_101 (by decide) (fun c9 => ?_) (fun c9 => ?_)
        · rw [if_pos c9] at hF
          obtain rfl := Option.some.inj hF
          exact J8 _ _ _ hP hD hS (lv_sub hl [0, 1, 2, 3, 4, 5] rfl)
        · rw [if_neg c9] at hF
          refine lv_aload_n hx hb dX8_noteBox_104 rfl (lv_at hl 1 rfl) ?_
          refine va_get (D := D) (ci := 8) (v := va_re ad (y2.2 a 12)) (C := RX8) (T := TX8) (N := 15) hx hb hts (mus hf_X8) hown hK hP a (wld_o ct ad G y2 hc hk (by decide)) rfl 12 (by decide) (hts (.fieldLink RX8 35 "VideoSuite$Units" "table" "[I") (mu mw_231)) (fun _ h9 => h9) rfl dX8_noteBox_105 ?_
          refine lv_iload hx hb dX8_noteBox_108 (lv_at hl 0 rfl) ?_
          refine lv_iload_n hx hb dX8_noteBox_110 rfl (lv_at hl 3 rfl) ?_
          refine lv_bipush (v := (8 : Int32)) hx hb dX8_noteBox_111 (by decide) ?_
          refine lv_iadd hx hb dX8_noteBox_113 ?_
          obtain ⟨x10, ex10, hF⟩ := ltt_some hF
          refine lv_topi (fun zx10 ezx10 => ?_)
          obtain rfl : x10 = zx10 := ex10.trans ezx10.symm
          refine W_st (st' := [.int x10, .int y3, .ref (ad b6)]) (by rw [va_some ho6]) ?_
          obtain ⟨hvc, hF⟩ := chk_some hF
          refine va_iast hx hb hK hP hD hS b6 1 (wld_i ct ad G y2 hc6 hk6) rfl hvc dX8_noteBox_114 (fun H locs hP hD hS => ?_)
          obtain ⟨M11, eM11, hF⟩ := ltt_some hF
          rw [set_i ct ad G y2 hc6 hk6, ← eM11] at hP hD
          refine lv_aload_n hx hb dX8_noteBox_115 rfl (lv_at hl 1 rfl) ?_
          refine va_get (D := D) (ci := 8) (v := va_re ad (M11.2 a 12)) (C := RX8) (T := TX8) (N := 15) hx hb hts (mus hf_X8) hown hK hP a (wld_o ct ad G M11 hc hk (by decide)) rfl 12 (by decide) (hts (.fieldLink RX8 35 "VideoSuite$Units" "table" "[I") (mu mw_231)) (fun _ h9 => h9) rfl dX8_noteBox_116 ?_
          refine lv_iload hx hb dX8_noteBox_119 (lv_at hl 0 rfl) ?_
          refine lv_iconst (v := (1 : Int32)) hx hb dX8_noteBox_121 (by decide) ?_
          refine lv_iadd hx hb dX8_noteBox_122 ?_
          obtain ⟨x12, ex12, hF⟩ := ltt_some hF
          refine lv_topi (fun zx12 ezx12 => ?_)
          obtain rfl : x12 = zx12 := ex12.trans ezx12.symm
          refine lv_iload_n hx hb dX8_noteBox_123 rfl (lv_at hl 4 rfl) ?_
          refine lv_bipush (v := (8 : Int32)) hx hb dX8_noteBox_124 (by decide) ?_
          refine lv_isub hx hb dX8_noteBox_126 ?_
          obtain ⟨x13, ex13, hF⟩ := ltt_some hF
          refine lv_topi (fun zx13 ezx13 => ?_)
          obtain rfl : x13 = zx13 := ex13.trans ezx13.symm
          obtain ⟨b14, ho14, hc14, hk14, hF⟩ := dr_some hF
          refine W_st (st' := [.int x13, .int x12, .ref (ad b14)]) (by rw [va_some ho14]) ?_
          obtain ⟨hvc, hF⟩ := chk_some hF
          refine va_iast hx hb hK hP hD hS b14 1 (wld_i ct ad G M11 hc14 hk14) rfl hvc dX8_noteBox_127 (fun H locs hP hD hS => ?_)
          obtain ⟨M15, eM15, hF⟩ := ltt_some hF
          rw [set_i ct ad G M11 hc14 hk14, ← eM15] at hP hD
          obtain rfl := Option.some.inj hF
          exact J8 _ _ _ hP hD hS (lv_sub hl [0, 1, 2, 3, 4, 5] rfl)
    clear hF
    have hF := hy3
    clear hy3
    refine lv_icmp_ne (tgt := 76) hx hb dX8_noteBox_69 (by decide) (fun c16 => ?_) (fun c16 => ?_)
    · rw [if_neg c16] at hF
      refine lv_iload_n hx hb dX8_noteBox_76 rfl (lv_at hl 1 rfl) ?_
      refine lv_ldc (v := (1937007471 : Int32)) hx hb hown (hts (.constant RX8 94 (1937007471 : Int32)) (mu mw_2814)) dX8_noteBox_77 ?_
      obtain ⟨y17, hy17, hF⟩ := bnd_some hF
      have J17 : ∀ (H : Heap) (locs : List Loc) (ls : Array Slot), va_P D classes (wld ct ad G y2) H → va_D A (wld ct ad G y2) → va_S A s.heap H locs → lv_has ls 6 [(0, .ref (ad a)), (1, .int p0), (2, .int p1), (3, .int p2), (4, .int p3)] → W p l e (headSpec wuX8_noteBox ({ frames := 0, cells := 0, slots := 0, locals := 0 })).room s m ([.ref (ad a), .int p0, .int p1, .int p2, .int p3] : List Value).toArray below meth c H locs 0 0 (MQ below (va_Qv (fun (_ : Unit) => True) (fun _ t => kE D ct ad G A y t) A) ([.ref (ad a), .int p0, .int p1, .int p2, .int p3] : List Value).toArray s 0 0 A) (F0 m 87 ls [.int y17]) := by
        intro H locs ls hP hD hS hl
        obtain rfl := Option.some.inj hF
        exact J3 _ _ _ hP hD hS (lv_sub hl [0, 1, 2, 3, 4] rfl)
      clear hF
      have hF := hy17
      clear hy17
      refine lv_icmp_ne (tgt := 86) hx hb dX8_noteBox_79 (by decide) (fun c18 => ?_) (fun c18 => ?_)
      · rw [if_neg c18] at hF
        refine lv_iconst (v := (-1 : Int32)) hx hb dX8_noteBox_86 (by decide) ?_
        obtain rfl := Option.some.inj hF
        exact J17 _ _ _ hP hD hS (lv_sub hl [0, 1, 2, 3, 4] rfl)
      · rw [if_pos c18] at hF
        refine lv_iconst (v := (2 : Int32)) hx hb dX8_noteBox_82 (by decide) ?_
        refine lv_goto (tgt := 87) hx hb dX8_noteBox_83 (by decide) ?_
        obtain rfl := Option.some.inj hF
        exact J17 _ _ _ hP hD hS (lv_sub hl [0, 1, 2, 3, 4] rfl)
    · rw [if_pos c16] at hF
      refine lv_iconst (v := (0 : Int32)) hx hb dX8_noteBox_72 (by decide) ?_
      refine lv_goto (tgt := 87) hx hb dX8_noteBox_73 (by decide) ?_
      obtain rfl := Option.some.inj hF
      exact J3 _ _ _ hP hD hS (lv_sub hl [0, 1, 2, 3, 4] rfl)
  clear hF
  have hF := hy2
  clear hy2
  refine lv_icmp_ge (tgt := 66) hx hb dX8_noteBox_6 (by decide) (fun c19 => ?_) (fun c19 => ?_)
  · rw [if_pos c19] at hF
    obtain rfl := Option.some.inj hF
    exact J2 _ _ _ hP hD hS (lv_sub hl [0, 1, 2, 3, 4] rfl)
  · rw [if_neg c19] at hF
    refine lv_iconst (v := (4 : Int32)) hx hb dX8_noteBox_9 (by decide) ?_
    refine lv_aload_n hx hb dX8_noteBox_10 rfl (lv_at hl 0 rfl) ?_
    refine va_get (D := D) (ci := 8) (v := .int (M.1 a 11)) (C := RX8) (T := TX8) (N := 15) hx hb hts (mus hf_X8) hown hK hP a (wld_o ct ad G M hc hk (by decide)) rfl 11 (by decide) (hts (.fieldLink RX8 95 "VideoSuite$Units" "boxCount" "I") (mu mw_229)) (fun _ h9 => h9) rfl dX8_noteBox_11 ?_
    obtain ⟨x20, ex20, hF⟩ := ltt_some hF
    refine lv_topi (fun zx20 ezx20 => ?_)
    obtain rfl : x20 = zx20 := ex20.trans ezx20.symm
    refine lv_imul hx hb dX8_noteBox_14 ?_
    obtain ⟨x21, ex21, hF⟩ := ltt_some hF
    refine lv_topi (fun zx21 ezx21 => ?_)
    obtain rfl : x21 = zx21 := ex21.trans ezx21.symm
    refine lv_istore (lv' := [(5, .int x21), (0, .ref (ad a)), (1, .int p0), (2, .int p1), (3, .int p2), (4, .int p3)]) hx hb dX8_noteBox_15 hl (by decide) rfl (fun ls hl => ?_)
    refine lv_aload_n hx hb dX8_noteBox_17 rfl (lv_at hl 1 rfl) ?_
    refine va_get (D := D) (ci := 8) (v := va_re ad (M.2 a 10)) (C := RX8) (T := TX8) (N := 15) hx hb hts (mus hf_X8) hown hK hP a (wld_o ct ad G M hc hk (by decide)) rfl 10 (by decide) (hts (.fieldLink RX8 32 "VideoSuite$Units" "box" "[I") (mu mw_228)) (fun _ h9 => h9) rfl dX8_noteBox_18 ?_
    refine lv_iload hx hb dX8_noteBox_21 (lv_at hl 0 rfl) ?_
    refine lv_iload_n hx hb dX8_noteBox_23 rfl (lv_at hl 2 rfl) ?_
    obtain ⟨b22, ho22, hc22, hk22, hF⟩ := dr_some hF
    refine W_st (st' := [.int p0, .int x21, .ref (ad b22)]) (by rw [va_some ho22]) ?_
    obtain ⟨hvc, hF⟩ := chk_some hF
    refine va_iast hx hb hK hP hD hS b22 1 (wld_i ct ad G M hc22 hk22) rfl hvc dX8_noteBox_24 (fun H locs hP hD hS => ?_)
    obtain ⟨M23, eM23, hF⟩ := ltt_some hF
    rw [set_i ct ad G M hc22 hk22, ← eM23] at hP hD
    refine lv_aload_n hx hb dX8_noteBox_25 rfl (lv_at hl 1 rfl) ?_
    refine va_get (D := D) (ci := 8) (v := va_re ad (M23.2 a 10)) (C := RX8) (T := TX8) (N := 15) hx hb hts (mus hf_X8) hown hK hP a (wld_o ct ad G M23 hc hk (by decide)) rfl 10 (by decide) (hts (.fieldLink RX8 32 "VideoSuite$Units" "box" "[I") (mu mw_228)) (fun _ h9 => h9) rfl dX8_noteBox_26 ?_
    refine lv_iload hx hb dX8_noteBox_29 (lv_at hl 0 rfl) ?_
    refine lv_iconst (v := (1 : Int32)) hx hb dX8_noteBox_31 (by decide) ?_
    refine lv_iadd hx hb dX8_noteBox_32 ?_
    obtain ⟨x24, ex24, hF⟩ := ltt_some hF
    refine lv_topi (fun zx24 ezx24 => ?_)
    obtain rfl : x24 = zx24 := ex24.trans ezx24.symm
    refine lv_iload_n hx hb dX8_noteBox_33 rfl (lv_at hl 3 rfl) ?_
    obtain ⟨b25, ho25, hc25, hk25, hF⟩ := dr_some hF
    refine W_st (st' := [.int p1, .int x24, .ref (ad b25)]) (by rw [va_some ho25]) ?_
    obtain ⟨hvc, hF⟩ := chk_some hF
    refine va_iast hx hb hK hP hD hS b25 1 (wld_i ct ad G M23 hc25 hk25) rfl hvc dX8_noteBox_34 (fun H locs hP hD hS => ?_)
    obtain ⟨M26, eM26, hF⟩ := ltt_some hF
    rw [set_i ct ad G M23 hc25 hk25, ← eM26] at hP hD
    refine lv_aload_n hx hb dX8_noteBox_35 rfl (lv_at hl 1 rfl) ?_
    refine va_get (D := D) (ci := 8) (v := va_re ad (M26.2 a 10)) (C := RX8) (T := TX8) (N := 15) hx hb hts (mus hf_X8) hown hK hP a (wld_o ct ad G M26 hc hk (by decide)) rfl 10 (by decide) (hts (.fieldLink RX8 32 "VideoSuite$Units" "box" "[I") (mu mw_228)) (fun _ h9 => h9) rfl dX8_noteBox_36 ?_
    refine lv_iload hx hb dX8_noteBox_39 (lv_at hl 0 rfl) ?_
    refine lv_iconst (v := (2 : Int32)) hx hb dX8_noteBox_41 (by decide) ?_
    refine lv_iadd hx hb dX8_noteBox_42 ?_
    obtain ⟨x27, ex27, hF⟩ := ltt_some hF
    refine lv_topi (fun zx27 ezx27 => ?_)
    obtain rfl : x27 = zx27 := ex27.trans ezx27.symm
    refine lv_iload_n hx hb dX8_noteBox_43 rfl (lv_at hl 4 rfl) ?_
    obtain ⟨b28, ho28, hc28, hk28, hF⟩ := dr_some hF
    refine W_st (st' := [.int p2, .int x27, .ref (ad b28)]) (by rw [va_some ho28]) ?_
    obtain ⟨hvc, hF⟩ := chk_some hF
    refine va_iast hx hb hK hP hD hS b28 1 (wld_i ct ad G M26 hc28 hk28) rfl hvc dX8_noteBox_44 (fun H locs hP hD hS => ?_)
    obtain ⟨M29, eM29, hF⟩ := ltt_some hF
    rw [set_i ct ad G M26 hc28 hk28, ← eM29] at hP hD
    refine lv_aload_n hx hb dX8_noteBox_45 rfl (lv_at hl 1 rfl) ?_
    refine va_get (D := D) (ci := 8) (v := va_re ad (M29.2 a 10)) (C := RX8) (T := TX8) (N := 15) hx hb hts (mus hf_X8) hown hK hP a (wld_o ct ad G M29 hc hk (by decide)) rfl 10 (by decide) (hts (.fieldLink RX8 32 "VideoSuite$Units" "box" "[I") (mu mw_228)) (fun _ h9 => h9) rfl dX8_noteBox_46 ?_
    refine lv_iload hx hb dX8_noteBox_49 (lv_at hl 0 rfl) ?_
    refine lv_iconst (v := (3 : Int32)) hx hb dX8_noteBox_51 (by decide) ?_
    refine lv_iadd hx hb dX8_noteBox_52 ?_
    obtain ⟨x30, ex30, hF⟩ := ltt_some hF
    refine lv_topi (fun zx30 ezx30 => ?_)
    obtain rfl : x30 = zx30 := ex30.trans ezx30.symm
    refine lv_iload hx hb dX8_noteBox_53 (lv_at hl 5 rfl) ?_
    obtain ⟨b31, ho31, hc31, hk31, hF⟩ := dr_some hF
    refine W_st (st' := [.int p3, .int x30, .ref (ad b31)]) (by rw [va_some ho31]) ?_
    obtain ⟨hvc, hF⟩ := chk_some hF
    refine va_iast hx hb hK hP hD hS b31 1 (wld_i ct ad G M29 hc31 hk31) rfl hvc dX8_noteBox_55 (fun H locs hP hD hS => ?_)
    obtain ⟨M32, eM32, hF⟩ := ltt_some hF
    rw [set_i ct ad G M29 hc31 hk31, ← eM32] at hP hD
    refine lv_aload_n hx hb dX8_noteBox_56 rfl (lv_at hl 1 rfl) ?_
    refine lv_dup hx hb dX8_noteBox_57 rfl ?_
    refine va_get (D := D) (ci := 8) (v := .int (M32.1 a 11)) (C := RX8) (T := TX8) (N := 15) hx hb hts (mus hf_X8) hown hK hP a (wld_o ct ad G M32 hc hk (by decide)) rfl 11 (by decide) (hts (.fieldLink RX8 95 "VideoSuite$Units" "boxCount" "I") (mu mw_229)) (fun _ h9 => h9) rfl dX8_noteBox_58 ?_
    obtain ⟨x33, ex33, hF⟩ := ltt_some hF
    refine lv_topi (fun zx33 ezx33 => ?_)
    obtain rfl : x33 = zx33 := ex33.trans ezx33.symm
    refine lv_iconst (v := (1 : Int32)) hx hb dX8_noteBox_61 (by decide) ?_
    refine lv_iadd hx hb dX8_noteBox_62 ?_
    obtain ⟨x34, ex34, hF⟩ := ltt_some hF
    refine lv_topi (fun zx34 ezx34 => ?_)
    obtain rfl : x34 = zx34 := ex34.trans ezx34.symm
    refine va_put (D := D) (ci := 8) (v := .int x34) (ty := .int) (C := RX8) (T := TX8) (N := 15) hx hb hts (mus hf_X8) tyX8 tyX8_ok nmX8 hown hK hP hD hS a (wld_o ct ad G M32 hc hk (by decide)) rfl 11 (by decide) (hts (.fieldLink RX8 95 "VideoSuite$Units" "boxCount" "I") (mu mw_229)) (fun _ h9 => h9) rfl (by decide +kernel) rfl rfl (Nat.le_of_ble_eq_true rfl) dX8_noteBox_63 (fun H locs hP hD hS => ?_)
    obtain ⟨M35, eM35, hF⟩ := ltt_some hF
    rw [set_oI ct ad G M32 hc hk (by decide) (by rfl), ← eM35] at hP hD
    obtain rfl := Option.some.inj hF
    exact J2 _ _ _ hP hD hS (lv_sub hl [1, 2, 3, 4, 5] rfl)
theorem dX8_number4_0 : decode cX8_number4 0 = .ok (.lconst 0, 1) := by decide +kernel
theorem dX8_number4_1 : decode cX8_number4 1 = .ok (.lstore_n 2, 1) := by decide +kernel
theorem dX8_number4_2 : decode cX8_number4 2 = .ok (.iload_n 1, 1) := by decide +kernel
theorem dX8_number4_3 : decode cX8_number4 3 = .ok (.istore 4, 2) := by decide +kernel
theorem dX8_number4_5 : decode cX8_number4 5 = .ok (.iload 4, 2) := by decide +kernel
theorem dX8_number4_7 : decode cX8_number4 7 = .ok (.iload_n 1, 1) := by decide +kernel
theorem dX8_number4_8 : decode cX8_number4 8 = .ok (.iconst 4, 1) := by decide +kernel
theorem dX8_number4_9 : decode cX8_number4 9 = .ok (.iadd, 1) := by decide +kernel
theorem dX8_number4_10 : decode cX8_number4 10 = .ok (.if_icmp .ge 31, 3) := by decide +kernel
theorem dX8_number4_13 : decode cX8_number4 13 = .ok (.iload 4, 2) := by decide +kernel
theorem dX8_number4_15 : decode cX8_number4 15 = .ok (.aload_n 0, 1) := by decide +kernel
theorem dX8_number4_16 : decode cX8_number4 16 = .ok (.arraylength, 1) := by decide +kernel
theorem dX8_number4_17 : decode cX8_number4 17 = .ok (.if_icmp .ge 24, 3) := by decide +kernel
theorem dX8_number4_20 : decode cX8_number4 20 = .ok (.lload_n 2, 1) := by decide +kernel
theorem dX8_number4_21 : decode cX8_number4 21 = .ok (.bipush 8, 2) := by decide +kernel
theorem dX8_number4_23 : decode cX8_number4 23 = .ok (.lshl, 1) := by decide +kernel
theorem dX8_number4_24 : decode cX8_number4 24 = .ok (.aload_n 0, 1) := by decide +kernel
theorem dX8_number4_25 : decode cX8_number4 25 = .ok (.iload 4, 2) := by decide +kernel
theorem dX8_number4_27 : decode cX8_number4 27 = .ok (.baload, 1) := by decide +kernel
theorem dX8_number4_28 : decode cX8_number4 28 = .ok (.sipush 255, 3) := by decide +kernel
theorem dX8_number4_31 : decode cX8_number4 31 = .ok (.iand, 1) := by decide +kernel
theorem dX8_number4_32 : decode cX8_number4 32 = .ok (.i2l, 1) := by decide +kernel
theorem dX8_number4_33 : decode cX8_number4 33 = .ok (.lor, 1) := by decide +kernel
theorem dX8_number4_34 : decode cX8_number4 34 = .ok (.lstore_n 2, 1) := by decide +kernel
theorem dX8_number4_35 : decode cX8_number4 35 = .ok (.iinc 4 1, 3) := by decide +kernel
theorem dX8_number4_38 : decode cX8_number4 38 = .ok (.goto (-33), 3) := by decide +kernel
theorem dX8_number4_41 : decode cX8_number4 41 = .ok (.lload_n 2, 1) := by decide +kernel
theorem dX8_number4_42 : decode cX8_number4 42 = .ok (.lreturn, 1) := by decide +kernel
def FX8_number4 (G : GG) (M : DD) (p0 : Option Nat) (p1 : Int32) : Option (DD × Int64) :=
  bnd (itr (fun (s2 : Int64 × Int32) => ((ltt ((p1 + ((4 : Int32)))) fun x5 =>
  if x5 ≤ s2.2 then (some (.inr (s2.1, s2.2))) else
  (dr G 12 p0 fun b7 =>
  ltt (Int32.ofNat (G.2.2 b7)) fun x8 =>
  if x8 ≤ s2.2 then (some (.inr (s2.1, s2.2))) else
  (ltt (s2.1 <<< (((8 : Int32)).toInt64 &&& 63)) fun x10 =>
  chk (¬ (s2.2 < 0 ∨ G.2.2 b7 ≤ s2.2.toNatClampNeg)) <|
  ltt (M.1 b7 s2.2.toNatClampNeg) fun x11 =>
  ltt ((x11 &&& ((255 : Int32)))) fun x12 =>
  ltt (x12.toInt64) fun x13 =>
  ltt (x10 ||| x13) fun x14 =>
  ltt (s2.2 + (1 : Int32)) fun x15 =>
  some (.inl (x14, x15))))) : Option ((Int64 × Int32) ⊕ (Int64 × Int32)))) 1000000 ((0 : Int64), p1)) fun (y1 : Int64 × Int32) =>
  some (M, y1.1)
set_option maxHeartbeats 4000000 in
set_option maxRecDepth 100000 in
theorem kX8_number4 (l : Launch) (D : va_G) (ct : CT) (ad : Nat → Nat) (Z : Nat → Nat) (G : GG) (M : DD) (sz : Nat) (p0 : Option Nat) (p1 : Int32) (y : DD × Int64) (hF : FX8_number4 G M p0 p1 = some y) : Met l yX8_number4 wuX8_number4 ({ frames := 0, cells := 0, slots := 0, locals := 0 }) (va_Pc [va_re ad p0, .int p1] (kB D ct ad Z G M sz)) (va_Ql (fun (q : Int64) (_ : Unit) => q = y.2) (fun _ t => kE D ct ad G (wA ad G sz) y.1 t) (wA ad G sz)) 0 0 (wA ad G sz) := by
  refine Met.ofW (cc := cX8_number4) (maxL := 5) (ret := (some .long)) (by decide) rfl ?_
  intro p e s m args below meth c s₁ B hml hv
  obtain ⟨rfl, hsz, hP, hK, hD0, hZ, hN⟩ := hv
  have hx := B.exec
  have hb := B.bytes
  have hr := B.returns
  have hts := atoms_spec (ws := wuX8_number4) B.pre
  have hown : s.vm.findClass RX8 = some m.cls := findClass_of_methodNamed B.named
  have hlocks := B.notSynchronized
  subst hsz
  have hD := wD_self (sz := s.heap.size) hD0
  have hA9 : ∀ q, s.heap.size ≤ q → wA ad G s.heap.size q := fun q h => Or.inr h
  generalize hAe : wA ad G s.heap.size = A at hD hA9 hZ ⊢
  have hS : va_S A s.heap s.heap [] := va_S.rf
  have hl := lv_entry ([va_re ad p0, .int p1]) (n := 5) (by cases p0 <;> exact Nat.le_of_ble_eq_true rfl)
  rw [lg_entry_eq]
  generalize (lg_sl ([va_re ad p0, .int p1]) ++ List.replicate (5 - (lg_sl ([va_re ad p0, .int p1])).length) Slot.unset).toArray = ls at hl ⊢
  have hl : lv_has ls 5 [(0, va_re ad p0), (1, .int p1)] := by have e9 : lv_args 0 [va_re ad p0, .int p1] = [(0, va_re ad p0), (1, .int p1)] := (by cases p0 <;> rfl); rw [e9] at hl; exact hl
  unfold FX8_number4 at hF
  refine lv_lconst (v := (0 : Int64)) hx hb dX8_number4_0 rfl ?_
  refine lv_lstore_n (lv' := [(2, .long (0 : Int64)), (0, va_re ad p0), (1, .int p1)]) hx hb dX8_number4_1 rfl hl (by decide) rfl (fun ls hl => ?_)
  refine lv_iload_n hx hb dX8_number4_2 rfl (lv_at hl 2 rfl) ?_
  refine lv_istore (lv' := [(4, .int p1), (2, .long (0 : Int64)), (0, va_re ad p0), (1, .int p1)]) hx hb dX8_number4_3 hl (by decide) rfl (fun ls hl => ?_)
  obtain ⟨y1, hy1, hF⟩ := bnd_some hF
  have K1 : ∀ (H : Heap) (locs : List Loc) (ls : Array Slot), va_P D classes (wld ct ad G M) H → va_D A (wld ct ad G M) → va_S A s.heap H locs → lv_has ls 5 [(4, .int y1.2), (2, .long y1.1), (0, va_re ad p0), (1, .int p1)] → W p l e (headSpec wuX8_number4 ({ frames := 0, cells := 0, slots := 0, locals := 0 })).room s m ([va_re ad p0, .int p1] : List Value).toArray below meth c H locs 0 0 (MQ below (va_Ql (fun (q : Int64) (_ : Unit) => q = y.2) (fun _ t => kE D ct ad G A y.1 t) A) ([va_re ad p0, .int p1] : List Value).toArray s 0 0 A) (F0 m 41 ls []) := by
    intro H locs ls hP hD hS hl
    refine lv_lload_n hx hb dX8_number4_41 rfl (lv_at hl 1 rfl) ?_
    obtain rfl := Option.some.inj hF
    exact W.lret (v := y1.1) hx hb hr (fun t ht hW => ⟨⟨_, (), rfl, rfl, ⟨by rw [ht]; exact hP, va_K.moved hW.alike hK, hD⟩⟩, hS.F ht⟩) hS.2.2 dX8_number4_42
  clear hF
  refine itr_rule (fun (s2 : Int64 × Int32) => ∀ (H : Heap) (locs : List Loc) (ls : Array Slot), va_P D classes (wld ct ad G M) H → va_D A (wld ct ad G M) → va_S A s.heap H locs → lv_has ls 5 [(4, .int s2.2), (2, .long s2.1), (0, va_re ad p0), (1, .int p1)] → W p l e (headSpec wuX8_number4 ({ frames := 0, cells := 0, slots := 0, locals := 0 })).room s m ([va_re ad p0, .int p1] : List Value).toArray below meth c H locs 0 0 (MQ below (va_Ql (fun (q : Int64) (_ : Unit) => q = y.2) (fun _ t => kE D ct ad G A y.1 t) A) ([va_re ad p0, .int p1] : List Value).toArray s 0 0 A) (F0 m 5 ls [])) ?_ _ _ hy1 _ _ _ hP hD hS (lv_sub hl [0, 1, 2, 3] rfl)
  rintro s2 ⟨z4, hF, hwz4⟩ H locs ls hP hD hS hl
  try dsimp only at hF
  refine lv_iload hx hb dX8_number4_5 (lv_at hl 0 rfl) ?_
  refine lv_iload_n hx hb dX8_number4_7 rfl (lv_at hl 3 rfl) ?_
  refine lv_iconst (v := (4 : Int32)) hx hb dX8_number4_8 (by decide) ?_
  refine lv_iadd hx hb dX8_number4_9 ?_
  obtain ⟨x5, ex5, hF⟩ := ltt_some hF
  refine lv_topi (fun zx5 ezx5 => ?_)
  obtain rfl : x5 = zx5 := ex5.trans ezx5.symm
  refine lv_icmp_ge (tgt := 41) hx hb dX8_number4_10 (by decide) (fun c6 => ?_) (fun c6 => ?_)
  · rw [if_pos c6] at hF
    obtain rfl := Option.some.inj hF
    subst hwz4
    exact K1 _ _ _ hP hD hS (lv_sub hl [0, 1, 2, 3] rfl)
  · rw [if_neg c6] at hF
    refine lv_iload hx hb dX8_number4_13 (lv_at hl 0 rfl) ?_
    refine lv_aloadq_n hx hb dX8_number4_15 rfl (lv_at hl 2 rfl) ?_
    obtain ⟨b7, ho7, hc7, hk7, hF⟩ := dr_some hF
    refine W_st (st' := [.ref (ad b7), .int s2.2]) (by rw [va_some ho7]) ?_
    refine va_alen (v := Int32.ofNat (G.2.2 b7)) hx hb hK hP b7 0 (wld_b ct ad G M hc7 hk7) rfl rfl dX8_number4_16 ?_
    obtain ⟨x8, ex8, hF⟩ := ltt_some hF
    refine lv_topi (fun zx8 ezx8 => ?_)
    obtain rfl : x8 = zx8 := ex8.trans ezx8.symm
    refine lv_icmp_ge (tgt := 41) hx hb dX8_number4_17 (by decide) (fun c9 => ?_) (fun c9 => ?_)
    · rw [if_pos c9] at hF
      obtain rfl := Option.some.inj hF
      subst hwz4
      exact K1 _ _ _ hP hD hS (lv_sub hl [0, 1, 2, 3] rfl)
    · rw [if_neg c9] at hF
      refine lv_lload_n hx hb dX8_number4_20 rfl (lv_at hl 1 rfl) ?_
      refine lv_bipush (v := (8 : Int32)) hx hb dX8_number4_21 (by decide) ?_
      refine lv_lshl (v := s2.1 <<< (((8 : Int32)).toInt64 &&& 63)) hx hb dX8_number4_23 rfl ?_
      obtain ⟨x10, ex10, hF⟩ := ltt_some hF
      refine lv_topl (fun zx10 ezx10 => ?_)
      obtain rfl : x10 = zx10 := ex10.trans ezx10.symm
      refine lv_aloadq_n hx hb dX8_number4_24 rfl (lv_at hl 2 rfl) ?_
      refine lv_iload hx hb dX8_number4_25 (lv_at hl 0 rfl) ?_
      refine W_st (st' := [.int s2.2, .ref (ad b7), .long x10]) (by rw [va_some ho7]) ?_
      obtain ⟨hvc, hF⟩ := chk_some hF
      refine va_bald hx hb hK hP b7 0 (wld_b ct ad G M hc7 hk7) rfl hvc dX8_number4_27 ?_
      obtain ⟨x11, ex11, hF⟩ := ltt_some hF
      refine lv_topi (fun zx11 ezx11 => ?_)
      obtain rfl : x11 = zx11 := ex11.trans ezx11.symm
      refine lv_sipush (v := (255 : Int32)) hx hb dX8_number4_28 (by decide) ?_
      refine lv_iand hx hb dX8_number4_31 ?_
      obtain ⟨x12, ex12, hF⟩ := ltt_some hF
      refine lv_topi (fun zx12 ezx12 => ?_)
      obtain rfl : x12 = zx12 := ex12.trans ezx12.symm
      refine lv_i2l (v := x12.toInt64) hx hb dX8_number4_32 rfl ?_
      obtain ⟨x13, ex13, hF⟩ := ltt_some hF
      refine lv_topl (fun zx13 ezx13 => ?_)
      obtain rfl : x13 = zx13 := ex13.trans ezx13.symm
      refine lv_lor hx hb dX8_number4_33 ?_
      obtain ⟨x14, ex14, hF⟩ := ltt_some hF
      refine lv_topl (fun zx14 ezx14 => ?_)
      obtain rfl : x14 = zx14 := ex14.trans ezx14.symm
      refine lv_lstore_n (lv' := [(2, .long x14), (4, .int s2.2), (0, va_re ad p0), (1, .int p1)]) hx hb dX8_number4_34 rfl hl (by decide) rfl (fun ls hl => ?_)
      obtain ⟨x15, ex15, hF⟩ := ltt_some hF
      refine lv_iinc (v := x15) (lv' := [(4, .int x15), (2, .long x14), (0, va_re ad p0), (1, .int p1)]) hx hb dX8_number4_35 hl (k := 1) rfl (by rw [ex15]; rfl) (by decide) rfl (fun ls hl => ?_)
      refine lv_goto (tgt := 5) hx hb dX8_number4_38 (by decide) ?_
      obtain rfl := Option.some.inj hF
      exact hwz4 _ _ _ hP hD hS (lv_sub hl [0, 1, 2, 3] rfl)
theorem dX8_put4_0 : decode cX8_put4 0 = .ok (.bipush 24, 2) := by decide +kernel
theorem dX8_put4_2 : decode cX8_put4 2 = .ok (.istore_n 3, 1) := by decide +kernel
theorem dX8_put4_3 : decode cX8_put4 3 = .ok (.iload_n 3, 1) := by decide +kernel
theorem dX8_put4_4 : decode cX8_put4 4 = .ok (.ifCond .lt 35, 3) := by decide +kernel
theorem dX8_put4_7 : decode cX8_put4 7 = .ok (.aload_n 0, 1) := by decide +kernel
theorem dX8_put4_8 : decode cX8_put4 8 = .ok (.getfield 75, 3) := by decide +kernel
theorem dX8_put4_11 : decode cX8_put4 11 = .ok (.aload_n 1, 1) := by decide +kernel
theorem dX8_put4_12 : decode cX8_put4 12 = .ok (.arraylength, 1) := by decide +kernel
theorem dX8_put4_13 : decode cX8_put4 13 = .ok (.if_icmp .ge 26, 3) := by decide +kernel
theorem dX8_put4_16 : decode cX8_put4 16 = .ok (.aload_n 1, 1) := by decide +kernel
theorem dX8_put4_17 : decode cX8_put4 17 = .ok (.aload_n 0, 1) := by decide +kernel
theorem dX8_put4_18 : decode cX8_put4 18 = .ok (.dup, 1) := by decide +kernel
theorem dX8_put4_19 : decode cX8_put4 19 = .ok (.getfield 75, 3) := by decide +kernel
theorem dX8_put4_22 : decode cX8_put4 22 = .ok (.dup_x1, 1) := by decide +kernel
theorem dX8_put4_23 : decode cX8_put4 23 = .ok (.iconst 1, 1) := by decide +kernel
theorem dX8_put4_24 : decode cX8_put4 24 = .ok (.iadd, 1) := by decide +kernel
theorem dX8_put4_25 : decode cX8_put4 25 = .ok (.putfield 75, 3) := by decide +kernel
theorem dX8_put4_28 : decode cX8_put4 28 = .ok (.iload_n 2, 1) := by decide +kernel
theorem dX8_put4_29 : decode cX8_put4 29 = .ok (.iload_n 3, 1) := by decide +kernel
theorem dX8_put4_30 : decode cX8_put4 30 = .ok (.ishr, 1) := by decide +kernel
theorem dX8_put4_31 : decode cX8_put4 31 = .ok (.i2b, 1) := by decide +kernel
theorem dX8_put4_32 : decode cX8_put4 32 = .ok (.bastore, 1) := by decide +kernel
theorem dX8_put4_33 : decode cX8_put4 33 = .ok (.iinc 3 (-8), 3) := by decide +kernel
theorem dX8_put4_36 : decode cX8_put4 36 = .ok (.goto (-33), 3) := by decide +kernel
theorem dX8_put4_39 : decode cX8_put4 39 = .ok (.return_, 1) := by decide +kernel
def FX8_put4 (G : GG) (M : DD) (a : Nat) (p0 : Option Nat) (p1 : Int32) : Option (DD) :=
  bnd (itr (fun (s2 : Int32 × DD) => ((if s2.1 < ((0 : Int32)) then (some (.inr (s2.1, s2.2))) else
  (ltt (s2.2.1 a 14) fun x6 =>
  dr G 12 p0 fun b7 =>
  ltt (Int32.ofNat (G.2.2 b7)) fun x8 =>
  if x8 ≤ x6 then (some (.inr (s2.1, s2.2))) else
  (ltt (s2.2.1 a 14) fun x10 =>
  ltt ((x10 + ((1 : Int32)))) fun x11 =>
  ltt (uI s2.2 a 14 x11) fun M12 =>
  ltt ((p1 >>> (s2.1 &&& 31))) fun x13 =>
  ltt (x13.toInt8.toInt32) fun x14 =>
  chk (¬ (x10 < 0 ∨ G.2.2 b7 ≤ x10.toNatClampNeg)) <|
  ltt (uI M12 b7 x10.toNatClampNeg (vp_nar .byte x14)) fun M15 =>
  ltt (s2.1 + (-8 : Int32)) fun x16 =>
  some (.inl (x16, M15))))) : Option ((Int32 × DD) ⊕ (Int32 × DD)))) 1000000 ((24 : Int32), M)) fun (y1 : Int32 × DD) =>
  some y1.2
set_option maxHeartbeats 4000000 in
set_option maxRecDepth 100000 in
theorem kX8_put4 (l : Launch) (D : va_G) (ct : CT) (ad : Nat → Nat) (Z : Nat → Nat) (G : GG) (M : DD) (sz : Nat) (a : Nat) (p0 : Option Nat) (p1 : Int32) (y : DD) (hc : a < G.1) (hk : G.2.1 a = 8) (hF : FX8_put4 G M a p0 p1 = some y) : Met l yX8_put4 wuX8_put4 ({ frames := 0, cells := 0, slots := 0, locals := 0 }) (va_Pc [.ref (ad a), va_re ad p0, .int p1] (kB D ct ad Z G M sz)) (va_Qv (fun (_ : Unit) => True) (fun _ t => kE D ct ad G (wA ad G sz) y t) (wA ad G sz)) 0 0 (wA ad G sz) := by
  refine Met.ofW (cc := cX8_put4) (maxL := 4) (ret := none) (by decide) rfl ?_
  intro p e s m args below meth c s₁ B hml hv
  obtain ⟨rfl, hsz, hP, hK, hD0, hZ, hN⟩ := hv
  have hx := B.exec
  have hb := B.bytes
  have hr := B.returns
  have hts := atoms_spec (ws := wuX8_put4) B.pre
  have hown : s.vm.findClass RX8 = some m.cls := findClass_of_methodNamed B.named
  have hlocks := B.notSynchronized
  subst hsz
  have hD := wD_self (sz := s.heap.size) hD0
  have hA9 : ∀ q, s.heap.size ≤ q → wA ad G s.heap.size q := fun q h => Or.inr h
  generalize hAe : wA ad G s.heap.size = A at hD hA9 hZ ⊢
  have hS : va_S A s.heap s.heap [] := va_S.rf
  have hl := lv_entry ([.ref (ad a), va_re ad p0, .int p1]) (n := 4) (by cases p0 <;> exact Nat.le_of_ble_eq_true rfl)
  rw [lg_entry_eq]
  generalize (lg_sl ([.ref (ad a), va_re ad p0, .int p1]) ++ List.replicate (4 - (lg_sl ([.ref (ad a), va_re ad p0, .int p1])).length) Slot.unset).toArray = ls at hl ⊢
  have hl : lv_has ls 4 [(0, .ref (ad a)), (1, va_re ad p0), (2, .int p1)] := by have e9 : lv_args 0 [.ref (ad a), va_re ad p0, .int p1] = [(0, .ref (ad a)), (1, va_re ad p0), (2, .int p1)] := (by cases p0 <;> rfl); rw [e9] at hl; exact hl
  unfold FX8_put4 at hF
  refine lv_bipush (v := (24 : Int32)) hx hb dX8_put4_0 (by decide) ?_
  refine lv_istore_n (lv' := [(3, .int (24 : Int32)), (0, .ref (ad a)), (1, va_re ad p0), (2, .int p1)]) hx hb dX8_put4_2 rfl hl (by decide) rfl (fun ls hl => ?_)
  obtain ⟨y1, hy1, hF⟩ := bnd_some hF
  have K1 : ∀ (H : Heap) (locs : List Loc) (ls : Array Slot), va_P D classes (wld ct ad G y1.2) H → va_D A (wld ct ad G y1.2) → va_S A s.heap H locs → lv_has ls 4 [(3, .int y1.1), (0, .ref (ad a)), (1, va_re ad p0), (2, .int p1)] → W p l e (headSpec wuX8_put4 ({ frames := 0, cells := 0, slots := 0, locals := 0 })).room s m ([.ref (ad a), va_re ad p0, .int p1] : List Value).toArray below meth c H locs 0 0 (MQ below (va_Qv (fun (_ : Unit) => True) (fun _ t => kE D ct ad G A y t) A) ([.ref (ad a), va_re ad p0, .int p1] : List Value).toArray s 0 0 A) (F0 m 39 ls []) := by
    intro H locs ls hP hD hS hl
    obtain rfl := Option.some.inj hF
    exact W.vret hx hb hr (fun t ht hW => ⟨⟨(), rfl, trivial, ⟨by rw [ht]; exact hP, va_K.moved hW.alike hK, hD⟩⟩, hS.F ht⟩) hS.2.2 dX8_put4_39
  clear hF
  refine itr_rule (fun (s2 : Int32 × DD) => ∀ (H : Heap) (locs : List Loc) (ls : Array Slot), va_P D classes (wld ct ad G s2.2) H → va_D A (wld ct ad G s2.2) → va_S A s.heap H locs → lv_has ls 4 [(3, .int s2.1), (0, .ref (ad a)), (1, va_re ad p0), (2, .int p1)] → W p l e (headSpec wuX8_put4 ({ frames := 0, cells := 0, slots := 0, locals := 0 })).room s m ([.ref (ad a), va_re ad p0, .int p1] : List Value).toArray below meth c H locs 0 0 (MQ below (va_Qv (fun (_ : Unit) => True) (fun _ t => kE D ct ad G A y t) A) ([.ref (ad a), va_re ad p0, .int p1] : List Value).toArray s 0 0 A) (F0 m 3 ls [])) ?_ _ _ hy1 _ _ _ hP hD hS (lv_sub hl [0, 1, 2, 3] rfl)
  rintro s2 ⟨z4, hF, hwz4⟩ H locs ls hP hD hS hl
  try dsimp only at hF
  refine lv_iload_n hx hb dX8_put4_3 rfl (lv_at hl 0 rfl) ?_
  refine lv_if_lt (tgt := 39) hx hb dX8_put4_4 (by decide) (fun c5 => ?_) (fun c5 => ?_)
  · rw [if_pos c5] at hF
    obtain rfl := Option.some.inj hF
    subst hwz4
    exact K1 _ _ _ hP hD hS (lv_sub hl [0, 1, 2, 3] rfl)
  · rw [if_neg c5] at hF
    refine lv_aload_n hx hb dX8_put4_7 rfl (lv_at hl 1 rfl) ?_
    refine va_get (D := D) (ci := 8) (v := .int (s2.2.1 a 14)) (C := RX8) (T := TX8) (N := 15) hx hb hts (mus hf_X8) hown hK hP a (wld_o ct ad G s2.2 hc hk (by decide)) rfl 14 (by decide) (hts (.fieldLink RX8 75 "VideoSuite$Units" "fileAt" "I") (mu mw_233)) (fun _ h9 => h9) rfl dX8_put4_8 ?_
    obtain ⟨x6, ex6, hF⟩ := ltt_some hF
    refine lv_topi (fun zx6 ezx6 => ?_)
    obtain rfl : x6 = zx6 := ex6.trans ezx6.symm
    refine lv_aloadq_n hx hb dX8_put4_11 rfl (lv_at hl 2 rfl) ?_
    obtain ⟨b7, ho7, hc7, hk7, hF⟩ := dr_some hF
    refine W_st (st' := [.ref (ad b7), .int x6]) (by rw [va_some ho7]) ?_
    refine va_alen (v := Int32.ofNat (G.2.2 b7)) hx hb hK hP b7 0 (wld_b ct ad G s2.2 hc7 hk7) rfl rfl dX8_put4_12 ?_
    obtain ⟨x8, ex8, hF⟩ := ltt_some hF
    refine lv_topi (fun zx8 ezx8 => ?_)
    obtain rfl : x8 = zx8 := ex8.trans ezx8.symm
    refine lv_icmp_ge (tgt := 39) hx hb dX8_put4_13 (by decide) (fun c9 => ?_) (fun c9 => ?_)
    · rw [if_pos c9] at hF
      obtain rfl := Option.some.inj hF
      subst hwz4
      exact K1 _ _ _ hP hD hS (lv_sub hl [0, 1, 2, 3] rfl)
    · rw [if_neg c9] at hF
      refine lv_aloadq_n hx hb dX8_put4_16 rfl (lv_at hl 2 rfl) ?_
      refine lv_aload_n hx hb dX8_put4_17 rfl (lv_at hl 1 rfl) ?_
      refine lv_dup hx hb dX8_put4_18 rfl ?_
      refine va_get (D := D) (ci := 8) (v := .int (s2.2.1 a 14)) (C := RX8) (T := TX8) (N := 15) hx hb hts (mus hf_X8) hown hK hP a (wld_o ct ad G s2.2 hc hk (by decide)) rfl 14 (by decide) (hts (.fieldLink RX8 75 "VideoSuite$Units" "fileAt" "I") (mu mw_233)) (fun _ h9 => h9) rfl dX8_put4_19 ?_
      obtain ⟨x10, ex10, hF⟩ := ltt_some hF
      refine lv_topi (fun zx10 ezx10 => ?_)
      obtain rfl : x10 = zx10 := ex10.trans ezx10.symm
      refine lv_dup_x1 hx hb dX8_put4_22 rfl rfl ?_
      refine lv_iconst (v := (1 : Int32)) hx hb dX8_put4_23 (by decide) ?_
      refine lv_iadd hx hb dX8_put4_24 ?_
      obtain ⟨x11, ex11, hF⟩ := ltt_some hF
      refine lv_topi (fun zx11 ezx11 => ?_)
      obtain rfl : x11 = zx11 := ex11.trans ezx11.symm
      refine va_put (D := D) (ci := 8) (v := .int x11) (ty := .int) (C := RX8) (T := TX8) (N := 15) hx hb hts (mus hf_X8) tyX8 tyX8_ok nmX8 hown hK hP hD hS a (wld_o ct ad G s2.2 hc hk (by decide)) rfl 14 (by decide) (hts (.fieldLink RX8 75 "VideoSuite$Units" "fileAt" "I") (mu mw_233)) (fun _ h9 => h9) rfl (by decide +kernel) rfl rfl (Nat.le_of_ble_eq_true rfl) dX8_put4_25 (fun H locs hP hD hS => ?_)
      obtain ⟨M12, eM12, hF⟩ := ltt_some hF
      rw [set_oI ct ad G s2.2 hc hk (by decide) (by rfl), ← eM12] at hP hD
      refine lv_iload_n hx hb dX8_put4_28 rfl (lv_at hl 3 rfl) ?_
      refine lv_iload_n hx hb dX8_put4_29 rfl (lv_at hl 0 rfl) ?_
      refine lv_ishr hx hb dX8_put4_30 ?_
      obtain ⟨x13, ex13, hF⟩ := ltt_some hF
      refine lv_topi (fun zx13 ezx13 => ?_)
      obtain rfl : x13 = zx13 := ex13.trans ezx13.symm
      refine lv_i2b hx hb dX8_put4_31 rfl ?_
      obtain ⟨x14, ex14, hF⟩ := ltt_some hF
      refine lv_topi (fun zx14 ezx14 => ?_)
      obtain rfl : x14 = zx14 := ex14.trans ezx14.symm
      refine W_st (st' := [.int x14, .int x10, .ref (ad b7)]) (by rw [va_some ho7]) ?_
      obtain ⟨hvc, hF⟩ := chk_some hF
      refine va_bast hx hb hK hP hD hS b7 0 (wld_b ct ad G M12 hc7 hk7) rfl hvc dX8_put4_32 (fun H locs hP hD hS => ?_)
      obtain ⟨M15, eM15, hF⟩ := ltt_some hF
      rw [set_b ct ad G M12 hc7 hk7, ← eM15] at hP hD
      obtain ⟨x16, ex16, hF⟩ := ltt_some hF
      refine lv_iinc (v := x16) (lv' := [(3, .int x16), (0, .ref (ad a)), (1, va_re ad p0), (2, .int p1)]) hx hb dX8_put4_33 hl (k := 0) rfl (by rw [ex16]; rfl) (by decide) rfl (fun ls hl => ?_)
      refine lv_goto (tgt := 3) hx hb dX8_put4_36 (by decide) ?_
      obtain rfl := Option.some.inj hF
      exact hwz4 _ _ _ hP hD hS (lv_sub hl [0, 1, 2, 3] rfl)
set_option maxRecDepth 20000 in
theorem gX8_readBoxes_J7_fill_53178 : GoodIn wuX8_readBoxes (va_wsS RX8 98 yJ7_fill_53178 wuJ7_fill_53178) := gu_S mw_2827 mw_1125 mw_182 mw_1126
set_option maxRecDepth 20000 in
set_option maxRecDepth 20000 in
theorem gX8_readBoxes_X8_number4 : GoodIn wuX8_readBoxes (va_wsS RX8 104 yX8_number4 wuX8_number4) := gu_S mw_2828 mw_2829 mw_167 mw_2830
set_option maxRecDepth 20000 in
set_option maxRecDepth 20000 in
theorem gX8_readBoxes_X8_noteBox : GoodIn wuX8_readBoxes (wsV RX8 110 RX8 yX8_noteBox wuX8_noteBox) := gu_V mw_2832 mw_2834 mw_164 mw_167 mw_2835
theorem dX8_readBoxes_0 : decode cX8_readBoxes 0 = .ok (.aload_n 0, 1) := by decide +kernel
theorem dX8_readBoxes_1 : decode cX8_readBoxes 1 = .ok (.iconst 0, 1) := by decide +kernel
theorem dX8_readBoxes_2 : decode cX8_readBoxes 2 = .ok (.putfield 95, 3) := by decide +kernel
theorem dX8_readBoxes_5 : decode cX8_readBoxes 5 = .ok (.aload_n 0, 1) := by decide +kernel
theorem dX8_readBoxes_6 : decode cX8_readBoxes 6 = .ok (.getfield 35, 3) := by decide +kernel
theorem dX8_readBoxes_9 : decode cX8_readBoxes 9 = .ok (.iconst (-1), 1) := by decide +kernel
theorem dX8_readBoxes_10 : decode cX8_readBoxes 10 = .ok (.invokestatic 98, 3) := by decide +kernel
theorem dX8_readBoxes_13 : decode cX8_readBoxes 13 = .ok (.iconst 0, 1) := by decide +kernel
theorem dX8_readBoxes_14 : decode cX8_readBoxes 14 = .ok (.istore_n 3, 1) := by decide +kernel
theorem dX8_readBoxes_15 : decode cX8_readBoxes 15 = .ok (.iconst 0, 1) := by decide +kernel
theorem dX8_readBoxes_16 : decode cX8_readBoxes 16 = .ok (.istore 4, 2) := by decide +kernel
theorem dX8_readBoxes_18 : decode cX8_readBoxes 18 = .ok (.aload_n 0, 1) := by decide +kernel
theorem dX8_readBoxes_19 : decode cX8_readBoxes 19 = .ok (.getfield 38, 3) := by decide +kernel
theorem dX8_readBoxes_22 : decode cX8_readBoxes 22 = .ok (.iconst 0, 1) := by decide +kernel
theorem dX8_readBoxes_23 : decode cX8_readBoxes 23 = .ok (.iload_n 2, 1) := by decide +kernel
theorem dX8_readBoxes_24 : decode cX8_readBoxes 24 = .ok (.iastore, 1) := by decide +kernel
theorem dX8_readBoxes_25 : decode cX8_readBoxes 25 = .ok (.aload_n 0, 1) := by decide +kernel
theorem dX8_readBoxes_26 : decode cX8_readBoxes 26 = .ok (.getfield 38, 3) := by decide +kernel
theorem dX8_readBoxes_29 : decode cX8_readBoxes 29 = .ok (.iconst 1, 1) := by decide +kernel
theorem dX8_readBoxes_30 : decode cX8_readBoxes 30 = .ok (.iconst (-1), 1) := by decide +kernel
theorem dX8_readBoxes_31 : decode cX8_readBoxes 31 = .ok (.iastore, 1) := by decide +kernel
theorem dX8_readBoxes_32 : decode cX8_readBoxes 32 = .ok (.iload 4, 2) := by decide +kernel
theorem dX8_readBoxes_34 : decode cX8_readBoxes 34 = .ok (.iload_n 2, 1) := by decide +kernel
theorem dX8_readBoxes_35 : decode cX8_readBoxes 35 = .ok (.if_icmp .ge 202, 3) := by decide +kernel
theorem dX8_readBoxes_38 : decode cX8_readBoxes 38 = .ok (.iload 4, 2) := by decide +kernel
theorem dX8_readBoxes_40 : decode cX8_readBoxes 40 = .ok (.aload_n 0, 1) := by decide +kernel
theorem dX8_readBoxes_41 : decode cX8_readBoxes 41 = .ok (.getfield 38, 3) := by decide +kernel
theorem dX8_readBoxes_44 : decode cX8_readBoxes 44 = .ok (.iconst 2, 1) := by decide +kernel
theorem dX8_readBoxes_45 : decode cX8_readBoxes 45 = .ok (.iload_n 3, 1) := by decide +kernel
theorem dX8_readBoxes_46 : decode cX8_readBoxes 46 = .ok (.imul, 1) := by decide +kernel
theorem dX8_readBoxes_47 : decode cX8_readBoxes 47 = .ok (.iaload, 1) := by decide +kernel
theorem dX8_readBoxes_48 : decode cX8_readBoxes 48 = .ok (.if_icmp .ne 13, 3) := by decide +kernel
theorem dX8_readBoxes_51 : decode cX8_readBoxes 51 = .ok (.iload_n 3, 1) := by decide +kernel
theorem dX8_readBoxes_52 : decode cX8_readBoxes 52 = .ok (.ifCond .le 9, 3) := by decide +kernel
theorem dX8_readBoxes_55 : decode cX8_readBoxes 55 = .ok (.iinc 3 (-1), 3) := by decide +kernel
theorem dX8_readBoxes_58 : decode cX8_readBoxes 58 = .ok (.goto (-26), 3) := by decide +kernel
theorem dX8_readBoxes_61 : decode cX8_readBoxes 61 = .ok (.aload_n 0, 1) := by decide +kernel
theorem dX8_readBoxes_62 : decode cX8_readBoxes 62 = .ok (.getfield 38, 3) := by decide +kernel
theorem dX8_readBoxes_65 : decode cX8_readBoxes 65 = .ok (.iconst 2, 1) := by decide +kernel
theorem dX8_readBoxes_66 : decode cX8_readBoxes 66 = .ok (.iload_n 3, 1) := by decide +kernel
theorem dX8_readBoxes_67 : decode cX8_readBoxes 67 = .ok (.imul, 1) := by decide +kernel
theorem dX8_readBoxes_68 : decode cX8_readBoxes 68 = .ok (.iaload, 1) := by decide +kernel
theorem dX8_readBoxes_69 : decode cX8_readBoxes 69 = .ok (.iload 4, 2) := by decide +kernel
theorem dX8_readBoxes_71 : decode cX8_readBoxes 71 = .ok (.isub, 1) := by decide +kernel
theorem dX8_readBoxes_72 : decode cX8_readBoxes 72 = .ok (.istore 5, 2) := by decide +kernel
theorem dX8_readBoxes_74 : decode cX8_readBoxes 74 = .ok (.iload 5, 2) := by decide +kernel
theorem dX8_readBoxes_76 : decode cX8_readBoxes 76 = .ok (.bipush 8, 2) := by decide +kernel
theorem dX8_readBoxes_78 : decode cX8_readBoxes 78 = .ok (.if_icmp .ge 7, 3) := by decide +kernel
theorem dX8_readBoxes_81 : decode cX8_readBoxes 81 = .ok (.lconst 0, 1) := by decide +kernel
theorem dX8_readBoxes_82 : decode cX8_readBoxes 82 = .ok (.goto 9, 3) := by decide +kernel
theorem dX8_readBoxes_85 : decode cX8_readBoxes 85 = .ok (.aload_n 1, 1) := by decide +kernel
theorem dX8_readBoxes_86 : decode cX8_readBoxes 86 = .ok (.iload 4, 2) := by decide +kernel
theorem dX8_readBoxes_88 : decode cX8_readBoxes 88 = .ok (.invokestatic 104, 3) := by decide +kernel
theorem dX8_readBoxes_91 : decode cX8_readBoxes 91 = .ok (.lstore 6, 2) := by decide +kernel
theorem dX8_readBoxes_93 : decode cX8_readBoxes 93 = .ok (.lload 6, 2) := by decide +kernel
theorem dX8_readBoxes_95 : decode cX8_readBoxes 95 = .ok (.ldc2_w 108, 3) := by decide +kernel
theorem dX8_readBoxes_98 : decode cX8_readBoxes 98 = .ok (.lcmp, 1) := by decide +kernel
theorem dX8_readBoxes_99 : decode cX8_readBoxes 99 = .ok (.ifCond .lt 12, 3) := by decide +kernel
theorem dX8_readBoxes_102 : decode cX8_readBoxes 102 = .ok (.lload 6, 2) := by decide +kernel
theorem dX8_readBoxes_104 : decode cX8_readBoxes 104 = .ok (.iload 5, 2) := by decide +kernel
theorem dX8_readBoxes_106 : decode cX8_readBoxes 106 = .ok (.i2l, 1) := by decide +kernel
theorem dX8_readBoxes_107 : decode cX8_readBoxes 107 = .ok (.lcmp, 1) := by decide +kernel
theorem dX8_readBoxes_108 : decode cX8_readBoxes 108 = .ok (.ifCond .le 5, 3) := by decide +kernel
theorem dX8_readBoxes_111 : decode cX8_readBoxes 111 = .ok (.iconst 0, 1) := by decide +kernel
theorem dX8_readBoxes_112 : decode cX8_readBoxes 112 = .ok (.ireturn, 1) := by decide +kernel
theorem dX8_readBoxes_113 : decode cX8_readBoxes 113 = .ok (.aload_n 1, 1) := by decide +kernel
theorem dX8_readBoxes_114 : decode cX8_readBoxes 114 = .ok (.iload 4, 2) := by decide +kernel
theorem dX8_readBoxes_116 : decode cX8_readBoxes 116 = .ok (.iconst 4, 1) := by decide +kernel
theorem dX8_readBoxes_117 : decode cX8_readBoxes 117 = .ok (.iadd, 1) := by decide +kernel
theorem dX8_readBoxes_118 : decode cX8_readBoxes 118 = .ok (.invokestatic 104, 3) := by decide +kernel
theorem dX8_readBoxes_121 : decode cX8_readBoxes 121 = .ok (.l2i, 1) := by decide +kernel
theorem dX8_readBoxes_122 : decode cX8_readBoxes 122 = .ok (.istore 8, 2) := by decide +kernel
theorem dX8_readBoxes_124 : decode cX8_readBoxes 124 = .ok (.aload_n 0, 1) := by decide +kernel
theorem dX8_readBoxes_125 : decode cX8_readBoxes 125 = .ok (.getfield 95, 3) := by decide +kernel
theorem dX8_readBoxes_128 : decode cX8_readBoxes 128 = .ok (.bipush 60, 2) := by decide +kernel
theorem dX8_readBoxes_130 : decode cX8_readBoxes 130 = .ok (.if_icmp .ge 7, 3) := by decide +kernel
theorem dX8_readBoxes_133 : decode cX8_readBoxes 133 = .ok (.iconst 1, 1) := by decide +kernel
theorem dX8_readBoxes_134 : decode cX8_readBoxes 134 = .ok (.goto 4, 3) := by decide +kernel
theorem dX8_readBoxes_137 : decode cX8_readBoxes 137 = .ok (.iconst 0, 1) := by decide +kernel
theorem dX8_readBoxes_138 : decode cX8_readBoxes 138 = .ok (.istore 9, 2) := by decide +kernel
theorem dX8_readBoxes_140 : decode cX8_readBoxes 140 = .ok (.aload_n 0, 1) := by decide +kernel
theorem dX8_readBoxes_141 : decode cX8_readBoxes 141 = .ok (.iload 8, 2) := by decide +kernel
theorem dX8_readBoxes_143 : decode cX8_readBoxes 143 = .ok (.iload 4, 2) := by decide +kernel
theorem dX8_readBoxes_145 : decode cX8_readBoxes 145 = .ok (.lload 6, 2) := by decide +kernel
theorem dX8_readBoxes_147 : decode cX8_readBoxes 147 = .ok (.l2i, 1) := by decide +kernel
theorem dX8_readBoxes_148 : decode cX8_readBoxes 148 = .ok (.aload_n 0, 1) := by decide +kernel
theorem dX8_readBoxes_149 : decode cX8_readBoxes 149 = .ok (.getfield 38, 3) := by decide +kernel
theorem dX8_readBoxes_152 : decode cX8_readBoxes 152 = .ok (.iconst 2, 1) := by decide +kernel
theorem dX8_readBoxes_153 : decode cX8_readBoxes 153 = .ok (.iload_n 3, 1) := by decide +kernel
theorem dX8_readBoxes_154 : decode cX8_readBoxes 154 = .ok (.imul, 1) := by decide +kernel
theorem dX8_readBoxes_155 : decode cX8_readBoxes 155 = .ok (.iconst 1, 1) := by decide +kernel
theorem dX8_readBoxes_156 : decode cX8_readBoxes 156 = .ok (.iadd, 1) := by decide +kernel
theorem dX8_readBoxes_157 : decode cX8_readBoxes 157 = .ok (.iaload, 1) := by decide +kernel
theorem dX8_readBoxes_158 : decode cX8_readBoxes 158 = .ok (.invokevirtual 110, 3) := by decide +kernel
theorem dX8_readBoxes_161 : decode cX8_readBoxes 161 = .ok (.iload 9, 2) := by decide +kernel
theorem dX8_readBoxes_163 : decode cX8_readBoxes 163 = .ok (.ifCond .eq 63, 3) := by decide +kernel
theorem dX8_readBoxes_166 : decode cX8_readBoxes 166 = .ok (.iload_n 3, 1) := by decide +kernel
theorem dX8_readBoxes_167 : decode cX8_readBoxes 167 = .ok (.iconst 2, 1) := by decide +kernel
theorem dX8_readBoxes_168 : decode cX8_readBoxes 168 = .ok (.if_icmp .ge 58, 3) := by decide +kernel
theorem dX8_readBoxes_171 : decode cX8_readBoxes 171 = .ok (.iload 8, 2) := by decide +kernel
theorem dX8_readBoxes_173 : decode cX8_readBoxes 173 = .ok (.iload_n 3, 1) := by decide +kernel
theorem dX8_readBoxes_174 : decode cX8_readBoxes 174 = .ok (.ifCond .ne 8, 3) := by decide +kernel
theorem dX8_readBoxes_177 : decode cX8_readBoxes 177 = .ok (.ldc 85, 2) := by decide +kernel
theorem dX8_readBoxes_179 : decode cX8_readBoxes 179 = .ok (.goto 5, 3) := by decide +kernel
theorem dX8_readBoxes_182 : decode cX8_readBoxes 182 = .ok (.ldc 87, 2) := by decide +kernel
theorem dX8_readBoxes_184 : decode cX8_readBoxes 184 = .ok (.if_icmp .ne 42, 3) := by decide +kernel
theorem dX8_readBoxes_187 : decode cX8_readBoxes 187 = .ok (.iinc 3 1, 3) := by decide +kernel
theorem dX8_readBoxes_190 : decode cX8_readBoxes 190 = .ok (.aload_n 0, 1) := by decide +kernel
theorem dX8_readBoxes_191 : decode cX8_readBoxes 191 = .ok (.getfield 38, 3) := by decide +kernel
theorem dX8_readBoxes_194 : decode cX8_readBoxes 194 = .ok (.iconst 2, 1) := by decide +kernel
theorem dX8_readBoxes_195 : decode cX8_readBoxes 195 = .ok (.iload_n 3, 1) := by decide +kernel
theorem dX8_readBoxes_196 : decode cX8_readBoxes 196 = .ok (.imul, 1) := by decide +kernel
theorem dX8_readBoxes_197 : decode cX8_readBoxes 197 = .ok (.iload 4, 2) := by decide +kernel
theorem dX8_readBoxes_199 : decode cX8_readBoxes 199 = .ok (.lload 6, 2) := by decide +kernel
theorem dX8_readBoxes_201 : decode cX8_readBoxes 201 = .ok (.l2i, 1) := by decide +kernel
theorem dX8_readBoxes_202 : decode cX8_readBoxes 202 = .ok (.iadd, 1) := by decide +kernel
theorem dX8_readBoxes_203 : decode cX8_readBoxes 203 = .ok (.iastore, 1) := by decide +kernel
theorem dX8_readBoxes_204 : decode cX8_readBoxes 204 = .ok (.aload_n 0, 1) := by decide +kernel
theorem dX8_readBoxes_205 : decode cX8_readBoxes 205 = .ok (.getfield 38, 3) := by decide +kernel
theorem dX8_readBoxes_208 : decode cX8_readBoxes 208 = .ok (.iconst 2, 1) := by decide +kernel
theorem dX8_readBoxes_209 : decode cX8_readBoxes 209 = .ok (.iload_n 3, 1) := by decide +kernel
theorem dX8_readBoxes_210 : decode cX8_readBoxes 210 = .ok (.imul, 1) := by decide +kernel
theorem dX8_readBoxes_211 : decode cX8_readBoxes 211 = .ok (.iconst 1, 1) := by decide +kernel
theorem dX8_readBoxes_212 : decode cX8_readBoxes 212 = .ok (.iadd, 1) := by decide +kernel
theorem dX8_readBoxes_213 : decode cX8_readBoxes 213 = .ok (.aload_n 0, 1) := by decide +kernel
theorem dX8_readBoxes_214 : decode cX8_readBoxes 214 = .ok (.getfield 95, 3) := by decide +kernel
theorem dX8_readBoxes_217 : decode cX8_readBoxes 217 = .ok (.iconst 1, 1) := by decide +kernel
theorem dX8_readBoxes_218 : decode cX8_readBoxes 218 = .ok (.isub, 1) := by decide +kernel
theorem dX8_readBoxes_219 : decode cX8_readBoxes 219 = .ok (.iastore, 1) := by decide +kernel
theorem dX8_readBoxes_220 : decode cX8_readBoxes 220 = .ok (.iinc 4 8, 3) := by decide +kernel
theorem dX8_readBoxes_223 : decode cX8_readBoxes 223 = .ok (.goto 11, 3) := by decide +kernel
theorem dX8_readBoxes_226 : decode cX8_readBoxes 226 = .ok (.iload 4, 2) := by decide +kernel
theorem dX8_readBoxes_228 : decode cX8_readBoxes 228 = .ok (.lload 6, 2) := by decide +kernel
theorem dX8_readBoxes_230 : decode cX8_readBoxes 230 = .ok (.l2i, 1) := by decide +kernel
theorem dX8_readBoxes_231 : decode cX8_readBoxes 231 = .ok (.iadd, 1) := by decide +kernel
theorem dX8_readBoxes_232 : decode cX8_readBoxes 232 = .ok (.istore 4, 2) := by decide +kernel
theorem dX8_readBoxes_234 : decode cX8_readBoxes 234 = .ok (.goto (-202), 3) := by decide +kernel
theorem dX8_readBoxes_237 : decode cX8_readBoxes 237 = .ok (.iconst 1, 1) := by decide +kernel
theorem dX8_readBoxes_238 : decode cX8_readBoxes 238 = .ok (.ireturn, 1) := by decide +kernel
def FX8_readBoxes (G : GG) (M : DD) (a : Nat) (p0 : Option Nat) (p1 : Int32) : Option (DD × Int32) :=
  ltt (uI M a 11 ((0 : Int32))) fun M1 =>
  bnd (FJ7_fill_53178 G M1 ((M1.2 a 12)) ((-1 : Int32))) fun y2 =>
  dr G 13 ((y2.2 a 13)) fun b3 =>
  chk (¬ (((0 : Int32)) < 0 ∨ G.2.2 b3 ≤ ((0 : Int32)).toNatClampNeg)) <|
  ltt (uI y2 b3 ((0 : Int32)).toNatClampNeg p1) fun M4 =>
  dr G 13 ((M4.2 a 13)) fun b5 =>
  chk (¬ (((1 : Int32)) < 0 ∨ G.2.2 b5 ≤ ((1 : Int32)).toNatClampNeg)) <|
  ltt (uI M4 b5 ((1 : Int32)).toNatClampNeg ((-1 : Int32))) fun M6 =>
  bnd (itr (fun (s8 : Int32 × Int32 × DD) => ((if p1 ≤ s8.2.1 then (some (.inr (.inl (s8.1, s8.2.1, s8.2.2)))) else
  (ltt ((((2 : Int32)) * s8.1)) fun x12 =>
  dr G 13 ((s8.2.2.2 a 13)) fun b13 =>
  chk (¬ (x12 < 0 ∨ G.2.2 b13 ≤ x12.toNatClampNeg)) <|
  ltt (s8.2.2.1 b13 x12.toNatClampNeg) fun x14 =>
  if s8.2.1 = x14 then (if s8.1 ≤ ((0 : Int32)) then (ltt ((((2 : Int32)) * s8.1)) fun x67 =>
  chk (¬ (x67 < 0 ∨ G.2.2 b13 ≤ x67.toNatClampNeg)) <|
  ltt (s8.2.2.1 b13 x67.toNatClampNeg) fun x68 =>
  ltt ((x68 - s8.2.1)) fun x69 =>
  bnd (if ((8 : Int32)) ≤ x69 then (bnd (FX8_number4 G s8.2.2 p0 s8.2.1) fun y116 =>
  some (y116.2, y116.1)) else
  (some ((0 : Int64), s8.2.2))) fun (y70 : Int64 × DD) =>
  ltt (lg_cmp y70.1 ((8 : Int64))) fun x71 =>
  if x71 < ((0 : Int32)) then (chk (((0 : Int32)) = 0 ∨ ((0 : Int32)) = 1) <|
  some (.inr (.inr (y70.2, (0 : Int32))))) else
  (ltt (x69.toInt64) fun x73 =>
  ltt (lg_cmp y70.1 x73) fun x74 =>
  if x74 ≤ ((0 : Int32)) then (ltt ((s8.2.1 + ((4 : Int32)))) fun x76 =>
  bnd (FX8_number4 G y70.2 p0 x76) fun y77 =>
  ltt (y77.2.toInt32) fun x78 =>
  ltt (y77.1.1 a 11) fun x79 =>
  bnd (if ((60 : Int32)) ≤ x79 then (some ((0 : Int32))) else
  (some ((1 : Int32)))) fun (y80 : Int32) =>
  ltt (y70.1.toInt32) fun x81 =>
  ltt ((((2 : Int32)) * s8.1)) fun x82 =>
  ltt ((x82 + ((1 : Int32)))) fun x83 =>
  dr G 13 ((y77.1.2 a 13)) fun b84 =>
  chk (¬ (x83 < 0 ∨ G.2.2 b84 ≤ x83.toNatClampNeg)) <|
  ltt (y77.1.1 b84 x83.toNatClampNeg) fun x85 =>
  bnd (FX8_noteBox G y77.1 a x78 s8.2.1 x81 x85) fun y86 =>
  bnd (if y80 = ((0 : Int32)) then (ltt (y70.1.toInt32) fun x89 =>
  ltt ((s8.2.1 + x89)) fun x90 =>
  some (s8.1, x90, y86)) else
  (bnd (if ((2 : Int32)) ≤ s8.1 then (ltt (y70.1.toInt32) fun x93 =>
  ltt ((s8.2.1 + x93)) fun x94 =>
  some (s8.1, x94, y86)) else
  (bnd (if s8.1 = ((0 : Int32)) then (some ((1836019574 : Int32))) else
  (some ((1953653099 : Int32)))) fun (y95 : Int32) =>
  bnd (if x78 = y95 then (ltt (s8.1 + (1 : Int32)) fun x100 =>
  ltt ((((2 : Int32)) * x100)) fun x101 =>
  ltt (y70.1.toInt32) fun x102 =>
  ltt ((s8.2.1 + x102)) fun x103 =>
  dr G 13 ((y86.2 a 13)) fun b104 =>
  chk (¬ (x101 < 0 ∨ G.2.2 b104 ≤ x101.toNatClampNeg)) <|
  ltt (uI y86 b104 x101.toNatClampNeg x103) fun M105 =>
  ltt ((((2 : Int32)) * x100)) fun x106 =>
  ltt ((x106 + ((1 : Int32)))) fun x107 =>
  ltt (M105.1 a 11) fun x108 =>
  ltt ((x108 - ((1 : Int32)))) fun x109 =>
  dr G 13 ((M105.2 a 13)) fun b110 =>
  chk (¬ (x107 < 0 ∨ G.2.2 b110 ≤ x107.toNatClampNeg)) <|
  ltt (uI M105 b110 x107.toNatClampNeg x109) fun M111 =>
  ltt (s8.2.1 + (8 : Int32)) fun x112 =>
  some (x100, x112, M111)) else
  (ltt (y70.1.toInt32) fun x98 =>
  ltt ((s8.2.1 + x98)) fun x99 =>
  some (s8.1, x99, y86))) fun (y96 : Int32 × Int32 × DD) =>
  some (y96.1, y96.2.1, y96.2.2))) fun (y91 : Int32 × Int32 × DD) =>
  some (y91.1, y91.2.1, y91.2.2))) fun (y87 : Int32 × Int32 × DD) =>
  some (.inl (y87.1, y87.2.1, y87.2.2))) else
  (chk (((0 : Int32)) = 0 ∨ ((0 : Int32)) = 1) <|
  some (.inr (.inr (y70.2, (0 : Int32))))))) else
  (ltt (s8.1 + (-1 : Int32)) fun x117 =>
  some (.inl (x117, s8.2.1, s8.2.2)))) else
  (ltt ((((2 : Int32)) * s8.1)) fun x16 =>
  chk (¬ (x16 < 0 ∨ G.2.2 b13 ≤ x16.toNatClampNeg)) <|
  ltt (s8.2.2.1 b13 x16.toNatClampNeg) fun x17 =>
  ltt ((x17 - s8.2.1)) fun x18 =>
  bnd (if ((8 : Int32)) ≤ x18 then (bnd (FX8_number4 G s8.2.2 p0 s8.2.1) fun y65 =>
  some (y65.2, y65.1)) else
  (some ((0 : Int64), s8.2.2))) fun (y19 : Int64 × DD) =>
  ltt (lg_cmp y19.1 ((8 : Int64))) fun x20 =>
  if x20 < ((0 : Int32)) then (chk (((0 : Int32)) = 0 ∨ ((0 : Int32)) = 1) <|
  some (.inr (.inr (y19.2, (0 : Int32))))) else
  (ltt (x18.toInt64) fun x22 =>
  ltt (lg_cmp y19.1 x22) fun x23 =>
  if x23 ≤ ((0 : Int32)) then (ltt ((s8.2.1 + ((4 : Int32)))) fun x25 =>
  bnd (FX8_number4 G y19.2 p0 x25) fun y26 =>
  ltt (y26.2.toInt32) fun x27 =>
  ltt (y26.1.1 a 11) fun x28 =>
  bnd (if ((60 : Int32)) ≤ x28 then (some ((0 : Int32))) else
  (some ((1 : Int32)))) fun (y29 : Int32) =>
  ltt (y19.1.toInt32) fun x30 =>
  ltt ((((2 : Int32)) * s8.1)) fun x31 =>
  ltt ((x31 + ((1 : Int32)))) fun x32 =>
  dr G 13 ((y26.1.2 a 13)) fun b33 =>
  chk (¬ (x32 < 0 ∨ G.2.2 b33 ≤ x32.toNatClampNeg)) <|
  ltt (y26.1.1 b33 x32.toNatClampNeg) fun x34 =>
  bnd (FX8_noteBox G y26.1 a x27 s8.2.1 x30 x34) fun y35 =>
  bnd (if y29 = ((0 : Int32)) then (ltt (y19.1.toInt32) fun x38 =>
  ltt ((s8.2.1 + x38)) fun x39 =>
  some (s8.1, x39, y35)) else
  (bnd (if ((2 : Int32)) ≤ s8.1 then (ltt (y19.1.toInt32) fun x42 =>
  ltt ((s8.2.1 + x42)) fun x43 =>
  some (s8.1, x43, y35)) else
  (bnd (if s8.1 = ((0 : Int32)) then (some ((1836019574 : Int32))) else
  (some ((1953653099 : Int32)))) fun (y44 : Int32) =>
  bnd (if x27 = y44 then (ltt (s8.1 + (1 : Int32)) fun x49 =>
  ltt ((((2 : Int32)) * x49)) fun x50 =>
  ltt (y19.1.toInt32) fun x51 =>
  ltt ((s8.2.1 + x51)) fun x52 =>
  dr G 13 ((y35.2 a 13)) fun b53 =>
  chk (¬ (x50 < 0 ∨ G.2.2 b53 ≤ x50.toNatClampNeg)) <|
  ltt (uI y35 b53 x50.toNatClampNeg x52) fun M54 =>
  ltt ((((2 : Int32)) * x49)) fun x55 =>
  ltt ((x55 + ((1 : Int32)))) fun x56 =>
  ltt (M54.1 a 11) fun x57 =>
  ltt ((x57 - ((1 : Int32)))) fun x58 =>
  dr G 13 ((M54.2 a 13)) fun b59 =>
  chk (¬ (x56 < 0 ∨ G.2.2 b59 ≤ x56.toNatClampNeg)) <|
  ltt (uI M54 b59 x56.toNatClampNeg x58) fun M60 =>
  ltt (s8.2.1 + (8 : Int32)) fun x61 =>
  some (x49, x61, M60)) else
  (ltt (y19.1.toInt32) fun x47 =>
  ltt ((s8.2.1 + x47)) fun x48 =>
  some (s8.1, x48, y35))) fun (y45 : Int32 × Int32 × DD) =>
  some (y45.1, y45.2.1, y45.2.2))) fun (y40 : Int32 × Int32 × DD) =>
  some (y40.1, y40.2.1, y40.2.2))) fun (y36 : Int32 × Int32 × DD) =>
  some (.inl (y36.1, y36.2.1, y36.2.2))) else
  (chk (((0 : Int32)) = 0 ∨ ((0 : Int32)) = 1) <|
  some (.inr (.inr (y19.2, (0 : Int32))))))))) : Option ((Int32 × Int32 × DD) ⊕ ((Int32 × Int32 × DD) ⊕ (DD × Int32))))) 1000000 ((0 : Int32), (0 : Int32), M6)) fun (y7 : (Int32 × Int32 × DD) ⊕ (DD × Int32)) =>
  sel y7 (fun (z7k : Int32 × Int32 × DD) =>
  chk (((1 : Int32)) = 0 ∨ ((1 : Int32)) = 1) <|
  some (z7k.2.2, (1 : Int32))) fun r9 => some r9
set_option maxHeartbeats 4000000 in
set_option maxRecDepth 100000 in
theorem kX8_readBoxes (l : Launch) (D : va_G) (ct : CT) (ad : Nat → Nat) (Z : Nat → Nat) (G : GG) (M : DD) (sz : Nat) (a : Nat) (p0 : Option Nat) (p1 : Int32) (y : DD × Int32) (hc : a < G.1) (hk : G.2.1 a = 8) (hF : FX8_readBoxes G M a p0 p1 = some y) : Met l yX8_readBoxes wuX8_readBoxes ({ frames := 1, cells := 0, slots := 0, locals := 25 }) (va_Pc [.ref (ad a), va_re ad p0, .int p1] (kB D ct ad Z G M sz)) (va_Qi (fun (q : Int32) (_ : Unit) => q = y.2) (fun _ t => kE D ct ad G (wA ad G sz) y.1 t) (wA ad G sz)) 0 0 (wA ad G sz) := by
  refine Met.ofW (cc := cX8_readBoxes) (maxL := 10) (ret := (some .boolean)) (by decide) rfl ?_
  intro p e s m args below meth c s₁ B hml hv
  obtain ⟨rfl, hsz, hP, hK, hD0, hZ, hN⟩ := hv
  have hx := B.exec
  have hb := B.bytes
  have hr := B.returns
  have hts := atoms_spec (ws := wuX8_readBoxes) B.pre
  have hown : s.vm.findClass RX8 = some m.cls := findClass_of_methodNamed B.named
  have hlocks := B.notSynchronized
  subst hsz
  have hD := wD_self (sz := s.heap.size) hD0
  have hA9 : ∀ q, s.heap.size ≤ q → wA ad G s.heap.size q := fun q h => Or.inr h
  generalize hAe : wA ad G s.heap.size = A at hD hA9 hZ ⊢
  have hS : va_S A s.heap s.heap [] := va_S.rf
  have hl := lv_entry ([.ref (ad a), va_re ad p0, .int p1]) (n := 10) (by cases p0 <;> exact Nat.le_of_ble_eq_true rfl)
  rw [lg_entry_eq]
  generalize (lg_sl ([.ref (ad a), va_re ad p0, .int p1]) ++ List.replicate (10 - (lg_sl ([.ref (ad a), va_re ad p0, .int p1])).length) Slot.unset).toArray = ls at hl ⊢
  have hl : lv_has ls 10 [(0, .ref (ad a)), (1, va_re ad p0), (2, .int p1)] := by have e9 : lv_args 0 [.ref (ad a), va_re ad p0, .int p1] = [(0, .ref (ad a)), (1, va_re ad p0), (2, .int p1)] := (by cases p0 <;> rfl); rw [e9] at hl; exact hl
  unfold FX8_readBoxes at hF
  refine lv_aload_n hx hb dX8_readBoxes_0 rfl (lv_at hl 0 rfl) ?_
  refine lv_iconst (v := (0 : Int32)) hx hb dX8_readBoxes_1 (by decide) ?_
  refine va_put (D := D) (ci := 8) (v := .int (0 : Int32)) (ty := .int) (C := RX8) (T := TX8) (N := 15) hx hb hts (mus hf_X8) tyX8 tyX8_ok nmX8 hown hK hP hD hS a (wld_o ct ad G M hc hk (by decide)) rfl 11 (by decide) (hts (.fieldLink RX8 95 "VideoSuite$Units" "boxCount" "I") (mu mw_229)) (fun _ h9 => h9) rfl (by decide +kernel) rfl rfl (Nat.le_of_ble_eq_true rfl) dX8_readBoxes_2 (fun H locs hP hD hS => ?_)
  obtain ⟨M1, eM1, hF⟩ := ltt_some hF
  rw [set_oI ct ad G M hc hk (by decide) (by rfl), ← eM1] at hP hD
  refine lv_aload_n hx hb dX8_readBoxes_5 rfl (lv_at hl 0 rfl) ?_
  refine va_get (D := D) (ci := 8) (v := va_re ad (M1.2 a 12)) (C := RX8) (T := TX8) (N := 15) hx hb hts (mus hf_X8) hown hK hP a (wld_o ct ad G M1 hc hk (by decide)) rfl 12 (by decide) (hts (.fieldLink RX8 35 "VideoSuite$Units" "table" "[I") (mu mw_231)) (fun _ h9 => h9) rfl dX8_readBoxes_6 ?_
  refine lv_iconst (v := (-1 : Int32)) hx hb dX8_readBoxes_9 (by decide) ?_
  obtain ⟨y2, hy2, hF⟩ := bnd_some hF
  have hf9 := wA_in hD hA9 hS
  refine va_callv (va_runS (As := [va_re ad (M1.2 a 12), .int (-1 : Int32)]) (rest := []) ⟨hx, hb, hml, hown, hts⟩ (kJ7_fill_53178 l D ct ad Z G M1 H.size ((M1.2 a 12)) ((-1 : Int32)) y2 hy2) (va_cwS 2 hts gX8_readBoxes_J7_fill_53178 rfl rfl rfl (by decide +kernel) ⟨Nat.le_of_ble_eq_true rfl, Nat.le_of_ble_eq_true rfl⟩) ⟨fun a U g mk q => by obtain ⟨q0, q1, qP, qK, qD, qZ, qN⟩ := q; exact ⟨q0, q1, qP, va_K.moved (u := U) (U := U.calling g mk a) (Vm.Alike.refl U.vm) qK, qD, sF.moved (u := U) (U := U.calling g mk a) (Vm.Alike.refl U.vm) qZ, nF.same rfl qN⟩, fun U hU hW => ⟨rfl, by rw [hU], by rw [hU]; exact hP, va_K.moved hW.alike hK, hD.weaken (fun _ _ _ _ => trivial), by rw [hU]; exact ((hZ.kept hS.2.1).narrow hf9).moved hW.alike, hN.warm hW⟩⟩ rfl rfl hl.1 rfl (lv_room (Nat.le_of_ble_eq_true rfl)) dX8_readBoxes_10 ⟨(Nat.zero_le _), (Nat.zero_le _)⟩) hS (fun q _ h => hf9 q h) hf9 (fun u t H locs ht hvm hw hB hz1 hk1 hS => ?_)
  obtain ⟨hP, hK9, hD9⟩ := hB
  rw [ht] at hP
  have hD := hD9.weaken (fun _ q _ h => hf9 q.1 h)
  refine lv_iconst (v := (0 : Int32)) hx hb dX8_readBoxes_13 (by decide) ?_
  refine lv_istore_n (lv' := [(3, .int (0 : Int32)), (0, .ref (ad a)), (1, va_re ad p0), (2, .int p1)]) hx hb dX8_readBoxes_14 rfl hl (by decide) rfl (fun ls hl => ?_)
  refine lv_iconst (v := (0 : Int32)) hx hb dX8_readBoxes_15 (by decide) ?_
  refine lv_istore (lv' := [(4, .int (0 : Int32)), (3, .int (0 : Int32)), (0, .ref (ad a)), (1, va_re ad p0), (2, .int p1)]) hx hb dX8_readBoxes_16 hl (by decide) rfl (fun ls hl => ?_)
  refine lv_aload_n hx hb dX8_readBoxes_18 rfl (lv_at hl 2 rfl) ?_
  refine va_get (D := D) (ci := 8) (v := va_re ad (y2.2 a 13)) (C := RX8) (T := TX8) (N := 15) hx hb hts (mus hf_X8) hown hK hP a (wld_o ct ad G y2 hc hk (by decide)) rfl 13 (by decide) (hts (.fieldLink RX8 38 "VideoSuite$Units" "nest" "[I") (mu mw_232)) (fun _ h9 => h9) rfl dX8_readBoxes_19 ?_
  refine lv_iconst (v := (0 : Int32)) hx hb dX8_readBoxes_22 (by decide) ?_
  refine lv_iload_n hx hb dX8_readBoxes_23 rfl (lv_at hl 4 rfl) ?_
  obtain ⟨b3, ho3, hc3, hk3, hF⟩ := dr_some hF
  refine W_st (st' := [.int p1, .int (0 : Int32), .ref (ad b3)]) (by rw [va_some ho3]) ?_
  obtain ⟨hvc, hF⟩ := chk_some hF
  refine va_iast hx hb hK hP hD hS b3 1 (wld_i ct ad G y2 hc3 hk3) rfl hvc dX8_readBoxes_24 (fun H locs hP hD hS => ?_)
  obtain ⟨M4, eM4, hF⟩ := ltt_some hF
  rw [set_i ct ad G y2 hc3 hk3, ← eM4] at hP hD
  refine lv_aload_n hx hb dX8_readBoxes_25 rfl (lv_at hl 2 rfl) ?_
  refine va_get (D := D) (ci := 8) (v := va_re ad (M4.2 a 13)) (C := RX8) (T := TX8) (N := 15) hx hb hts (mus hf_X8) hown hK hP a (wld_o ct ad G M4 hc hk (by decide)) rfl 13 (by decide) (hts (.fieldLink RX8 38 "VideoSuite$Units" "nest" "[I") (mu mw_232)) (fun _ h9 => h9) rfl dX8_readBoxes_26 ?_
  refine lv_iconst (v := (1 : Int32)) hx hb dX8_readBoxes_29 (by decide) ?_
  refine lv_iconst (v := (-1 : Int32)) hx hb dX8_readBoxes_30 (by decide) ?_
  obtain ⟨b5, ho5, hc5, hk5, hF⟩ := dr_some hF
  refine W_st (st' := [.int (-1 : Int32), .int (1 : Int32), .ref (ad b5)]) (by rw [va_some ho5]) ?_
  obtain ⟨hvc, hF⟩ := chk_some hF
  refine va_iast hx hb hK hP hD hS b5 1 (wld_i ct ad G M4 hc5 hk5) rfl hvc dX8_readBoxes_31 (fun H locs hP hD hS => ?_)
  obtain ⟨M6, eM6, hF⟩ := ltt_some hF
  rw [set_i ct ad G M4 hc5 hk5, ← eM6] at hP hD
  obtain ⟨y7, hy7, hF⟩ := bnd_some hF
  have K7 : ∀ z7k : Int32 × Int32 × DD, y7 = .inl z7k → ∀ (H : Heap) (locs : List Loc) (ls : Array Slot), va_P D classes (wld ct ad G z7k.2.2) H → va_D A (wld ct ad G z7k.2.2) → va_S A s.heap H locs → lv_has ls 10 [(4, .int z7k.2.1), (3, .int z7k.1), (0, .ref (ad a)), (1, va_re ad p0), (2, .int p1)] → W p l e (headSpec wuX8_readBoxes ({ frames := 1, cells := 0, slots := 0, locals := 25 })).room s m ([.ref (ad a), va_re ad p0, .int p1] : List Value).toArray below meth c H locs 0 0 (MQ below (va_Qi (fun (q : Int32) (_ : Unit) => q = y.2) (fun _ t => kE D ct ad G A y.1 t) A) ([.ref (ad a), va_re ad p0, .int p1] : List Value).toArray s 0 0 A) (F0 m 237 ls []) := by
    intro z7k hz7 H locs ls hP hD hS hl
    have hF := sel_inl (hz7 ▸ hF)
    refine lv_iconst (v := (1 : Int32)) hx hb dX8_readBoxes_237 (by decide) ?_
    obtain ⟨hz9, hF⟩ := chk_some hF
    obtain rfl := Option.some.inj hF
    exact W.zret (v := (1 : Int32)) (ty := .boolean) hx hb hr (nar_z hz9).1 (fun t ht hW => ⟨⟨_, (), rfl, rfl, ⟨by rw [ht]; exact hP, va_K.moved hW.alike hK, hD⟩⟩, hS.F ht⟩) hS.2.2 dX8_readBoxes_238
  have hR7 := hF
  clear hF
  refine itr_rule (fun (s8 : Int32 × Int32 × DD) => ∀ (H : Heap) (locs : List Loc) (ls : Array Slot), va_P D classes (wld ct ad G s8.2.2) H → va_D A (wld ct ad G s8.2.2) → va_S A s.heap H locs → lv_has ls 10 [(4, .int s8.2.1), (3, .int s8.1), (0, .ref (ad a)), (1, va_re ad p0), (2, .int p1)] → W p l e (headSpec wuX8_readBoxes ({ frames := 1, cells := 0, slots := 0, locals := 25 })).room s m ([.ref (ad a), va_re ad p0, .int p1] : List Value).toArray below meth c H locs 0 0 (MQ below (va_Qi (fun (q : Int32) (_ : Unit) => q = y.2) (fun _ t => kE D ct ad G A y.1 t) A) ([.ref (ad a), va_re ad p0, .int p1] : List Value).toArray s 0 0 A) (F0 m 32 ls [])) ?_ _ _ hy7 _ _ _ hP hD hS (lv_sub hl [0, 1, 2, 3, 4] rfl)
  rintro s8 ⟨z10, hF, hwz10⟩ H locs ls hP hD hS hl
  try dsimp only at hF
  refine lv_iload hx hb dX8_readBoxes_32 (lv_at hl 0 rfl) ?_
  refine lv_iload_n hx hb dX8_readBoxes_34 rfl (lv_at hl 4 rfl) ?_
  refine lv_icmp_ge (tgt := 237) hx hb dX8_readBoxes_35 (by decide) (fun c11 => ?_) (fun c11 => ?_)
  · rw [if_pos c11] at hF
    obtain rfl := Option.some.inj hF
    exact K7 _ hwz10.symm _ _ _ hP hD hS (lv_sub hl [0, 1, 2, 3, 4] rfl)
  · rw [if_neg c11] at hF
    refine lv_iload hx hb dX8_readBoxes_38 (lv_at hl 0 rfl) ?_
    refine lv_aload_n hx hb dX8_readBoxes_40 rfl (lv_at hl 2 rfl) ?_
    refine va_get (D := D) (ci := 8) (v := va_re ad (s8.2.2.2 a 13)) (C := RX8) (T := TX8) (N := 15) hx hb hts (mus hf_X8) hown hK hP a (wld_o ct ad G s8.2.2 hc hk (by decide)) rfl 13 (by decide) (hts (.fieldLink RX8 38 "VideoSuite$Units" "nest" "[I") (mu mw_232)) (fun _ h9 => h9) rfl dX8_readBoxes_41 ?_
    refine lv_iconst (v := (2 : Int32)) hx hb dX8_readBoxes_44 (by decide) ?_
    refine lv_iload_n hx hb dX8_readBoxes_45 rfl (lv_at hl 1 rfl) ?_
    refine lv_imul hx hb dX8_readBoxes_46 ?_
    obtain ⟨x12, ex12, hF⟩ := ltt_some hF
    refine lv_topi (fun zx12 ezx12 => ?_)
    obtain rfl : x12 = zx12 := ex12.trans ezx12.symm
    obtain ⟨b13, ho13, hc13, hk13, hF⟩ := dr_some hF
    refine W_st (st' := [.int x12, .ref (ad b13), .int s8.2.1]) (by rw [va_some ho13]) ?_
    obtain ⟨hvc, hF⟩ := chk_some hF
    refine va_iald hx hb hK hP b13 1 (wld_i ct ad G s8.2.2 hc13 hk13) rfl hvc dX8_readBoxes_47 ?_
    obtain ⟨x14, ex14, hF⟩ := ltt_some hF
    refine lv_topi (fun zx14 ezx14 => ?_)
    obtain rfl : x14 = zx14 := ex14.trans ezx14.symm
    refine lv_icmp_ne (tgt := 61) hx hb dX8_readBoxes_48 (by decide) (fun c15 => ?_) (fun c15 => ?_)
    · rw [if_neg c15] at hF
      refine lv_aload_n hx hb dX8_readBoxes_61 rfl (lv_at hl 2 rfl) ?_
      refine va_get (D := D) (ci := 8) (v := va_re ad (s8.2.2.2 a 13)) (C := RX8) (T := TX8) (N := 15) hx hb hts (mus hf_X8) hown hK hP a (wld_o ct ad G s8.2.2 hc hk (by decide)) rfl 13 (by decide) (hts (.fieldLink RX8 38 "VideoSuite$Units" "nest" "[I") (mu mw_232)) (fun _ h9 => h9) rfl dX8_readBoxes_62 ?_
      refine lv_iconst (v := (2 : Int32)) hx hb dX8_readBoxes_65 (by decide) ?_
      refine lv_iload_n hx hb dX8_readBoxes_66 rfl (lv_at hl 1 rfl) ?_
      refine lv_imul hx hb dX8_readBoxes_67 ?_
      obtain ⟨x16, ex16, hF⟩ := ltt_some hF
      refine lv_topi (fun zx16 ezx16 => ?_)
      obtain rfl : x16 = zx16 := ex16.trans ezx16.symm
      refine W_st (st' := [.int x16, .ref (ad b13)]) (by rw [va_some ho13]) ?_
      obtain ⟨hvc, hF⟩ := chk_some hF
      refine va_iald hx hb hK hP b13 1 (wld_i ct ad G s8.2.2 hc13 hk13) rfl hvc dX8_readBoxes_68 ?_
      obtain ⟨x17, ex17, hF⟩ := ltt_some hF
      refine lv_topi (fun zx17 ezx17 => ?_)
      obtain rfl : x17 = zx17 := ex17.trans ezx17.symm
      refine lv_iload hx hb dX8_readBoxes_69 (lv_at hl 0 rfl) ?_
      refine lv_isub hx hb dX8_readBoxes_71 ?_
      obtain ⟨x18, ex18, hF⟩ := ltt_some hF
      refine lv_topi (fun zx18 ezx18 => ?_)
      obtain rfl : x18 = zx18 := ex18.trans ezx18.symm
      refine lv_istore (lv' := [(5, .int x18), (4, .int s8.2.1), (3, .int s8.1), (0, .ref (ad a)), (1, va_re ad p0), (2, .int p1)]) hx hb dX8_readBoxes_72 hl (by decide) rfl (fun ls hl => ?_)
      refine lv_iload hx hb dX8_readBoxes_74 (lv_at hl 0 rfl) ?_
      refine lv_bipush (v := (8 : Int32)) hx hb dX8_readBoxes_76 (by decide) ?_
      obtain ⟨y19, hy19, hF⟩ := bnd_some hF
      have J19 : ∀ (H : Heap) (locs : List Loc) (ls : Array Slot), va_P D classes (wld ct ad G y19.2) H → va_D A (wld ct ad G y19.2) → va_S A s.heap H locs → lv_has ls 10 [(5, .int x18), (4, .int s8.2.1), (3, .int s8.1), (0, .ref (ad a)), (1, va_re ad p0), (2, .int p1)] → W p l e (headSpec wuX8_readBoxes ({ frames := 1, cells := 0, slots := 0, locals := 25 })).room s m ([.ref (ad a), va_re ad p0, .int p1] : List Value).toArray below meth c H locs 0 0 (MQ below (va_Qi (fun (q : Int32) (_ : Unit) => q = y.2) (fun _ t => kE D ct ad G A y.1 t) A) ([.ref (ad a), va_re ad p0, .int p1] : List Value).toArray s 0 0 A) (F0 m 91 ls [.long y19.1]) := by
        intro H locs ls hP hD hS hl
        refine lv_lstore (lv' := [(6, .long y19.1), (5, .int x18), (4, .int s8.2.1), (3, .int s8.1), (0, .ref (ad a)), (1, va_re ad p0), (2, .int p1)]) hx hb dX8_readBoxes_91 hl (by decide) rfl (fun ls hl => ?_)
        refine lv_lload hx hb dX8_readBoxes_93 (lv_at hl 0 rfl) ?_
        refine lv_ldc2 (v := (8 : Int64)) hx hb hown (hts (.constantLong RX8 108 (8 : Int64)) (mu mw_2831)) dX8_readBoxes_95 ?_
        refine W.lcmp hx hb dX8_readBoxes_98 ?_
        obtain ⟨x20, ex20, hF⟩ := ltt_some hF
        refine lv_topi (fun zx20 ezx20 => ?_)
        obtain rfl : x20 = zx20 := ex20.trans ezx20.symm
        refine lv_if_lt (tgt := 111) hx hb dX8_readBoxes_99 (by decide) (fun c21 => ?_) (fun c21 => ?_)
        · rw [if_pos c21] at hF
          refine lv_iconst (v := (0 : Int32)) hx hb dX8_readBoxes_111 (by decide) ?_
          obtain ⟨hz9, hF⟩ := chk_some hF
          obtain rfl := Option.some.inj hF
          have hF := sel_inr (hwz10 ▸ hR7)
          obtain rfl := Option.some.inj hF
          exact W.zret (v := (0 : Int32)) (ty := .boolean) hx hb hr (nar_z hz9).1 (fun t ht hW => ⟨⟨_, (), rfl, rfl, ⟨by rw [ht]; exact hP, va_K.moved hW.alike hK, hD⟩⟩, hS.F ht⟩) hS.2.2 dX8_readBoxes_112
        · rw [if_neg c21] at hF
          refine lv_lload hx hb dX8_readBoxes_102 (lv_at hl 0 rfl) ?_
          refine lv_iload hx hb dX8_readBoxes_104 (lv_at hl 1 rfl) ?_
          refine lv_i2l (v := x18.toInt64) hx hb dX8_readBoxes_106 rfl ?_
          obtain ⟨x22, ex22, hF⟩ := ltt_some hF
          refine lv_topl (fun zx22 ezx22 => ?_)
          obtain rfl : x22 = zx22 := ex22.trans ezx22.symm
          refine W.lcmp hx hb dX8_readBoxes_107 ?_
          obtain ⟨x23, ex23, hF⟩ := ltt_some hF
          refine lv_topi (fun zx23 ezx23 => ?_)
          obtain rfl : x23 = zx23 := ex23.trans ezx23.symm
          refine lv_if_le (tgt := 113) hx hb dX8_readBoxes_108 (by decide) (fun c24 => ?_) (fun c24 => ?_)
          · rw [if_pos c24] at hF
            refine lv_aloadq_n hx hb dX8_readBoxes_113 rfl (lv_at hl 5 rfl) ?_
            refine lv_iload hx hb dX8_readBoxes_114 (lv_at hl 2 rfl) ?_
            refine lv_iconst (v := (4 : Int32)) hx hb dX8_readBoxes_116 (by decide) ?_
            refine lv_iadd hx hb dX8_readBoxes_117 ?_
            obtain ⟨x25, ex25, hF⟩ := ltt_some hF
            refine lv_topi (fun zx25 ezx25 => ?_)
            obtain rfl : x25 = zx25 := ex25.trans ezx25.symm
            obtain ⟨y26, hy26, hF⟩ := bnd_some hF
            have hf9 := wA_in hD hA9 hS
            refine va_calll (va_runS (As := [va_re ad p0, .int x25]) (rest := []) ⟨hx, hb, hml, hown, hts⟩ (kX8_number4 l D ct ad Z G y19.2 H.size p0 x25 y26 hy26) (va_cwS 2 hts gX8_readBoxes_X8_number4 rfl rfl rfl (by decide +kernel) ⟨Nat.le_of_ble_eq_true rfl, Nat.le_of_ble_eq_true rfl⟩) ⟨fun a U g mk q => by obtain ⟨q0, q1, qP, qK, qD, qZ, qN⟩ := q; exact ⟨q0, q1, qP, va_K.moved (u := U) (U := U.calling g mk a) (Vm.Alike.refl U.vm) qK, qD, sF.moved (u := U) (U := U.calling g mk a) (Vm.Alike.refl U.vm) qZ, nF.same rfl qN⟩, fun U hU hW => ⟨rfl, by rw [hU], by rw [hU]; exact hP, va_K.moved hW.alike hK, hD.weaken (fun _ _ _ _ => trivial), by rw [hU]; exact ((hZ.kept hS.2.1).narrow hf9).moved hW.alike, hN.warm hW⟩⟩ rfl rfl hl.1 rfl (lv_room (Nat.le_of_ble_eq_true rfl)) dX8_readBoxes_118 ⟨(Nat.zero_le _), (Nat.zero_le _)⟩) hS (fun q _ h => hf9 q h) hf9 (fun r u t H locs ht hvm hw hB hz1 hk1 hS => ?_)
            obtain ⟨hP, hK9, hD9⟩ := hB
            rw [ht] at hP
            try dsimp only at hw
            subst hw
            have hD := hD9.weaken (fun _ q _ h => hf9 q.1 h)
            refine lv_l2i (v := y26.2.toInt32) hx hb dX8_readBoxes_121 rfl ?_
            obtain ⟨x27, ex27, hF⟩ := ltt_some hF
            refine lv_topi (fun zx27 ezx27 => ?_)
            obtain rfl : x27 = zx27 := ex27.trans ezx27.symm
            refine lv_istore (lv' := [(8, .int x27), (6, .long y19.1), (5, .int x18), (4, .int s8.2.1), (3, .int s8.1), (0, .ref (ad a)), (1, va_re ad p0), (2, .int p1)]) hx hb dX8_readBoxes_122 hl (by decide) rfl (fun ls hl => ?_)
            refine lv_aload_n hx hb dX8_readBoxes_124 rfl (lv_at hl 5 rfl) ?_
            refine va_get (D := D) (ci := 8) (v := .int (y26.1.1 a 11)) (C := RX8) (T := TX8) (N := 15) hx hb hts (mus hf_X8) hown hK hP a (wld_o ct ad G y26.1 hc hk (by decide)) rfl 11 (by decide) (hts (.fieldLink RX8 95 "VideoSuite$Units" "boxCount" "I") (mu mw_229)) (fun _ h9 => h9) rfl dX8_readBoxes_125 ?_
            obtain ⟨x28, ex28, hF⟩ := ltt_some hF
            refine lv_topi (fun zx28 ezx28 => ?_)
            obtain rfl : x28 = zx28 := ex28.trans ezx28.symm
            refine lv_bipush (v := (60 : Int32)) hx hb dX8_readBoxes_128 (by decide) ?_
            obtain ⟨y29, hy29, hF⟩ := bnd_some hF
            have J29 : ∀ (H : Heap) (locs : List Loc) (ls : Array Slot), va_P D classes (wld ct ad G y26.1) H → va_D A (wld ct ad G y26.1) → va_S A s.heap H locs → lv_has ls 10 [(8, .int x27), (6, .long y19.1), (5, .int x18), (4, .int s8.2.1), (3, .int s8.1), (0, .ref (ad a)), (1, va_re ad p0), (2, .int p1)] → W p l e (headSpec wuX8_readBoxes ({ frames := 1, cells := 0, slots := 0, locals := 25 })).room s m ([.ref (ad a), va_re ad p0, .int p1] : List Value).toArray below meth c H locs 0 0 (MQ below (va_Qi (fun (q : Int32) (_ : Unit) => q = y.2) (fun _ t => kE D ct ad G A y.1 t) A) ([.ref (ad a), va_re ad p0, .int p1] : List Value).toArray s 0 0 A) (F0 m 138 ls [.int y29]) := by
              intro H locs ls hP hD hS hl
              refine lv_istore (lv' := [(9, .int y29), (8, .int x27), (6, .long y19.1), (5, .int x18), (4, .int s8.2.1), (3, .int s8.1), (0, .ref (ad a)), (1, va_re ad p0), (2, .int p1)]) hx hb dX8_readBoxes_138 hl (by decide) rfl (fun ls hl => ?_)
              refine lv_aload_n hx hb dX8_readBoxes_140 rfl (lv_at hl 6 rfl) ?_
              refine lv_iload hx hb dX8_readBoxes_141 (lv_at hl 1 rfl) ?_
              refine lv_iload hx hb dX8_readBoxes_143 (lv_at hl 4 rfl) ?_
              refine lv_lload hx hb dX8_readBoxes_145 (lv_at hl 2 rfl) ?_
              refine lv_l2i (v := y19.1.toInt32) hx hb dX8_readBoxes_147 rfl ?_
              obtain ⟨x30, ex30, hF⟩ := ltt_some hF
              refine lv_topi (fun zx30 ezx30 => ?_)
              obtain rfl : x30 = zx30 := ex30.trans ezx30.symm
              refine lv_aload_n hx hb dX8_readBoxes_148 rfl (lv_at hl 6 rfl) ?_
              refine va_get (D := D) (ci := 8) (v := va_re ad (y26.1.2 a 13)) (C := RX8) (T := TX8) (N := 15) hx hb hts (mus hf_X8) hown hK hP a (wld_o ct ad G y26.1 hc hk (by decide)) rfl 13 (by decide) (hts (.fieldLink RX8 38 "VideoSuite$Units" "nest" "[I") (mu mw_232)) (fun _ h9 => h9) rfl dX8_readBoxes_149 ?_
              refine lv_iconst (v := (2 : Int32)) hx hb dX8_readBoxes_152 (by decide) ?_
              refine lv_iload_n hx hb dX8_readBoxes_153 rfl (lv_at hl 5 rfl) ?_
              refine lv_imul hx hb dX8_readBoxes_154 ?_
              obtain ⟨x31, ex31, hF⟩ := ltt_some hF
              refine lv_topi (fun zx31 ezx31 => ?_)
              obtain rfl : x31 = zx31 := ex31.trans ezx31.symm
              refine lv_iconst (v := (1 : Int32)) hx hb dX8_readBoxes_155 (by decide) ?_
              refine lv_iadd hx hb dX8_readBoxes_156 ?_
              obtain ⟨x32, ex32, hF⟩ := ltt_some hF
              refine lv_topi (fun zx32 ezx32 => ?_)
              obtain rfl : x32 = zx32 := ex32.trans ezx32.symm
              obtain ⟨b33, ho33, hc33, hk33, hF⟩ := dr_some hF
              refine W_st (st' := [.int x32, .ref (ad b33), .int x30, .int s8.2.1, .int x27, .ref (ad a)]) (by rw [va_some ho33]) ?_
              obtain ⟨hvc, hF⟩ := chk_some hF
              refine va_iald hx hb hK hP b33 1 (wld_i ct ad G y26.1 hc33 hk33) rfl hvc dX8_readBoxes_157 ?_
              obtain ⟨x34, ex34, hF⟩ := ltt_some hF
              refine lv_topi (fun zx34 ezx34 => ?_)
              obtain rfl : x34 = zx34 := ex34.trans ezx34.symm
              obtain ⟨y35, hy35, hF⟩ := bnd_some hF
              have hf9 := wA_in hD hA9 hS
              refine va_callv (va_runV (As := [.int x27, .int s8.2.1, .int x30, .int x34]) (rest := []) ⟨hx, hb, hml, hown, hts⟩ (kX8_noteBox l D ct ad Z G y26.1 H.size a x27 s8.2.1 x30 x34 y35 hc hk hy35) (cwV 4 hts gX8_readBoxes_X8_noteBox rfl rfl rfl (by decide +kernel) ⟨Nat.le_of_ble_eq_true rfl, Nat.le_of_ble_eq_true rfl⟩) ⟨fun a U g mk q => by obtain ⟨q0, q1, qP, qK, qD, qZ, qN⟩ := q; exact ⟨q0, q1, qP, va_K.moved (u := U) (U := U.calling g mk a) (Vm.Alike.refl U.vm) qK, qD, sF.moved (u := U) (U := U.calling g mk a) (Vm.Alike.refl U.vm) qZ, nF.same rfl qN⟩, va_recv hK hP (ci := 8) (q0 := a) rfl (wld_o ct ad G y26.1 hc hk (by decide)), fun U hU hW => ⟨rfl, by rw [hU], by rw [hU]; exact hP, va_K.moved hW.alike hK, hD.weaken (fun _ _ _ _ => trivial), by rw [hU]; exact ((hZ.kept hS.2.1).narrow hf9).moved hW.alike, hN.warm hW⟩⟩ rfl rfl hl.1 rfl (lv_room (Nat.le_of_ble_eq_true rfl)) dX8_readBoxes_158 ⟨(Nat.zero_le _), (Nat.zero_le _)⟩) hS (fun q _ h => hf9 q h) hf9 (fun u t H locs ht hvm hw hB hz1 hk1 hS => ?_)
              obtain ⟨hP, hK9, hD9⟩ := hB
              rw [ht] at hP
              have hD := hD9.weaken (fun _ q _ h => hf9 q.1 h)
              refine lv_iload hx hb dX8_readBoxes_161 (lv_at hl 0 rfl) ?_
              obtain ⟨y36, hy36, hF⟩ := bnd_some hF
              have J36 : ∀ (H : Heap) (locs : List Loc) (ls : Array Slot), va_P D classes (wld ct ad G y36.2.2) H → va_D A (wld ct ad G y36.2.2) → va_S A s.heap H locs → lv_has ls 10 [(9, .int y29), (8, .int x27), (6, .long y19.1), (5, .int x18), (4, .int y36.2.1), (3, .int y36.1), (0, .ref (ad a)), (1, va_re ad p0), (2, .int p1)] → W p l e (headSpec wuX8_readBoxes ({ frames := 1, cells := 0, slots := 0, locals := 25 })).room s m ([.ref (ad a), va_re ad p0, .int p1] : List Value).toArray below meth c H locs 0 0 (MQ below (va_Qi (fun (q : Int32) (_ : Unit) => q = y.2) (fun _ t => kE D ct ad G A y.1 t) A) ([.ref (ad a), va_re ad p0, .int p1] : List Value).toArray s 0 0 A) (F0 m 234 ls []) := by
                intro H locs ls hP hD hS hl
                refine lv_goto (tgt := 32) hx hb dX8_readBoxes_234 (by decide) ?_
                obtain rfl := Option.some.inj hF
                exact hwz10 _ _ _ hP hD hS (lv_sub hl [4, 5, 6, 7, 8] rfl)
              clear hF
              have hF := hy36
              clear hy36
              refine lv_if_eq (tgt := 226) hx hb dX8_readBoxes_163 (by decide) (fun c37 => ?_) (fun c37 => ?_)
              · rw [if_pos c37] at hF
                refine lv_iload hx hb dX8_readBoxes_226 (lv_at hl 4 rfl) ?_
                refine lv_lload hx hb dX8_readBoxes_228 (lv_at hl 2 rfl) ?_
                refine lv_l2i (v := y19.1.toInt32) hx hb dX8_readBoxes_230 rfl ?_
                obtain ⟨x38, ex38, hF⟩ := ltt_some hF
                refine lv_topi (fun zx38 ezx38 => ?_)
                obtain rfl : x38 = zx38 := ex38.trans ezx38.symm
                refine lv_iadd hx hb dX8_readBoxes_231 ?_
                obtain ⟨x39, ex39, hF⟩ := ltt_some hF
                refine lv_topi (fun zx39 ezx39 => ?_)
                obtain rfl : x39 = zx39 := ex39.trans ezx39.symm
                refine lv_istore (lv' := [(4, .int x39), (9, .int y29), (8, .int x27), (6, .long y19.1), (5, .int x18), (3, .int s8.1), (0, .ref (ad a)), (1, va_re ad p0), (2, .int p1)]) hx hb dX8_readBoxes_232 hl (by decide) rfl (fun ls hl => ?_)
                obtain rfl := Option.some.inj hF
                exact J36 _ _ _ hP hD hS (lv_sub hl [1, 2, 3, 4, 0, 5, 6, 7, 8] rfl)
              · rw [if_neg c37] at hF
                refine lv_iload_n hx hb dX8_readBoxes_166 rfl (lv_at hl 5 rfl) ?_
                refine lv_iconst (v := (2 : Int32)) hx hb dX8_readBoxes_167 (by decide) ?_
                obtain ⟨y40, hy40, hF⟩ := bnd_some hF
                have J40 : ∀ (H : Heap) (locs : List Loc) (ls : Array Slot), va_P D classes (wld ct ad G y40.2.2) H → va_D A (wld ct ad G y40.2.2) → va_S A s.heap H locs → lv_has ls 10 [(9, .int y29), (8, .int x27), (6, .long y19.1), (5, .int x18), (4, .int y40.2.1), (3, .int y40.1), (0, .ref (ad a)), (1, va_re ad p0), (2, .int p1)] → W p l e (headSpec wuX8_readBoxes ({ frames := 1, cells := 0, slots := 0, locals := 25 })).room s m ([.ref (ad a), va_re ad p0, .int p1] : List Value).toArray below meth c H locs 0 0 (MQ below (va_Qi (fun (q : Int32) (_ : Unit) => q = y.2) (fun _ t => kE D ct ad G A y.1 t) A) ([.ref (ad a), va_re ad p0, .int p1] : List Value).toArray s 0 0 A) (F0 m 234 ls []) := by
                  intro H locs ls hP hD hS hl
                  obtain rfl := Option.some.inj hF
                  exact J36 _ _ _ hP hD hS (lv_sub hl [0, 1, 2, 3, 4, 5, 6, 7, 8] rfl)
                clear hF
                have hF := hy40
                clear hy40
                refine lv_icmp_ge (tgt := 226) hx hb dX8_readBoxes_168 (by decide) (fun c41 => ?_) (fun c41 => ?_)
                · rw [if_pos c41] at hF
                  refine lv_iload hx hb dX8_readBoxes_226 (lv_at hl 4 rfl) ?_
                  refine lv_lload hx hb dX8_readBoxes_228 (lv_at hl 2 rfl) ?_
                  refine lv_l2i (v := y19.1.toInt32) hx hb dX8_readBoxes_230 rfl ?_
                  obtain ⟨x42, ex42, hF⟩ := ltt_some hF
                  refine lv_topi (fun zx42 ezx42 => ?_)
                  obtain rfl : x42 = zx42 := ex42.trans ezx42.symm
                  refine lv_iadd hx hb dX8_readBoxes_231 ?_
                  obtain ⟨x43, ex43, hF⟩ := ltt_some hF
                  refine lv_topi (fun zx43 ezx43 => ?_)
                  obtain rfl : x43 = zx43 := ex43.trans ezx43.symm
                  refine lv_istore (lv' := [(4, .int x43), (9, .int y29), (8, .int x27), (6, .long y19.1), (5, .int x18), (3, .int s8.1), (0, .ref (ad a)), (1, va_re ad p0), (2, .int p1)]) hx hb dX8_readBoxes_232 hl (by decide) rfl (fun ls hl => ?_)
                  obtain rfl := Option.some.inj hF
                  exact J40 _ _ _ hP hD hS (lv_sub hl [1, 2, 3, 4, 0, 5, 6, 7, 8] rfl)
                · rw [if_neg c41] at hF
                  refine lv_iload hx hb dX8_readBoxes_171 (lv_at hl 1 rfl) ?_
                  refine lv_iload_n hx hb dX8_readBoxes_173 rfl (lv_at hl 5 rfl) ?_
                  obtain ⟨y44, hy44, hF⟩ := bnd_some hF
                  have J44 : ∀ (H : Heap) (locs : List Loc) (ls : Array Slot), va_P D classes (wld ct ad G y35) H → va_D A (wld ct ad G y35) → va_S A s.heap H locs → lv_has ls 10 [(9, .int y29), (8, .int x27), (6, .long y19.1), (5, .int x18), (4, .int s8.2.1), (3, .int s8.1), (0, .ref (ad a)), (1, va_re ad p0), (2, .int p1)] → W p l e (headSpec wuX8_readBoxes ({ frames := 1, cells := 0, slots := 0, locals := 25 })).room s m ([.ref (ad a), va_re ad p0, .int p1] : List Value).toArray below meth c H locs 0 0 (MQ below (va_Qi (fun (q : Int32) (_ : Unit) => q = y.2) (fun _ t => kE D ct ad G A y.1 t) A) ([.ref (ad a), va_re ad p0, .int p1] : List Value).toArray s 0 0 A) (F0 m 184 ls [.int y44, .int x27]) := by
                    intro H locs ls hP hD hS hl
                    obtain ⟨y45, hy45, hF⟩ := bnd_some hF
                    have J45 : ∀ (H : Heap) (locs : List Loc) (ls : Array Slot), va_P D classes (wld ct ad G y45.2.2) H → va_D A (wld ct ad G y45.2.2) → va_S A s.heap H locs → lv_has ls 10 [(9, .int y29), (8, .int x27), (6, .long y19.1), (5, .int x18), (4, .int y45.2.1), (3, .int y45.1), (0, .ref (ad a)), (1, va_re ad p0), (2, .int p1)] → W p l e (headSpec wuX8_readBoxes ({ frames := 1, cells := 0, slots := 0, locals := 25 })).room s m ([.ref (ad a), va_re ad p0, .int p1] : List Value).toArray below meth c H locs 0 0 (MQ below (va_Qi (fun (q : Int32) (_ : Unit) => q = y.2) (fun _ t => kE D ct ad G A y.1 t) A) ([.ref (ad a), va_re ad p0, .int p1] : List Value).toArray s 0 0 A) (F0 m 234 ls []) := by
                      intro H locs ls hP hD hS hl
                      obtain rfl := Option.some.inj hF
                      exact J40 _ _ _ hP hD hS (lv_sub hl [0, 1, 2, 3, 4, 5, 6, 7, 8] rfl)
                    clear hF
                    have hF := hy45
                    clear hy45
                    refine lv_icmp_ne (tgt := 226) hx hb dX8_readBoxes_184 (by decide) (fun c46 => ?_) (fun c46 => ?_)
                    · rw [if_neg c46] at hF
                      refine lv_iload hx hb dX8_readBoxes_226 (lv_at hl 4 rfl) ?_
                      refine lv_lload hx hb dX8_readBoxes_228 (lv_at hl 2 rfl) ?_
                      refine lv_l2i (v := y19.1.toInt32) hx hb dX8_readBoxes_230 rfl ?_
                      obtain ⟨x47, ex47, hF⟩ := ltt_some hF
                      refine lv_topi (fun zx47 ezx47 => ?_)
                      obtain rfl : x47 = zx47 := ex47.trans ezx47.symm
                      refine lv_iadd hx hb dX8_readBoxes_231 ?_
                      obtain ⟨x48, ex48, hF⟩ := ltt_some hF
                      refine lv_topi (fun zx48 ezx48 => ?_)
                      obtain rfl : x48 = zx48 := ex48.trans ezx48.symm
                      refine lv_istore (lv' := [(4, .int x48), (9, .int y29), (8, .int x27), (6, .long y19.1), (5, .int x18), (3, .int s8.1), (0, .ref (ad a)), (1, va_re ad p0), (2, .int p1)]) hx hb dX8_readBoxes_232 hl (by decide) rfl (fun ls hl => ?_)
                      obtain rfl := Option.some.inj hF
                      exact J45 _ _ _ hP hD hS (lv_sub hl [1, 2, 3, 4, 0, 5, 6, 7, 8] rfl)
                    · rw [if_pos c46] at hF
                      obtain ⟨x49, ex49, hF⟩ := ltt_some hF
                      refine lv_iinc (v := x49) (lv' := [(3, .int x49), (9, .int y29), (8, .int x27), (6, .long y19.1), (5, .int x18), (4, .int s8.2.1), (0, .ref (ad a)), (1, va_re ad p0), (2, .int p1)]) hx hb dX8_readBoxes_187 hl (k := 5) rfl (by rw [ex49]; rfl) (by decide) rfl (fun ls hl => ?_)
                      refine lv_aload_n hx hb dX8_readBoxes_190 rfl (lv_at hl 6 rfl) ?_
                      refine va_get (D := D) (ci := 8) (v := va_re ad (y35.2 a 13)) (C := RX8) (T := TX8) (N := 15) hx hb hts (mus hf_X8) hown hK hP a (wld_o ct ad G y35 hc hk (by decide)) rfl 13 (by decide) (hts (.fieldLink RX8 38 "VideoSuite$Units" "nest" "[I") (mu mw_232)) (fun _ h9 => h9) rfl dX8_readBoxes_191 ?_
                      refine lv_iconst (v := (2 : Int32)) hx hb dX8_readBoxes_194 (by decide) ?_
                      refine lv_iload_n hx hb dX8_readBoxes_195 rfl (lv_at hl 0 rfl) ?_
                      refine lv_imul hx hb dX8_readBoxes_196 ?_
                      obtain ⟨x50, ex50, hF⟩ := ltt_some hF
                      refine lv_topi (fun zx50 ezx50 => ?_)
                      obtain rfl : x50 = zx50 := ex50.trans ezx50.symm
                      refine lv_iload hx hb dX8_readBoxes_197 (lv_at hl 5 rfl) ?_
                      refine lv_lload hx hb dX8_readBoxes_199 (lv_at hl 3 rfl) ?_
                      refine lv_l2i (v := y19.1.toInt32) hx hb dX8_readBoxes_201 rfl ?_
                      obtain ⟨x51, ex51, hF⟩ := ltt_some hF
                      refine lv_topi (fun zx51 ezx51 => ?_)
                      obtain rfl : x51 = zx51 := ex51.trans ezx51.symm
                      refine lv_iadd hx hb dX8_readBoxes_202 ?_
                      obtain ⟨x52, ex52, hF⟩ := ltt_some hF
                      refine lv_topi (fun zx52 ezx52 => ?_)
                      obtain rfl : x52 = zx52 := ex52.trans ezx52.symm
                      obtain ⟨b53, ho53, hc53, hk53, hF⟩ := dr_some hF
                      refine W_st (st' := [.int x52, .int x50, .ref (ad b53)]) (by rw [va_some ho53]) ?_
                      obtain ⟨hvc, hF⟩ := chk_some hF
                      refine va_iast hx hb hK hP hD hS b53 1 (wld_i ct ad G y35 hc53 hk53) rfl hvc dX8_readBoxes_203 (fun H locs hP hD hS => ?_)
                      obtain ⟨M54, eM54, hF⟩ := ltt_some hF
                      rw [set_i ct ad G y35 hc53 hk53, ← eM54] at hP hD
                      refine lv_aload_n hx hb dX8_readBoxes_204 rfl (lv_at hl 6 rfl) ?_
                      refine va_get (D := D) (ci := 8) (v := va_re ad (M54.2 a 13)) (C := RX8) (T := TX8) (N := 15) hx hb hts (mus hf_X8) hown hK hP a (wld_o ct ad G M54 hc hk (by decide)) rfl 13 (by decide) (hts (.fieldLink RX8 38 "VideoSuite$Units" "nest" "[I") (mu mw_232)) (fun _ h9 => h9) rfl dX8_readBoxes_205 ?_
                      refine lv_iconst (v := (2 : Int32)) hx hb dX8_readBoxes_208 (by decide) ?_
                      refine lv_iload_n hx hb dX8_readBoxes_209 rfl (lv_at hl 0 rfl) ?_
                      refine lv_imul hx hb dX8_readBoxes_210 ?_
                      obtain ⟨x55, ex55, hF⟩ := ltt_some hF
                      refine lv_topi (fun zx55 ezx55 => ?_)
                      obtain rfl : x55 = zx55 := ex55.trans ezx55.symm
                      refine lv_iconst (v := (1 : Int32)) hx hb dX8_readBoxes_211 (by decide) ?_
                      refine lv_iadd hx hb dX8_readBoxes_212 ?_
                      obtain ⟨x56, ex56, hF⟩ := ltt_some hF
                      refine lv_topi (fun zx56 ezx56 => ?_)
                      obtain rfl : x56 = zx56 := ex56.trans ezx56.symm
                      refine lv_aload_n hx hb dX8_readBoxes_213 rfl (lv_at hl 6 rfl) ?_
                      refine va_get (D := D) (ci := 8) (v := .int (M54.1 a 11)) (C := RX8) (T := TX8) (N := 15) hx hb hts (mus hf_X8) hown hK hP a (wld_o ct ad G M54 hc hk (by decide)) rfl 11 (by decide) (hts (.fieldLink RX8 95 "VideoSuite$Units" "boxCount" "I") (mu mw_229)) (fun _ h9 => h9) rfl dX8_readBoxes_214 ?_
                      obtain ⟨x57, ex57, hF⟩ := ltt_some hF
                      refine lv_topi (fun zx57 ezx57 => ?_)
                      obtain rfl : x57 = zx57 := ex57.trans ezx57.symm
                      refine lv_iconst (v := (1 : Int32)) hx hb dX8_readBoxes_217 (by decide) ?_
                      refine lv_isub hx hb dX8_readBoxes_218 ?_
                      obtain ⟨x58, ex58, hF⟩ := ltt_some hF
                      refine lv_topi (fun zx58 ezx58 => ?_)
                      obtain rfl : x58 = zx58 := ex58.trans ezx58.symm
                      obtain ⟨b59, ho59, hc59, hk59, hF⟩ := dr_some hF
                      refine W_st (st' := [.int x58, .int x56, .ref (ad b59)]) (by rw [va_some ho59]) ?_
                      obtain ⟨hvc, hF⟩ := chk_some hF
                      refine va_iast hx hb hK hP hD hS b59 1 (wld_i ct ad G M54 hc59 hk59) rfl hvc dX8_readBoxes_219 (fun H locs hP hD hS => ?_)
                      obtain ⟨M60, eM60, hF⟩ := ltt_some hF
                      rw [set_i ct ad G M54 hc59 hk59, ← eM60] at hP hD
                      obtain ⟨x61, ex61, hF⟩ := ltt_some hF
                      refine lv_iinc (v := x61) (lv' := [(4, .int x61), (3, .int x49), (9, .int y29), (8, .int x27), (6, .long y19.1), (5, .int x18), (0, .ref (ad a)), (1, va_re ad p0), (2, .int p1)]) hx hb dX8_readBoxes_220 hl (k := 5) rfl (by rw [ex61]; rfl) (by decide) rfl (fun ls hl => ?_)
                      refine lv_goto (tgt := 234) hx hb dX8_readBoxes_223 (by decide) ?_
                      obtain rfl := Option.some.inj hF
                      exact J45 _ _ _ hP hD hS (lv_sub hl [2, 3, 4, 5, 0, 1, 6, 7, 8] rfl)
                  clear hF
                  have hF := hy44
                  clear hy44
                  refine lv_if_ne (tgt := 182) hx hb dX8_readBoxes_174 (by decide) (fun c62 => ?_) (fun c62 => ?_)
                  · rw [if_neg c62] at hF
                    refine lv_ldc (v := (1953653099 : Int32)) hx hb hown (hts (.constant RX8 87 (1953653099 : Int32)) (mu mw_2808)) dX8_readBoxes_182 ?_
                    obtain rfl := Option.some.inj hF
                    exact J44 _ _ _ hP hD hS (lv_sub hl [0, 1, 2, 3, 4, 5, 6, 7, 8] rfl)
                  · rw [if_pos c62] at hF
                    refine lv_ldc (v := (1836019574 : Int32)) hx hb hown (hts (.constant RX8 85 (1836019574 : Int32)) (mu mw_2806)) dX8_readBoxes_177 ?_
                    refine lv_goto (tgt := 184) hx hb dX8_readBoxes_179 (by decide) ?_
                    obtain rfl := Option.some.inj hF
                    exact J44 _ _ _ hP hD hS (lv_sub hl [0, 1, 2, 3, 4, 5, 6, 7, 8] rfl)
            clear hF
            have hF := hy29
            clear hy29
            refine lv_icmp_ge (tgt := 137) hx hb dX8_readBoxes_130 (by decide) (fun c63 => ?_) (fun c63 => ?_)
            · rw [if_pos c63] at hF
              refine lv_iconst (v := (0 : Int32)) hx hb dX8_readBoxes_137 (by decide) ?_
              obtain rfl := Option.some.inj hF
              exact J29 _ _ _ hP hD hS (lv_sub hl [0, 1, 2, 3, 4, 5, 6, 7] rfl)
            · rw [if_neg c63] at hF
              refine lv_iconst (v := (1 : Int32)) hx hb dX8_readBoxes_133 (by decide) ?_
              refine lv_goto (tgt := 138) hx hb dX8_readBoxes_134 (by decide) ?_
              obtain rfl := Option.some.inj hF
              exact J29 _ _ _ hP hD hS (lv_sub hl [0, 1, 2, 3, 4, 5, 6, 7] rfl)
          · rw [if_neg c24] at hF
            refine lv_iconst (v := (0 : Int32)) hx hb dX8_readBoxes_111 (by decide) ?_
            obtain ⟨hz9, hF⟩ := chk_some hF
            obtain rfl := Option.some.inj hF
            have hF := sel_inr (hwz10 ▸ hR7)
            obtain rfl := Option.some.inj hF
            exact W.zret (v := (0 : Int32)) (ty := .boolean) hx hb hr (nar_z hz9).1 (fun t ht hW => ⟨⟨_, (), rfl, rfl, ⟨by rw [ht]; exact hP, va_K.moved hW.alike hK, hD⟩⟩, hS.F ht⟩) hS.2.2 dX8_readBoxes_112
      clear hF
      have hF := hy19
      clear hy19
      refine lv_icmp_ge (tgt := 85) hx hb dX8_readBoxes_78 (by decide) (fun c64 => ?_) (fun c64 => ?_)
      · rw [if_pos c64] at hF
        refine lv_aloadq_n hx hb dX8_readBoxes_85 rfl (lv_at hl 4 rfl) ?_
        refine lv_iload hx hb dX8_readBoxes_86 (lv_at hl 1 rfl) ?_
        obtain ⟨y65, hy65, hF⟩ := bnd_some hF
        have hf9 := wA_in hD hA9 hS
        refine va_calll (va_runS (As := [va_re ad p0, .int s8.2.1]) (rest := []) ⟨hx, hb, hml, hown, hts⟩ (kX8_number4 l D ct ad Z G s8.2.2 H.size p0 s8.2.1 y65 hy65) (va_cwS 2 hts gX8_readBoxes_X8_number4 rfl rfl rfl (by decide +kernel) ⟨Nat.le_of_ble_eq_true rfl, Nat.le_of_ble_eq_true rfl⟩) ⟨fun a U g mk q => by obtain ⟨q0, q1, qP, qK, qD, qZ, qN⟩ := q; exact ⟨q0, q1, qP, va_K.moved (u := U) (U := U.calling g mk a) (Vm.Alike.refl U.vm) qK, qD, sF.moved (u := U) (U := U.calling g mk a) (Vm.Alike.refl U.vm) qZ, nF.same rfl qN⟩, fun U hU hW => ⟨rfl, by rw [hU], by rw [hU]; exact hP, va_K.moved hW.alike hK, hD.weaken (fun _ _ _ _ => trivial), by rw [hU]; exact ((hZ.kept hS.2.1).narrow hf9).moved hW.alike, hN.warm hW⟩⟩ rfl rfl hl.1 rfl (lv_room (Nat.le_of_ble_eq_true rfl)) dX8_readBoxes_88 ⟨(Nat.zero_le _), (Nat.zero_le _)⟩) hS (fun q _ h => hf9 q h) hf9 (fun r u t H locs ht hvm hw hB hz1 hk1 hS => ?_)
        obtain ⟨hP, hK9, hD9⟩ := hB
        rw [ht] at hP
        try dsimp only at hw
        subst hw
        have hD := hD9.weaken (fun _ q _ h => hf9 q.1 h)
        obtain rfl := Option.some.inj hF
        exact J19 _ _ _ hP hD hS (lv_sub hl [0, 1, 2, 3, 4, 5] rfl)
      · rw [if_neg c64] at hF
        refine lv_lconst (v := (0 : Int64)) hx hb dX8_readBoxes_81 rfl ?_
        refine lv_goto (tgt := 91) hx hb dX8_readBoxes_82 (by decide) ?_
        obtain rfl := Option.some.inj hF
        exact J19 _ _ _ hP hD hS (lv_sub hl [0, 1, 2, 3, 4, 5] rfl)
    · rw [if_pos c15] at hF
      refine lv_iload_n hx hb dX8_readBoxes_51 rfl (lv_at hl 1 rfl) ?_
      refine lv_if_le (tgt := 61) hx hb dX8_readBoxes_52 (by decide) (fun c66 => ?_) (fun c66 => ?_)
      · rw [if_pos c66] at hF
        refine lv_aload_n hx hb dX8_readBoxes_61 rfl (lv_at hl 2 rfl) ?_
        refine va_get (D := D) (ci := 8) (v := va_re ad (s8.2.2.2 a 13)) (C := RX8) (T := TX8) (N := 15) hx hb hts (mus hf_X8) hown hK hP a (wld_o ct ad G s8.2.2 hc hk (by decide)) rfl 13 (by decide) (hts (.fieldLink RX8 38 "VideoSuite$Units" "nest" "[I") (mu mw_232)) (fun _ h9 => h9) rfl dX8_readBoxes_62 ?_
        refine lv_iconst (v := (2 : Int32)) hx hb dX8_readBoxes_65 (by decide) ?_
        refine lv_iload_n hx hb dX8_readBoxes_66 rfl (lv_at hl 1 rfl) ?_
        refine lv_imul hx hb dX8_readBoxes_67 ?_
        obtain ⟨x67, ex67, hF⟩ := ltt_some hF
        refine lv_topi (fun zx67 ezx67 => ?_)
        obtain rfl : x67 = zx67 := ex67.trans ezx67.symm
        refine W_st (st' := [.int x67, .ref (ad b13)]) (by rw [va_some ho13]) ?_
        obtain ⟨hvc, hF⟩ := chk_some hF
        refine va_iald hx hb hK hP b13 1 (wld_i ct ad G s8.2.2 hc13 hk13) rfl hvc dX8_readBoxes_68 ?_
        obtain ⟨x68, ex68, hF⟩ := ltt_some hF
        refine lv_topi (fun zx68 ezx68 => ?_)
        obtain rfl : x68 = zx68 := ex68.trans ezx68.symm
        refine lv_iload hx hb dX8_readBoxes_69 (lv_at hl 0 rfl) ?_
        refine lv_isub hx hb dX8_readBoxes_71 ?_
        obtain ⟨x69, ex69, hF⟩ := ltt_some hF
        refine lv_topi (fun zx69 ezx69 => ?_)
        obtain rfl : x69 = zx69 := ex69.trans ezx69.symm
        refine lv_istore (lv' := [(5, .int x69), (4, .int s8.2.1), (3, .int s8.1), (0, .ref (ad a)), (1, va_re ad p0), (2, .int p1)]) hx hb dX8_readBoxes_72 hl (by decide) rfl (fun ls hl => ?_)
        refine lv_iload hx hb dX8_readBoxes_74 (lv_at hl 0 rfl) ?_
        refine lv_bipush (v := (8 : Int32)) hx hb dX8_readBoxes_76 (by decide) ?_
        obtain ⟨y70, hy70, hF⟩ := bnd_some hF
        have J70 : ∀ (H : Heap) (locs : List Loc) (ls : Array Slot), va_P D classes (wld ct ad G y70.2) H → va_D A (wld ct ad G y70.2) → va_S A s.heap H locs → lv_has ls 10 [(5, .int x69), (4, .int s8.2.1), (3, .int s8.1), (0, .ref (ad a)), (1, va_re ad p0), (2, .int p1)] → W p l e (headSpec wuX8_readBoxes ({ frames := 1, cells := 0, slots := 0, locals := 25 })).room s m ([.ref (ad a), va_re ad p0, .int p1] : List Value).toArray below meth c H locs 0 0 (MQ below (va_Qi (fun (q : Int32) (_ : Unit) => q = y.2) (fun _ t => kE D ct ad G A y.1 t) A) ([.ref (ad a), va_re ad p0, .int p1] : List Value).toArray s 0 0 A) (F0 m 91 ls [.long y70.1]) := by
          intro H locs ls hP hD hS hl
          refine lv_lstore (lv' := [(6, .long y70.1), (5, .int x69), (4, .int s8.2.1), (3, .int s8.1), (0, .ref (ad a)), (1, va_re ad p0), (2, .int p1)]) hx hb dX8_readBoxes_91 hl (by decide) rfl (fun ls hl => ?_)
          refine lv_lload hx hb dX8_readBoxes_93 (lv_at hl 0 rfl) ?_
          refine lv_ldc2 (v := (8 : Int64)) hx hb hown (hts (.constantLong RX8 108 (8 : Int64)) (mu mw_2831)) dX8_readBoxes_95 ?_
          refine W.lcmp hx hb dX8_readBoxes_98 ?_
          obtain ⟨x71, ex71, hF⟩ := ltt_some hF
          refine lv_topi (fun zx71 ezx71 => ?_)
          obtain rfl : x71 = zx71 := ex71.trans ezx71.symm
          refine lv_if_lt (tgt := 111) hx hb dX8_readBoxes_99 (by decide) (fun c72 => ?_) (fun c72 => ?_)
          · rw [if_pos c72] at hF
            refine lv_iconst (v := (0 : Int32)) hx hb dX8_readBoxes_111 (by decide) ?_
            obtain ⟨hz9, hF⟩ := chk_some hF
            obtain rfl := Option.some.inj hF
            have hF := sel_inr (hwz10 ▸ hR7)
            obtain rfl := Option.some.inj hF
            exact W.zret (v := (0 : Int32)) (ty := .boolean) hx hb hr (nar_z hz9).1 (fun t ht hW => ⟨⟨_, (), rfl, rfl, ⟨by rw [ht]; exact hP, va_K.moved hW.alike hK, hD⟩⟩, hS.F ht⟩) hS.2.2 dX8_readBoxes_112
          · rw [if_neg c72] at hF
            refine lv_lload hx hb dX8_readBoxes_102 (lv_at hl 0 rfl) ?_
            refine lv_iload hx hb dX8_readBoxes_104 (lv_at hl 1 rfl) ?_
            refine lv_i2l (v := x69.toInt64) hx hb dX8_readBoxes_106 rfl ?_
            obtain ⟨x73, ex73, hF⟩ := ltt_some hF
            refine lv_topl (fun zx73 ezx73 => ?_)
            obtain rfl : x73 = zx73 := ex73.trans ezx73.symm
            refine W.lcmp hx hb dX8_readBoxes_107 ?_
            obtain ⟨x74, ex74, hF⟩ := ltt_some hF
            refine lv_topi (fun zx74 ezx74 => ?_)
            obtain rfl : x74 = zx74 := ex74.trans ezx74.symm
            refine lv_if_le (tgt := 113) hx hb dX8_readBoxes_108 (by decide) (fun c75 => ?_) (fun c75 => ?_)
            · rw [if_pos c75] at hF
              refine lv_aloadq_n hx hb dX8_readBoxes_113 rfl (lv_at hl 5 rfl) ?_
              refine lv_iload hx hb dX8_readBoxes_114 (lv_at hl 2 rfl) ?_
              refine lv_iconst (v := (4 : Int32)) hx hb dX8_readBoxes_116 (by decide) ?_
              refine lv_iadd hx hb dX8_readBoxes_117 ?_
              obtain ⟨x76, ex76, hF⟩ := ltt_some hF
              refine lv_topi (fun zx76 ezx76 => ?_)
              obtain rfl : x76 = zx76 := ex76.trans ezx76.symm
              obtain ⟨y77, hy77, hF⟩ := bnd_some hF
              have hf9 := wA_in hD hA9 hS
              refine va_calll (va_runS (As := [va_re ad p0, .int x76]) (rest := []) ⟨hx, hb, hml, hown, hts⟩ (kX8_number4 l D ct ad Z G y70.2 H.size p0 x76 y77 hy77) (va_cwS 2 hts gX8_readBoxes_X8_number4 rfl rfl rfl (by decide +kernel) ⟨Nat.le_of_ble_eq_true rfl, Nat.le_of_ble_eq_true rfl⟩) ⟨fun a U g mk q => by obtain ⟨q0, q1, qP, qK, qD, qZ, qN⟩ := q; exact ⟨q0, q1, qP, va_K.moved (u := U) (U := U.calling g mk a) (Vm.Alike.refl U.vm) qK, qD, sF.moved (u := U) (U := U.calling g mk a) (Vm.Alike.refl U.vm) qZ, nF.same rfl qN⟩, fun U hU hW => ⟨rfl, by rw [hU], by rw [hU]; exact hP, va_K.moved hW.alike hK, hD.weaken (fun _ _ _ _ => trivial), by rw [hU]; exact ((hZ.kept hS.2.1).narrow hf9).moved hW.alike, hN.warm hW⟩⟩ rfl rfl hl.1 rfl (lv_room (Nat.le_of_ble_eq_true rfl)) dX8_readBoxes_118 ⟨(Nat.zero_le _), (Nat.zero_le _)⟩) hS (fun q _ h => hf9 q h) hf9 (fun r u t H locs ht hvm hw hB hz1 hk1 hS => ?_)
              obtain ⟨hP, hK9, hD9⟩ := hB
              rw [ht] at hP
              try dsimp only at hw
              subst hw
              have hD := hD9.weaken (fun _ q _ h => hf9 q.1 h)
              refine lv_l2i (v := y77.2.toInt32) hx hb dX8_readBoxes_121 rfl ?_
              obtain ⟨x78, ex78, hF⟩ := ltt_some hF
              refine lv_topi (fun zx78 ezx78 => ?_)
              obtain rfl : x78 = zx78 := ex78.trans ezx78.symm
              refine lv_istore (lv' := [(8, .int x78), (6, .long y70.1), (5, .int x69), (4, .int s8.2.1), (3, .int s8.1), (0, .ref (ad a)), (1, va_re ad p0), (2, .int p1)]) hx hb dX8_readBoxes_122 hl (by decide) rfl (fun ls hl => ?_)
              refine lv_aload_n hx hb dX8_readBoxes_124 rfl (lv_at hl 5 rfl) ?_
              refine va_get (D := D) (ci := 8) (v := .int (y77.1.1 a 11)) (C := RX8) (T := TX8) (N := 15) hx hb hts (mus hf_X8) hown hK hP a (wld_o ct ad G y77.1 hc hk (by decide)) rfl 11 (by decide) (hts (.fieldLink RX8 95 "VideoSuite$Units" "boxCount" "I") (mu mw_229)) (fun _ h9 => h9) rfl dX8_readBoxes_125 ?_
              obtain ⟨x79, ex79, hF⟩ := ltt_some hF
              refine lv_topi (fun zx79 ezx79 => ?_)
              obtain rfl : x79 = zx79 := ex79.trans ezx79.symm
              refine lv_bipush (v := (60 : Int32)) hx hb dX8_readBoxes_128 (by decide) ?_
              obtain ⟨y80, hy80, hF⟩ := bnd_some hF
              have J80 : ∀ (H : Heap) (locs : List Loc) (ls : Array Slot), va_P D classes (wld ct ad G y77.1) H → va_D A (wld ct ad G y77.1) → va_S A s.heap H locs → lv_has ls 10 [(8, .int x78), (6, .long y70.1), (5, .int x69), (4, .int s8.2.1), (3, .int s8.1), (0, .ref (ad a)), (1, va_re ad p0), (2, .int p1)] → W p l e (headSpec wuX8_readBoxes ({ frames := 1, cells := 0, slots := 0, locals := 25 })).room s m ([.ref (ad a), va_re ad p0, .int p1] : List Value).toArray below meth c H locs 0 0 (MQ below (va_Qi (fun (q : Int32) (_ : Unit) => q = y.2) (fun _ t => kE D ct ad G A y.1 t) A) ([.ref (ad a), va_re ad p0, .int p1] : List Value).toArray s 0 0 A) (F0 m 138 ls [.int y80]) := by
                intro H locs ls hP hD hS hl
                refine lv_istore (lv' := [(9, .int y80), (8, .int x78), (6, .long y70.1), (5, .int x69), (4, .int s8.2.1), (3, .int s8.1), (0, .ref (ad a)), (1, va_re ad p0), (2, .int p1)]) hx hb dX8_readBoxes_138 hl (by decide) rfl (fun ls hl => ?_)
                refine lv_aload_n hx hb dX8_readBoxes_140 rfl (lv_at hl 6 rfl) ?_
                refine lv_iload hx hb dX8_readBoxes_141 (lv_at hl 1 rfl) ?_
                refine lv_iload hx hb dX8_readBoxes_143 (lv_at hl 4 rfl) ?_
                refine lv_lload hx hb dX8_readBoxes_145 (lv_at hl 2 rfl) ?_
                refine lv_l2i (v := y70.1.toInt32) hx hb dX8_readBoxes_147 rfl ?_
                obtain ⟨x81, ex81, hF⟩ := ltt_some hF
                refine lv_topi (fun zx81 ezx81 => ?_)
                obtain rfl : x81 = zx81 := ex81.trans ezx81.symm
                refine lv_aload_n hx hb dX8_readBoxes_148 rfl (lv_at hl 6 rfl) ?_
                refine va_get (D := D) (ci := 8) (v := va_re ad (y77.1.2 a 13)) (C := RX8) (T := TX8) (N := 15) hx hb hts (mus hf_X8) hown hK hP a (wld_o ct ad G y77.1 hc hk (by decide)) rfl 13 (by decide) (hts (.fieldLink RX8 38 "VideoSuite$Units" "nest" "[I") (mu mw_232)) (fun _ h9 => h9) rfl dX8_readBoxes_149 ?_
                refine lv_iconst (v := (2 : Int32)) hx hb dX8_readBoxes_152 (by decide) ?_
                refine lv_iload_n hx hb dX8_readBoxes_153 rfl (lv_at hl 5 rfl) ?_
                refine lv_imul hx hb dX8_readBoxes_154 ?_
                obtain ⟨x82, ex82, hF⟩ := ltt_some hF
                refine lv_topi (fun zx82 ezx82 => ?_)
                obtain rfl : x82 = zx82 := ex82.trans ezx82.symm
                refine lv_iconst (v := (1 : Int32)) hx hb dX8_readBoxes_155 (by decide) ?_
                refine lv_iadd hx hb dX8_readBoxes_156 ?_
                obtain ⟨x83, ex83, hF⟩ := ltt_some hF
                refine lv_topi (fun zx83 ezx83 => ?_)
                obtain rfl : x83 = zx83 := ex83.trans ezx83.symm
                obtain ⟨b84, ho84, hc84, hk84, hF⟩ := dr_some hF
                refine W_st (st' := [.int x83, .ref (ad b84), .int x81, .int s8.2.1, .int x78, .ref (ad a)]) (by rw [va_some ho84]) ?_
                obtain ⟨hvc, hF⟩ := chk_some hF
                refine va_iald hx hb hK hP b84 1 (wld_i ct ad G y77.1 hc84 hk84) rfl hvc dX8_readBoxes_157 ?_
                obtain ⟨x85, ex85, hF⟩ := ltt_some hF
                refine lv_topi (fun zx85 ezx85 => ?_)
                obtain rfl : x85 = zx85 := ex85.trans ezx85.symm
                obtain ⟨y86, hy86, hF⟩ := bnd_some hF
                have hf9 := wA_in hD hA9 hS
                refine va_callv (va_runV (As := [.int x78, .int s8.2.1, .int x81, .int x85]) (rest := []) ⟨hx, hb, hml, hown, hts⟩ (kX8_noteBox l D ct ad Z G y77.1 H.size a x78 s8.2.1 x81 x85 y86 hc hk hy86) (cwV 4 hts gX8_readBoxes_X8_noteBox rfl rfl rfl (by decide +kernel) ⟨Nat.le_of_ble_eq_true rfl, Nat.le_of_ble_eq_true rfl⟩) ⟨fun a U g mk q => by obtain ⟨q0, q1, qP, qK, qD, qZ, qN⟩ := q; exact ⟨q0, q1, qP, va_K.moved (u := U) (U := U.calling g mk a) (Vm.Alike.refl U.vm) qK, qD, sF.moved (u := U) (U := U.calling g mk a) (Vm.Alike.refl U.vm) qZ, nF.same rfl qN⟩, va_recv hK hP (ci := 8) (q0 := a) rfl (wld_o ct ad G y77.1 hc hk (by decide)), fun U hU hW => ⟨rfl, by rw [hU], by rw [hU]; exact hP, va_K.moved hW.alike hK, hD.weaken (fun _ _ _ _ => trivial), by rw [hU]; exact ((hZ.kept hS.2.1).narrow hf9).moved hW.alike, hN.warm hW⟩⟩ rfl rfl hl.1 rfl (lv_room (Nat.le_of_ble_eq_true rfl)) dX8_readBoxes_158 ⟨(Nat.zero_le _), (Nat.zero_le _)⟩) hS (fun q _ h => hf9 q h) hf9 (fun u t H locs ht hvm hw hB hz1 hk1 hS => ?_)
                obtain ⟨hP, hK9, hD9⟩ := hB
                rw [ht] at hP
                have hD := hD9.weaken (fun _ q _ h => hf9 q.1 h)
                refine lv_iload hx hb dX8_readBoxes_161 (lv_at hl 0 rfl) ?_
                obtain ⟨y87, hy87, hF⟩ := bnd_some hF
                have J87 : ∀ (H : Heap) (locs : List Loc) (ls : Array Slot), va_P D classes (wld ct ad G y87.2.2) H → va_D A (wld ct ad G y87.2.2) → va_S A s.heap H locs → lv_has ls 10 [(9, .int y80), (8, .int x78), (6, .long y70.1), (5, .int x69), (4, .int y87.2.1), (3, .int y87.1), (0, .ref (ad a)), (1, va_re ad p0), (2, .int p1)] → W p l e (headSpec wuX8_readBoxes ({ frames := 1, cells := 0, slots := 0, locals := 25 })).room s m ([.ref (ad a), va_re ad p0, .int p1] : List Value).toArray below meth c H locs 0 0 (MQ below (va_Qi (fun (q : Int32) (_ : Unit) => q = y.2) (fun _ t => kE D ct ad G A y.1 t) A) ([.ref (ad a), va_re ad p0, .int p1] : List Value).toArray s 0 0 A) (F0 m 234 ls []) := by
                  intro H locs ls hP hD hS hl
                  refine lv_goto (tgt := 32) hx hb dX8_readBoxes_234 (by decide) ?_
                  obtain rfl := Option.some.inj hF
                  exact hwz10 _ _ _ hP hD hS (lv_sub hl [4, 5, 6, 7, 8] rfl)
                clear hF
                have hF := hy87
                clear hy87
                refine lv_if_eq (tgt := 226) hx hb dX8_readBoxes_163 (by decide) (fun c88 => ?_) (fun c88 => ?_)
                · rw [if_pos c88] at hF
                  refine lv_iload hx hb dX8_readBoxes_226 (lv_at hl 4 rfl) ?_
                  refine lv_lload hx hb dX8_readBoxes_228 (lv_at hl 2 rfl) ?_
                  refine lv_l2i (v := y70.1.toInt32) hx hb dX8_readBoxes_230 rfl ?_
                  obtain ⟨x89, ex89, hF⟩ := ltt_some hF
                  refine lv_topi (fun zx89 ezx89 => ?_)
                  obtain rfl : x89 = zx89 := ex89.trans ezx89.symm
                  refine lv_iadd hx hb dX8_readBoxes_231 ?_
                  obtain ⟨x90, ex90, hF⟩ := ltt_some hF
                  refine lv_topi (fun zx90 ezx90 => ?_)
                  obtain rfl : x90 = zx90 := ex90.trans ezx90.symm
                  refine lv_istore (lv' := [(4, .int x90), (9, .int y80), (8, .int x78), (6, .long y70.1), (5, .int x69), (3, .int s8.1), (0, .ref (ad a)), (1, va_re ad p0), (2, .int p1)]) hx hb dX8_readBoxes_232 hl (by decide) rfl (fun ls hl => ?_)
                  obtain rfl := Option.some.inj hF
                  exact J87 _ _ _ hP hD hS (lv_sub hl [1, 2, 3, 4, 0, 5, 6, 7, 8] rfl)
                · rw [if_neg c88] at hF
                  refine lv_iload_n hx hb dX8_readBoxes_166 rfl (lv_at hl 5 rfl) ?_
                  refine lv_iconst (v := (2 : Int32)) hx hb dX8_readBoxes_167 (by decide) ?_
                  obtain ⟨y91, hy91, hF⟩ := bnd_some hF
                  have J91 : ∀ (H : Heap) (locs : List Loc) (ls : Array Slot), va_P D classes (wld ct ad G y91.2.2) H → va_D A (wld ct ad G y91.2.2) → va_S A s.heap H locs → lv_has ls 10 [(9, .int y80), (8, .int x78), (6, .long y70.1), (5, .int x69), (4, .int y91.2.1), (3, .int y91.1), (0, .ref (ad a)), (1, va_re ad p0), (2, .int p1)] → W p l e (headSpec wuX8_readBoxes ({ frames := 1, cells := 0, slots := 0, locals := 25 })).room s m ([.ref (ad a), va_re ad p0, .int p1] : List Value).toArray below meth c H locs 0 0 (MQ below (va_Qi (fun (q : Int32) (_ : Unit) => q = y.2) (fun _ t => kE D ct ad G A y.1 t) A) ([.ref (ad a), va_re ad p0, .int p1] : List Value).toArray s 0 0 A) (F0 m 234 ls []) := by
                    intro H locs ls hP hD hS hl
                    obtain rfl := Option.some.inj hF
                    exact J87 _ _ _ hP hD hS (lv_sub hl [0, 1, 2, 3, 4, 5, 6, 7, 8] rfl)
                  clear hF
                  have hF := hy91
                  clear hy91
                  refine lv_icmp_ge (tgt := 226) hx hb dX8_readBoxes_168 (by decide) (fun c92 => ?_) (fun c92 => ?_)
                  · rw [if_pos c92] at hF
                    refine lv_iload hx hb dX8_readBoxes_226 (lv_at hl 4 rfl) ?_
                    refine lv_lload hx hb dX8_readBoxes_228 (lv_at hl 2 rfl) ?_
                    refine lv_l2i (v := y70.1.toInt32) hx hb dX8_readBoxes_230 rfl ?_
                    obtain ⟨x93, ex93, hF⟩ := ltt_some hF
                    refine lv_topi (fun zx93 ezx93 => ?_)
                    obtain rfl : x93 = zx93 := ex93.trans ezx93.symm
                    refine lv_iadd hx hb dX8_readBoxes_231 ?_
                    obtain ⟨x94, ex94, hF⟩ := ltt_some hF
                    refine lv_topi (fun zx94 ezx94 => ?_)
                    obtain rfl : x94 = zx94 := ex94.trans ezx94.symm
                    refine lv_istore (lv' := [(4, .int x94), (9, .int y80), (8, .int x78), (6, .long y70.1), (5, .int x69), (3, .int s8.1), (0, .ref (ad a)), (1, va_re ad p0), (2, .int p1)]) hx hb dX8_readBoxes_232 hl (by decide) rfl (fun ls hl => ?_)
                    obtain rfl := Option.some.inj hF
                    exact J91 _ _ _ hP hD hS (lv_sub hl [1, 2, 3, 4, 0, 5, 6, 7, 8] rfl)
                  · rw [if_neg c92] at hF
                    refine lv_iload hx hb dX8_readBoxes_171 (lv_at hl 1 rfl) ?_
                    refine lv_iload_n hx hb dX8_readBoxes_173 rfl (lv_at hl 5 rfl) ?_
                    obtain ⟨y95, hy95, hF⟩ := bnd_some hF
                    have J95 : ∀ (H : Heap) (locs : List Loc) (ls : Array Slot), va_P D classes (wld ct ad G y86) H → va_D A (wld ct ad G y86) → va_S A s.heap H locs → lv_has ls 10 [(9, .int y80), (8, .int x78), (6, .long y70.1), (5, .int x69), (4, .int s8.2.1), (3, .int s8.1), (0, .ref (ad a)), (1, va_re ad p0), (2, .int p1)] → W p l e (headSpec wuX8_readBoxes ({ frames := 1, cells := 0, slots := 0, locals := 25 })).room s m ([.ref (ad a), va_re ad p0, .int p1] : List Value).toArray below meth c H locs 0 0 (MQ below (va_Qi (fun (q : Int32) (_ : Unit) => q = y.2) (fun _ t => kE D ct ad G A y.1 t) A) ([.ref (ad a), va_re ad p0, .int p1] : List Value).toArray s 0 0 A) (F0 m 184 ls [.int y95, .int x78]) := by
                      intro H locs ls hP hD hS hl
                      obtain ⟨y96, hy96, hF⟩ := bnd_some hF
                      have J96 : ∀ (H : Heap) (locs : List Loc) (ls : Array Slot), va_P D classes (wld ct ad G y96.2.2) H → va_D A (wld ct ad G y96.2.2) → va_S A s.heap H locs → lv_has ls 10 [(9, .int y80), (8, .int x78), (6, .long y70.1), (5, .int x69), (4, .int y96.2.1), (3, .int y96.1), (0, .ref (ad a)), (1, va_re ad p0), (2, .int p1)] → W p l e (headSpec wuX8_readBoxes ({ frames := 1, cells := 0, slots := 0, locals := 25 })).room s m ([.ref (ad a), va_re ad p0, .int p1] : List Value).toArray below meth c H locs 0 0 (MQ below (va_Qi (fun (q : Int32) (_ : Unit) => q = y.2) (fun _ t => kE D ct ad G A y.1 t) A) ([.ref (ad a), va_re ad p0, .int p1] : List Value).toArray s 0 0 A) (F0 m 234 ls []) := by
                        intro H locs ls hP hD hS hl
                        obtain rfl := Option.some.inj hF
                        exact J91 _ _ _ hP hD hS (lv_sub hl [0, 1, 2, 3, 4, 5, 6, 7, 8] rfl)
                      clear hF
                      have hF := hy96
                      clear hy96
                      refine lv_icmp_ne (tgt := 226) hx hb dX8_readBoxes_184 (by decide) (fun c97 => ?_) (fun c97 => ?_)
                      · rw [if_neg c97] at hF
                        refine lv_iload hx hb dX8_readBoxes_226 (lv_at hl 4 rfl) ?_
                        refine lv_lload hx hb dX8_readBoxes_228 (lv_at hl 2 rfl) ?_
                        refine lv_l2i (v := y70.1.toInt32) hx hb dX8_readBoxes_230 rfl ?_
                        obtain ⟨x98, ex98, hF⟩ := ltt_some hF
                        refine lv_topi (fun zx98 ezx98 => ?_)
                        obtain rfl : x98 = zx98 := ex98.trans ezx98.symm
                        refine lv_iadd hx hb dX8_readBoxes_231 ?_
                        obtain ⟨x99, ex99, hF⟩ := ltt_some hF
                        refine lv_topi (fun zx99 ezx99 => ?_)
                        obtain rfl : x99 = zx99 := ex99.trans ezx99.symm
                        refine lv_istore (lv' := [(4, .int x99), (9, .int y80), (8, .int x78), (6, .long y70.1), (5, .int x69), (3, .int s8.1), (0, .ref (ad a)), (1, va_re ad p0), (2, .int p1)]) hx hb dX8_readBoxes_232 hl (by decide) rfl (fun ls hl => ?_)
                        obtain rfl := Option.some.inj hF
                        exact J96 _ _ _ hP hD hS (lv_sub hl [1, 2, 3, 4, 0, 5, 6, 7, 8] rfl)
                      · rw [if_pos c97] at hF
                        obtain ⟨x100, ex100, hF⟩ := ltt_some hF
                        refine lv_iinc (v := x100) (lv' := [(3, .int x100), (9, .int y80), (8, .int x78), (6, .long y70.1), (5, .int x69), (4, .int s8.2.1), (0, .ref (ad a)), (1, va_re ad p0), (2, .int p1)]) hx hb dX8_readBoxes_187 hl (k := 5) rfl (by rw [ex100]; rfl) (by decide) rfl (fun ls hl => ?_)
                        refine lv_aload_n hx hb dX8_readBoxes_190 rfl (lv_at hl 6 rfl) ?_
                        refine va_get (D := D) (ci := 8) (v := va_re ad (y86.2 a 13)) (C := RX8) (T := TX8) (N := 15) hx hb hts (mus hf_X8) hown hK hP a (wld_o ct ad G y86 hc hk (by decide)) rfl 13 (by decide) (hts (.fieldLink RX8 38 "VideoSuite$Units" "nest" "[I") (mu mw_232)) (fun _ h9 => h9) rfl dX8_readBoxes_191 ?_
                        refine lv_iconst (v := (2 : Int32)) hx hb dX8_readBoxes_194 (by decide) ?_
                        refine lv_iload_n hx hb dX8_readBoxes_195 rfl (lv_at hl 0 rfl) ?_
                        refine lv_imul hx hb dX8_readBoxes_196 ?_
                        obtain ⟨x101, ex101, hF⟩ := ltt_some hF
                        refine lv_topi (fun zx101 ezx101 => ?_)
                        obtain rfl : x101 = zx101 := ex101.trans ezx101.symm
                        refine lv_iload hx hb dX8_readBoxes_197 (lv_at hl 5 rfl) ?_
                        refine lv_lload hx hb dX8_readBoxes_199 (lv_at hl 3 rfl) ?_
                        refine lv_l2i (v := y70.1.toInt32) hx hb dX8_readBoxes_201 rfl ?_
                        obtain ⟨x102, ex102, hF⟩ := ltt_some hF
                        refine lv_topi (fun zx102 ezx102 => ?_)
                        obtain rfl : x102 = zx102 := ex102.trans ezx102.symm
                        refine lv_iadd hx hb dX8_readBoxes_202 ?_
                        obtain ⟨x103, ex103, hF⟩ := ltt_some hF
                        refine lv_topi (fun zx103 ezx103 => ?_)
                        obtain rfl : x103 = zx103 := ex103.trans ezx103.symm
                        obtain ⟨b104, ho104, hc104, hk104, hF⟩ := dr_some hF
                        refine W_st (st' := [.int x103, .int x101, .ref (ad b104)]) (by rw [va_some ho104]) ?_
                        obtain ⟨hvc, hF⟩ := chk_some hF
                        refine va_iast hx hb hK hP hD hS b104 1 (wld_i ct ad G y86 hc104 hk104) rfl hvc dX8_readBoxes_203 (fun H locs hP hD hS => ?_)
                        obtain ⟨M105, eM105, hF⟩ := ltt_some hF
                        rw [set_i ct ad G y86 hc104 hk104, ← eM105] at hP hD
                        refine lv_aload_n hx hb dX8_readBoxes_204 rfl (lv_at hl 6 rfl) ?_
                        refine va_get (D := D) (ci := 8) (v := va_re ad (M105.2 a 13)) (C := RX8) (T := TX8) (N := 15) hx hb hts (mus hf_X8) hown hK hP a (wld_o ct ad G M105 hc hk (by decide)) rfl 13 (by decide) (hts (.fieldLink RX8 38 "VideoSuite$Units" "nest" "[I") (mu mw_232)) (fun _ h9 => h9) rfl dX8_readBoxes_205 ?_
                        refine lv_iconst (v := (2 : Int32)) hx hb dX8_readBoxes_208 (by decide) ?_
                        refine lv_iload_n hx hb dX8_readBoxes_209 rfl (lv_at hl 0 rfl) ?_
                        refine lv_imul hx hb dX8_readBoxes_210 ?_
                        obtain ⟨x106, ex106, hF⟩ := ltt_some hF
                        refine lv_topi (fun zx106 ezx106 => ?_)
                        obtain rfl : x106 = zx106 := ex106.trans ezx106.symm
                        refine lv_iconst (v := (1 : Int32)) hx hb dX8_readBoxes_211 (by decide) ?_
                        refine lv_iadd hx hb dX8_readBoxes_212 ?_
                        obtain ⟨x107, ex107, hF⟩ := ltt_some hF
                        refine lv_topi (fun zx107 ezx107 => ?_)
                        obtain rfl : x107 = zx107 := ex107.trans ezx107.symm
                        refine lv_aload_n hx hb dX8_readBoxes_213 rfl (lv_at hl 6 rfl) ?_
                        refine va_get (D := D) (ci := 8) (v := .int (M105.1 a 11)) (C := RX8) (T := TX8) (N := 15) hx hb hts (mus hf_X8) hown hK hP a (wld_o ct ad G M105 hc hk (by decide)) rfl 11 (by decide) (hts (.fieldLink RX8 95 "VideoSuite$Units" "boxCount" "I") (mu mw_229)) (fun _ h9 => h9) rfl dX8_readBoxes_214 ?_
                        obtain ⟨x108, ex108, hF⟩ := ltt_some hF
                        refine lv_topi (fun zx108 ezx108 => ?_)
                        obtain rfl : x108 = zx108 := ex108.trans ezx108.symm
                        refine lv_iconst (v := (1 : Int32)) hx hb dX8_readBoxes_217 (by decide) ?_
                        refine lv_isub hx hb dX8_readBoxes_218 ?_
                        obtain ⟨x109, ex109, hF⟩ := ltt_some hF
                        refine lv_topi (fun zx109 ezx109 => ?_)
                        obtain rfl : x109 = zx109 := ex109.trans ezx109.symm
                        obtain ⟨b110, ho110, hc110, hk110, hF⟩ := dr_some hF
                        refine W_st (st' := [.int x109, .int x107, .ref (ad b110)]) (by rw [va_some ho110]) ?_
                        obtain ⟨hvc, hF⟩ := chk_some hF
                        refine va_iast hx hb hK hP hD hS b110 1 (wld_i ct ad G M105 hc110 hk110) rfl hvc dX8_readBoxes_219 (fun H locs hP hD hS => ?_)
                        obtain ⟨M111, eM111, hF⟩ := ltt_some hF
                        rw [set_i ct ad G M105 hc110 hk110, ← eM111] at hP hD
                        obtain ⟨x112, ex112, hF⟩ := ltt_some hF
                        refine lv_iinc (v := x112) (lv' := [(4, .int x112), (3, .int x100), (9, .int y80), (8, .int x78), (6, .long y70.1), (5, .int x69), (0, .ref (ad a)), (1, va_re ad p0), (2, .int p1)]) hx hb dX8_readBoxes_220 hl (k := 5) rfl (by rw [ex112]; rfl) (by decide) rfl (fun ls hl => ?_)
                        refine lv_goto (tgt := 234) hx hb dX8_readBoxes_223 (by decide) ?_
                        obtain rfl := Option.some.inj hF
                        exact J96 _ _ _ hP hD hS (lv_sub hl [2, 3, 4, 5, 0, 1, 6, 7, 8] rfl)
                    clear hF
                    have hF := hy95
                    clear hy95
                    refine lv_if_ne (tgt := 182) hx hb dX8_readBoxes_174 (by decide) (fun c113 => ?_) (fun c113 => ?_)
                    · rw [if_neg c113] at hF
                      refine lv_ldc (v := (1953653099 : Int32)) hx hb hown (hts (.constant RX8 87 (1953653099 : Int32)) (mu mw_2808)) dX8_readBoxes_182 ?_
                      obtain rfl := Option.some.inj hF
                      exact J95 _ _ _ hP hD hS (lv_sub hl [0, 1, 2, 3, 4, 5, 6, 7, 8] rfl)
                    · rw [if_pos c113] at hF
                      refine lv_ldc (v := (1836019574 : Int32)) hx hb hown (hts (.constant RX8 85 (1836019574 : Int32)) (mu mw_2806)) dX8_readBoxes_177 ?_
                      refine lv_goto (tgt := 184) hx hb dX8_readBoxes_179 (by decide) ?_
                      obtain rfl := Option.some.inj hF
                      exact J95 _ _ _ hP hD hS (lv_sub hl [0, 1, 2, 3, 4, 5, 6, 7, 8] rfl)
              clear hF
              have hF := hy80
              clear hy80
              refine lv_icmp_ge (tgt := 137) hx hb dX8_readBoxes_130 (by decide) (fun c114 => ?_) (fun c114 => ?_)
              · rw [if_pos c114] at hF
                refine lv_iconst (v := (0 : Int32)) hx hb dX8_readBoxes_137 (by decide) ?_
                obtain rfl := Option.some.inj hF
                exact J80 _ _ _ hP hD hS (lv_sub hl [0, 1, 2, 3, 4, 5, 6, 7] rfl)
              · rw [if_neg c114] at hF
                refine lv_iconst (v := (1 : Int32)) hx hb dX8_readBoxes_133 (by decide) ?_
                refine lv_goto (tgt := 138) hx hb dX8_readBoxes_134 (by decide) ?_
                obtain rfl := Option.some.inj hF
                exact J80 _ _ _ hP hD hS (lv_sub hl [0, 1, 2, 3, 4, 5, 6, 7] rfl)
            · rw [if_neg c75] at hF
              refine lv_iconst (v := (0 : Int32)) hx hb dX8_readBoxes_111 (by decide) ?_
              obtain ⟨hz9, hF⟩ := chk_some hF
              obtain rfl := Option.some.inj hF
              have hF := sel_inr (hwz10 ▸ hR7)
              obtain rfl := Option.some.inj hF
              exact W.zret (v := (0 : Int32)) (ty := .boolean) hx hb hr (nar_z hz9).1 (fun t ht hW => ⟨⟨_, (), rfl, rfl, ⟨by rw [ht]; exact hP, va_K.moved hW.alike hK, hD⟩⟩, hS.F ht⟩) hS.2.2 dX8_readBoxes_112
        clear hF
        have hF := hy70
        clear hy70
        refine lv_icmp_ge (tgt := 85) hx hb dX8_readBoxes_78 (by decide) (fun c115 => ?_) (fun c115 => ?_)
        · rw [if_pos c115] at hF
          refine lv_aloadq_n hx hb dX8_readBoxes_85 rfl (lv_at hl 4 rfl) ?_
          refine lv_iload hx hb dX8_readBoxes_86 (lv_at hl 1 rfl) ?_
          obtain ⟨y116, hy116, hF⟩ := bnd_some hF
          have hf9 := wA_in hD hA9 hS
          refine va_calll (va_runS (As := [va_re ad p0, .int s8.2.1]) (rest := []) ⟨hx, hb, hml, hown, hts⟩ (kX8_number4 l D ct ad Z G s8.2.2 H.size p0 s8.2.1 y116 hy116) (va_cwS 2 hts gX8_readBoxes_X8_number4 rfl rfl rfl (by decide +kernel) ⟨Nat.le_of_ble_eq_true rfl, Nat.le_of_ble_eq_true rfl⟩) ⟨fun a U g mk q => by obtain ⟨q0, q1, qP, qK, qD, qZ, qN⟩ := q; exact ⟨q0, q1, qP, va_K.moved (u := U) (U := U.calling g mk a) (Vm.Alike.refl U.vm) qK, qD, sF.moved (u := U) (U := U.calling g mk a) (Vm.Alike.refl U.vm) qZ, nF.same rfl qN⟩, fun U hU hW => ⟨rfl, by rw [hU], by rw [hU]; exact hP, va_K.moved hW.alike hK, hD.weaken (fun _ _ _ _ => trivial), by rw [hU]; exact ((hZ.kept hS.2.1).narrow hf9).moved hW.alike, hN.warm hW⟩⟩ rfl rfl hl.1 rfl (lv_room (Nat.le_of_ble_eq_true rfl)) dX8_readBoxes_88 ⟨(Nat.zero_le _), (Nat.zero_le _)⟩) hS (fun q _ h => hf9 q h) hf9 (fun r u t H locs ht hvm hw hB hz1 hk1 hS => ?_)
          obtain ⟨hP, hK9, hD9⟩ := hB
          rw [ht] at hP
          try dsimp only at hw
          subst hw
          have hD := hD9.weaken (fun _ q _ h => hf9 q.1 h)
          obtain rfl := Option.some.inj hF
          exact J70 _ _ _ hP hD hS (lv_sub hl [0, 1, 2, 3, 4, 5] rfl)
        · rw [if_neg c115] at hF
          refine lv_lconst (v := (0 : Int64)) hx hb dX8_readBoxes_81 rfl ?_
          refine lv_goto (tgt := 91) hx hb dX8_readBoxes_82 (by decide) ?_
          obtain rfl := Option.some.inj hF
          exact J70 _ _ _ hP hD hS (lv_sub hl [0, 1, 2, 3, 4, 5] rfl)
      · rw [if_neg c66] at hF
        obtain ⟨x117, ex117, hF⟩ := ltt_some hF
        refine lv_iinc (v := x117) (lv' := [(3, .int x117), (4, .int s8.2.1), (0, .ref (ad a)), (1, va_re ad p0), (2, .int p1)]) hx hb dX8_readBoxes_55 hl (k := 1) rfl (by rw [ex117]; rfl) (by decide) rfl (fun ls hl => ?_)
        refine lv_goto (tgt := 32) hx hb dX8_readBoxes_58 (by decide) ?_
        obtain rfl := Option.some.inj hF
        exact hwz10 _ _ _ hP hD hS (lv_sub hl [1, 0, 2, 3, 4] rfl)
theorem dX8_stopPlace_0 : decode cX8_stopPlace 0 = .ok (.aload_n 0, 1) := by decide +kernel
theorem dX8_stopPlace_1 : decode cX8_stopPlace 1 = .ok (.getfield 65, 3) := by decide +kernel
theorem dX8_stopPlace_4 : decode cX8_stopPlace 4 = .ok (.iconst 1, 1) := by decide +kernel
theorem dX8_stopPlace_5 : decode cX8_stopPlace 5 = .ok (.isub, 1) := by decide +kernel
theorem dX8_stopPlace_6 : decode cX8_stopPlace 6 = .ok (.istore_n 1, 1) := by decide +kernel
theorem dX8_stopPlace_7 : decode cX8_stopPlace 7 = .ok (.iload_n 1, 1) := by decide +kernel
theorem dX8_stopPlace_8 : decode cX8_stopPlace 8 = .ok (.ifCond .le 58, 3) := by decide +kernel
theorem dX8_stopPlace_11 : decode cX8_stopPlace 11 = .ok (.iconst 0, 1) := by decide +kernel
theorem dX8_stopPlace_12 : decode cX8_stopPlace 12 = .ok (.istore_n 2, 1) := by decide +kernel
theorem dX8_stopPlace_13 : decode cX8_stopPlace 13 = .ok (.iload_n 2, 1) := by decide +kernel
theorem dX8_stopPlace_14 : decode cX8_stopPlace 14 = .ok (.bipush 8, 2) := by decide +kernel
theorem dX8_stopPlace_16 : decode cX8_stopPlace 16 = .ok (.if_icmp .ge 44, 3) := by decide +kernel
theorem dX8_stopPlace_19 : decode cX8_stopPlace 19 = .ok (.aload_n 0, 1) := by decide +kernel
theorem dX8_stopPlace_20 : decode cX8_stopPlace 20 = .ok (.getfield 29, 3) := by decide +kernel
theorem dX8_stopPlace_23 : decode cX8_stopPlace 23 = .ok (.iload_n 1, 1) := by decide +kernel
theorem dX8_stopPlace_24 : decode cX8_stopPlace 24 = .ok (.baload, 1) := by decide +kernel
theorem dX8_stopPlace_25 : decode cX8_stopPlace 25 = .ok (.ifCond .eq 35, 3) := by decide +kernel
theorem dX8_stopPlace_28 : decode cX8_stopPlace 28 = .ok (.aload_n 0, 1) := by decide +kernel
theorem dX8_stopPlace_29 : decode cX8_stopPlace 29 = .ok (.getfield 29, 3) := by decide +kernel
theorem dX8_stopPlace_32 : decode cX8_stopPlace 32 = .ok (.iload_n 1, 1) := by decide +kernel
theorem dX8_stopPlace_33 : decode cX8_stopPlace 33 = .ok (.baload, 1) := by decide +kernel
theorem dX8_stopPlace_34 : decode cX8_stopPlace 34 = .ok (.iload_n 2, 1) := by decide +kernel
theorem dX8_stopPlace_35 : decode cX8_stopPlace 35 = .ok (.ishr, 1) := by decide +kernel
theorem dX8_stopPlace_36 : decode cX8_stopPlace 36 = .ok (.iconst 1, 1) := by decide +kernel
theorem dX8_stopPlace_37 : decode cX8_stopPlace 37 = .ok (.iand, 1) := by decide +kernel
theorem dX8_stopPlace_38 : decode cX8_stopPlace 38 = .ok (.iconst 1, 1) := by decide +kernel
theorem dX8_stopPlace_39 : decode cX8_stopPlace 39 = .ok (.if_icmp .ne 15, 3) := by decide +kernel
theorem dX8_stopPlace_42 : decode cX8_stopPlace 42 = .ok (.bipush 8, 2) := by decide +kernel
theorem dX8_stopPlace_44 : decode cX8_stopPlace 44 = .ok (.iload_n 1, 1) := by decide +kernel
theorem dX8_stopPlace_45 : decode cX8_stopPlace 45 = .ok (.iconst 1, 1) := by decide +kernel
theorem dX8_stopPlace_46 : decode cX8_stopPlace 46 = .ok (.isub, 1) := by decide +kernel
theorem dX8_stopPlace_47 : decode cX8_stopPlace 47 = .ok (.imul, 1) := by decide +kernel
theorem dX8_stopPlace_48 : decode cX8_stopPlace 48 = .ok (.bipush 7, 2) := by decide +kernel
theorem dX8_stopPlace_50 : decode cX8_stopPlace 50 = .ok (.iadd, 1) := by decide +kernel
theorem dX8_stopPlace_51 : decode cX8_stopPlace 51 = .ok (.iload_n 2, 1) := by decide +kernel
theorem dX8_stopPlace_52 : decode cX8_stopPlace 52 = .ok (.isub, 1) := by decide +kernel
theorem dX8_stopPlace_53 : decode cX8_stopPlace 53 = .ok (.ireturn, 1) := by decide +kernel
theorem dX8_stopPlace_54 : decode cX8_stopPlace 54 = .ok (.iinc 2 1, 3) := by decide +kernel
theorem dX8_stopPlace_57 : decode cX8_stopPlace 57 = .ok (.goto (-44), 3) := by decide +kernel
theorem dX8_stopPlace_60 : decode cX8_stopPlace 60 = .ok (.iinc 1 (-1), 3) := by decide +kernel
theorem dX8_stopPlace_63 : decode cX8_stopPlace 63 = .ok (.goto (-56), 3) := by decide +kernel
theorem dX8_stopPlace_66 : decode cX8_stopPlace 66 = .ok (.iconst (-1), 1) := by decide +kernel
theorem dX8_stopPlace_67 : decode cX8_stopPlace 67 = .ok (.ireturn, 1) := by decide +kernel
def FX8_stopPlace (G : GG) (M : DD) (a : Nat)  : Option (DD × Int32) :=
  ltt (M.1 a 9) fun x1 =>
  ltt ((x1 - ((1 : Int32)))) fun x2 =>
  bnd (itr (fun (s4 : Int32) => ((if s4 ≤ ((0 : Int32)) then (some (.inr (.inl (s4)))) else
  (bnd (itr (fun (s9 : Int32) => ((if ((8 : Int32)) ≤ s9 then (some (.inr (.inl (s9)))) else
  (dr G 12 ((M.2 a 8)) fun b14 =>
  chk (¬ (s4 < 0 ∨ G.2.2 b14 ≤ s4.toNatClampNeg)) <|
  ltt (M.1 b14 s4.toNatClampNeg) fun x15 =>
  if x15 = ((0 : Int32)) then (some (.inr (.inl (s9)))) else
  (chk (¬ (s4 < 0 ∨ G.2.2 b14 ≤ s4.toNatClampNeg)) <|
  ltt (M.1 b14 s4.toNatClampNeg) fun x17 =>
  ltt ((x17 >>> (s9 &&& 31))) fun x18 =>
  ltt ((x18 &&& ((1 : Int32)))) fun x19 =>
  if x19 = ((1 : Int32)) then (ltt ((s4 - ((1 : Int32)))) fun x22 =>
  ltt ((((8 : Int32)) * x22)) fun x23 =>
  ltt ((x23 + ((7 : Int32)))) fun x24 =>
  ltt ((x24 - s9)) fun x25 =>
  some (.inr (.inr (M, x25)))) else
  (ltt (s9 + (1 : Int32)) fun x21 =>
  some (.inl (x21)))))) : Option ((Int32) ⊕ ((Int32) ⊕ (DD × Int32))))) 1000000 ((0 : Int32))) fun (y8 : (Int32) ⊕ (DD × Int32)) =>
  sel y8 (fun (z8k : Int32) =>
  ltt (s4 + (-1 : Int32)) fun x11 =>
  some (.inl (x11))) fun r9 => some (.inr (.inr r9)))) : Option ((Int32) ⊕ ((Int32) ⊕ (DD × Int32))))) 1000000 (x2)) fun (y3 : (Int32) ⊕ (DD × Int32)) =>
  sel y3 (fun (z3k : Int32) =>
  some (M, (-1 : Int32))) fun r9 => some r9
set_option maxHeartbeats 4000000 in
set_option maxRecDepth 100000 in
theorem kX8_stopPlace (l : Launch) (D : va_G) (ct : CT) (ad : Nat → Nat) (Z : Nat → Nat) (G : GG) (M : DD) (sz : Nat) (a : Nat)  (y : DD × Int32) (hc : a < G.1) (hk : G.2.1 a = 8) (hF : FX8_stopPlace G M a  = some y) : Met l yX8_stopPlace wuX8_stopPlace ({ frames := 0, cells := 0, slots := 0, locals := 0 }) (va_Pc [.ref (ad a)] (kB D ct ad Z G M sz)) (va_Qi (fun (q : Int32) (_ : Unit) => q = y.2) (fun _ t => kE D ct ad G (wA ad G sz) y.1 t) (wA ad G sz)) 0 0 (wA ad G sz) := by
  refine Met.ofW (cc := cX8_stopPlace) (maxL := 3) (ret := (some .int)) (by decide) rfl ?_
  intro p e s m args below meth c s₁ B hml hv
  obtain ⟨rfl, hsz, hP, hK, hD0, hZ, hN⟩ := hv
  have hx := B.exec
  have hb := B.bytes
  have hr := B.returns
  have hts := atoms_spec (ws := wuX8_stopPlace) B.pre
  have hown : s.vm.findClass RX8 = some m.cls := findClass_of_methodNamed B.named
  have hlocks := B.notSynchronized
  subst hsz
  have hD := wD_self (sz := s.heap.size) hD0
  have hA9 : ∀ q, s.heap.size ≤ q → wA ad G s.heap.size q := fun q h => Or.inr h
  generalize hAe : wA ad G s.heap.size = A at hD hA9 hZ ⊢
  have hS : va_S A s.heap s.heap [] := va_S.rf
  have hl := lv_entry ([.ref (ad a)]) (n := 3) (Nat.le_of_ble_eq_true rfl)
  rw [lg_entry_eq]
  generalize (lg_sl ([.ref (ad a)]) ++ List.replicate (3 - (lg_sl ([.ref (ad a)])).length) Slot.unset).toArray = ls at hl ⊢
  have hl : lv_has ls 3 [(0, .ref (ad a))] := hl
  unfold FX8_stopPlace at hF
  refine lv_aload_n hx hb dX8_stopPlace_0 rfl (lv_at hl 0 rfl) ?_
  refine va_get (D := D) (ci := 8) (v := .int (M.1 a 9)) (C := RX8) (T := TX8) (N := 15) hx hb hts (mus hf_X8) hown hK hP a (wld_o ct ad G M hc hk (by decide)) rfl 9 (by decide) (hts (.fieldLink RX8 65 "VideoSuite$Units" "payloadSize" "I") (mu mw_227)) (fun _ h9 => h9) rfl dX8_stopPlace_1 ?_
  obtain ⟨x1, ex1, hF⟩ := ltt_some hF
  refine lv_topi (fun zx1 ezx1 => ?_)
  obtain rfl : x1 = zx1 := ex1.trans ezx1.symm
  refine lv_iconst (v := (1 : Int32)) hx hb dX8_stopPlace_4 (by decide) ?_
  refine lv_isub hx hb dX8_stopPlace_5 ?_
  obtain ⟨x2, ex2, hF⟩ := ltt_some hF
  refine lv_topi (fun zx2 ezx2 => ?_)
  obtain rfl : x2 = zx2 := ex2.trans ezx2.symm
  refine lv_istore_n (lv' := [(1, .int x2), (0, .ref (ad a))]) hx hb dX8_stopPlace_6 rfl hl (by decide) rfl (fun ls hl => ?_)
  obtain ⟨y3, hy3, hF⟩ := bnd_some hF
  have K3 : ∀ z3k : Int32, y3 = .inl z3k → ∀ (H : Heap) (locs : List Loc) (ls : Array Slot), va_P D classes (wld ct ad G M) H → va_D A (wld ct ad G M) → va_S A s.heap H locs → lv_has ls 3 [(1, .int z3k), (0, .ref (ad a))] → W p l e (headSpec wuX8_stopPlace ({ frames := 0, cells := 0, slots := 0, locals := 0 })).room s m ([.ref (ad a)] : List Value).toArray below meth c H locs 0 0 (MQ below (va_Qi (fun (q : Int32) (_ : Unit) => q = y.2) (fun _ t => kE D ct ad G A y.1 t) A) ([.ref (ad a)] : List Value).toArray s 0 0 A) (F0 m 66 ls []) := by
    intro z3k hz3 H locs ls hP hD hS hl
    have hF := sel_inl (hz3 ▸ hF)
    refine lv_iconst (v := (-1 : Int32)) hx hb dX8_stopPlace_66 (by decide) ?_
    obtain rfl := Option.some.inj hF
    exact W.iret (v := (-1 : Int32)) hx hb hr (fun t ht hW => ⟨⟨_, (), rfl, rfl, ⟨by rw [ht]; exact hP, va_K.moved hW.alike hK, hD⟩⟩, hS.F ht⟩) hS.2.2 dX8_stopPlace_67
  have hR3 := hF
  clear hF
  refine itr_rule (fun (s4 : Int32) => ∀ (H : Heap) (locs : List Loc) (ls : Array Slot), va_P D classes (wld ct ad G M) H → va_D A (wld ct ad G M) → va_S A s.heap H locs → lv_has ls 3 [(1, .int s4), (0, .ref (ad a))] → W p l e (headSpec wuX8_stopPlace ({ frames := 0, cells := 0, slots := 0, locals := 0 })).room s m ([.ref (ad a)] : List Value).toArray below meth c H locs 0 0 (MQ below (va_Qi (fun (q : Int32) (_ : Unit) => q = y.2) (fun _ t => kE D ct ad G A y.1 t) A) ([.ref (ad a)] : List Value).toArray s 0 0 A) (F0 m 7 ls [])) ?_ _ _ hy3 _ _ _ hP hD hS (lv_sub hl [0, 1] rfl)
  rintro s4 ⟨z6, hF, hwz6⟩ H locs ls hP hD hS hl
  try dsimp only at hF
  refine lv_iload_n hx hb dX8_stopPlace_7 rfl (lv_at hl 0 rfl) ?_
  refine lv_if_le (tgt := 66) hx hb dX8_stopPlace_8 (by decide) (fun c7 => ?_) (fun c7 => ?_)
  · rw [if_pos c7] at hF
    obtain rfl := Option.some.inj hF
    exact K3 _ hwz6.symm _ _ _ hP hD hS (lv_sub hl [0, 1] rfl)
  · rw [if_neg c7] at hF
    refine lv_iconst (v := (0 : Int32)) hx hb dX8_stopPlace_11 (by decide) ?_
    refine lv_istore_n (lv' := [(2, .int (0 : Int32)), (1, .int s4), (0, .ref (ad a))]) hx hb dX8_stopPlace_12 rfl hl (by decide) rfl (fun ls hl => ?_)
    obtain ⟨y8, hy8, hF⟩ := bnd_some hF
    have K8 : ∀ z8k : Int32, y8 = .inl z8k → ∀ (H : Heap) (locs : List Loc) (ls : Array Slot), va_P D classes (wld ct ad G M) H → va_D A (wld ct ad G M) → va_S A s.heap H locs → lv_has ls 3 [(2, .int z8k), (1, .int s4), (0, .ref (ad a))] → W p l e (headSpec wuX8_stopPlace ({ frames := 0, cells := 0, slots := 0, locals := 0 })).room s m ([.ref (ad a)] : List Value).toArray below meth c H locs 0 0 (MQ below (va_Qi (fun (q : Int32) (_ : Unit) => q = y.2) (fun _ t => kE D ct ad G A y.1 t) A) ([.ref (ad a)] : List Value).toArray s 0 0 A) (F0 m 60 ls []) := by
      intro z8k hz8 H locs ls hP hD hS hl
      have hF := sel_inl (hz8 ▸ hF)
      obtain ⟨x11, ex11, hF⟩ := ltt_some hF
      refine lv_iinc (v := x11) (lv' := [(1, .int x11), (2, .int z8k), (0, .ref (ad a))]) hx hb dX8_stopPlace_60 hl (k := 1) rfl (by rw [ex11]; rfl) (by decide) rfl (fun ls hl => ?_)
      refine lv_goto (tgt := 7) hx hb dX8_stopPlace_63 (by decide) ?_
      obtain rfl := Option.some.inj hF
      exact hwz6 _ _ _ hP hD hS (lv_sub hl [0, 2] rfl)
    have hR8 := hF
    clear hF
    refine itr_rule (fun (s9 : Int32) => ∀ (H : Heap) (locs : List Loc) (ls : Array Slot), va_P D classes (wld ct ad G M) H → va_D A (wld ct ad G M) → va_S A s.heap H locs → lv_has ls 3 [(2, .int s9), (1, .int s4), (0, .ref (ad a))] → W p l e (headSpec wuX8_stopPlace ({ frames := 0, cells := 0, slots := 0, locals := 0 })).room s m ([.ref (ad a)] : List Value).toArray below meth c H locs 0 0 (MQ below (va_Qi (fun (q : Int32) (_ : Unit) => q = y.2) (fun _ t => kE D ct ad G A y.1 t) A) ([.ref (ad a)] : List Value).toArray s 0 0 A) (F0 m 13 ls [])) ?_ _ _ hy8 _ _ _ hP hD hS (lv_sub hl [0, 1, 2] rfl)
    rintro s9 ⟨z12, hF, hwz12⟩ H locs ls hP hD hS hl
    try dsimp only at hF
    refine lv_iload_n hx hb dX8_stopPlace_13 rfl (lv_at hl 0 rfl) ?_
    refine lv_bipush (v := (8 : Int32)) hx hb dX8_stopPlace_14 (by decide) ?_
    refine lv_icmp_ge (tgt := 60) hx hb dX8_stopPlace_16 (by decide) (fun c13 => ?_) (fun c13 => ?_)
    · rw [if_pos c13] at hF
      obtain rfl := Option.some.inj hF
      exact K8 _ hwz12.symm _ _ _ hP hD hS (lv_sub hl [0, 1, 2] rfl)
    · rw [if_neg c13] at hF
      refine lv_aload_n hx hb dX8_stopPlace_19 rfl (lv_at hl 2 rfl) ?_
      refine va_get (D := D) (ci := 8) (v := va_re ad (M.2 a 8)) (C := RX8) (T := TX8) (N := 15) hx hb hts (mus hf_X8) hown hK hP a (wld_o ct ad G M hc hk (by decide)) rfl 8 (by decide) (hts (.fieldLink RX8 29 "VideoSuite$Units" "payload" "[B") (mu mw_224)) (fun _ h9 => h9) rfl dX8_stopPlace_20 ?_
      refine lv_iload_n hx hb dX8_stopPlace_23 rfl (lv_at hl 1 rfl) ?_
      obtain ⟨b14, ho14, hc14, hk14, hF⟩ := dr_some hF
      refine W_st (st' := [.int s4, .ref (ad b14)]) (by rw [va_some ho14]) ?_
      obtain ⟨hvc, hF⟩ := chk_some hF
      refine va_bald hx hb hK hP b14 0 (wld_b ct ad G M hc14 hk14) rfl hvc dX8_stopPlace_24 ?_
      obtain ⟨x15, ex15, hF⟩ := ltt_some hF
      refine lv_topi (fun zx15 ezx15 => ?_)
      obtain rfl : x15 = zx15 := ex15.trans ezx15.symm
      refine lv_if_eq (tgt := 60) hx hb dX8_stopPlace_25 (by decide) (fun c16 => ?_) (fun c16 => ?_)
      · rw [if_pos c16] at hF
        obtain rfl := Option.some.inj hF
        exact K8 _ hwz12.symm _ _ _ hP hD hS (lv_sub hl [0, 1, 2] rfl)
      · rw [if_neg c16] at hF
        refine lv_aload_n hx hb dX8_stopPlace_28 rfl (lv_at hl 2 rfl) ?_
        refine va_get (D := D) (ci := 8) (v := va_re ad (M.2 a 8)) (C := RX8) (T := TX8) (N := 15) hx hb hts (mus hf_X8) hown hK hP a (wld_o ct ad G M hc hk (by decide)) rfl 8 (by decide) (hts (.fieldLink RX8 29 "VideoSuite$Units" "payload" "[B") (mu mw_224)) (fun _ h9 => h9) rfl dX8_stopPlace_29 ?_
        refine lv_iload_n hx hb dX8_stopPlace_32 rfl (lv_at hl 1 rfl) ?_
        refine W_st (st' := [.int s4, .ref (ad b14)]) (by rw [va_some ho14]) ?_
        obtain ⟨hvc, hF⟩ := chk_some hF
        refine va_bald hx hb hK hP b14 0 (wld_b ct ad G M hc14 hk14) rfl hvc dX8_stopPlace_33 ?_
        obtain ⟨x17, ex17, hF⟩ := ltt_some hF
        refine lv_topi (fun zx17 ezx17 => ?_)
        obtain rfl : x17 = zx17 := ex17.trans ezx17.symm
        refine lv_iload_n hx hb dX8_stopPlace_34 rfl (lv_at hl 0 rfl) ?_
        refine lv_ishr hx hb dX8_stopPlace_35 ?_
        obtain ⟨x18, ex18, hF⟩ := ltt_some hF
        refine lv_topi (fun zx18 ezx18 => ?_)
        obtain rfl : x18 = zx18 := ex18.trans ezx18.symm
        refine lv_iconst (v := (1 : Int32)) hx hb dX8_stopPlace_36 (by decide) ?_
        refine lv_iand hx hb dX8_stopPlace_37 ?_
        obtain ⟨x19, ex19, hF⟩ := ltt_some hF
        refine lv_topi (fun zx19 ezx19 => ?_)
        obtain rfl : x19 = zx19 := ex19.trans ezx19.symm
        refine lv_iconst (v := (1 : Int32)) hx hb dX8_stopPlace_38 (by decide) ?_
        refine lv_icmp_ne (tgt := 54) hx hb dX8_stopPlace_39 (by decide) (fun c20 => ?_) (fun c20 => ?_)
        · rw [if_neg c20] at hF
          obtain ⟨x21, ex21, hF⟩ := ltt_some hF
          refine lv_iinc (v := x21) (lv' := [(2, .int x21), (1, .int s4), (0, .ref (ad a))]) hx hb dX8_stopPlace_54 hl (k := 0) rfl (by rw [ex21]; rfl) (by decide) rfl (fun ls hl => ?_)
          refine lv_goto (tgt := 13) hx hb dX8_stopPlace_57 (by decide) ?_
          obtain rfl := Option.some.inj hF
          exact hwz12 _ _ _ hP hD hS (lv_sub hl [0, 1, 2] rfl)
        · rw [if_pos c20] at hF
          refine lv_bipush (v := (8 : Int32)) hx hb dX8_stopPlace_42 (by decide) ?_
          refine lv_iload_n hx hb dX8_stopPlace_44 rfl (lv_at hl 1 rfl) ?_
          refine lv_iconst (v := (1 : Int32)) hx hb dX8_stopPlace_45 (by decide) ?_
          refine lv_isub hx hb dX8_stopPlace_46 ?_
          obtain ⟨x22, ex22, hF⟩ := ltt_some hF
          refine lv_topi (fun zx22 ezx22 => ?_)
          obtain rfl : x22 = zx22 := ex22.trans ezx22.symm
          refine lv_imul hx hb dX8_stopPlace_47 ?_
          obtain ⟨x23, ex23, hF⟩ := ltt_some hF
          refine lv_topi (fun zx23 ezx23 => ?_)
          obtain rfl : x23 = zx23 := ex23.trans ezx23.symm
          refine lv_bipush (v := (7 : Int32)) hx hb dX8_stopPlace_48 (by decide) ?_
          refine lv_iadd hx hb dX8_stopPlace_50 ?_
          obtain ⟨x24, ex24, hF⟩ := ltt_some hF
          refine lv_topi (fun zx24 ezx24 => ?_)
          obtain rfl : x24 = zx24 := ex24.trans ezx24.symm
          refine lv_iload_n hx hb dX8_stopPlace_51 rfl (lv_at hl 0 rfl) ?_
          refine lv_isub hx hb dX8_stopPlace_52 ?_
          obtain ⟨x25, ex25, hF⟩ := ltt_some hF
          refine lv_topi (fun zx25 ezx25 => ?_)
          obtain rfl : x25 = zx25 := ex25.trans ezx25.symm
          obtain rfl := Option.some.inj hF
          have hF := sel_inr (hwz12 ▸ hR8)
          obtain rfl := Option.some.inj hF
          have hF := sel_inr (hwz6 ▸ hR3)
          obtain rfl := Option.some.inj hF
          exact W.iret (v := x25) hx hb hr (fun t ht hW => ⟨⟨_, (), rfl, rfl, ⟨by rw [ht]; exact hP, va_K.moved hW.alike hK, hD⟩⟩, hS.F ht⟩) hS.2.2 dX8_stopPlace_53
theorem dX8_trackLength_0 : decode cX8_trackLength 0 = .ok (.bipush 28, 2) := by decide +kernel
theorem dX8_trackLength_2 : decode cX8_trackLength 2 = .ok (.iconst 4, 1) := by decide +kernel
theorem dX8_trackLength_3 : decode cX8_trackLength 3 = .ok (.aload_n 0, 1) := by decide +kernel
theorem dX8_trackLength_4 : decode cX8_trackLength 4 = .ok (.getfield 41, 3) := by decide +kernel
theorem dX8_trackLength_7 : decode cX8_trackLength 7 = .ok (.imul, 1) := by decide +kernel
theorem dX8_trackLength_8 : decode cX8_trackLength 8 = .ok (.iadd, 1) := by decide +kernel
theorem dX8_trackLength_9 : decode cX8_trackLength 9 = .ok (.bipush 20, 2) := by decide +kernel
theorem dX8_trackLength_11 : decode cX8_trackLength 11 = .ok (.iadd, 1) := by decide +kernel
theorem dX8_trackLength_12 : decode cX8_trackLength 12 = .ok (.ireturn, 1) := by decide +kernel
def FX8_trackLength (G : GG) (M : DD) (a : Nat)  : Option (DD × Int32) :=
  ltt (M.1 a 3) fun x1 =>
  ltt ((((4 : Int32)) * x1)) fun x2 =>
  ltt ((((28 : Int32)) + x2)) fun x3 =>
  ltt ((x3 + ((20 : Int32)))) fun x4 =>
  some (M, x4)
set_option maxHeartbeats 4000000 in
set_option maxRecDepth 100000 in
theorem kX8_trackLength (l : Launch) (D : va_G) (ct : CT) (ad : Nat → Nat) (Z : Nat → Nat) (G : GG) (M : DD) (sz : Nat) (a : Nat)  (y : DD × Int32) (hc : a < G.1) (hk : G.2.1 a = 8) (hF : FX8_trackLength G M a  = some y) : Met l yX8_trackLength wuX8_trackLength ({ frames := 0, cells := 0, slots := 0, locals := 0 }) (va_Pc [.ref (ad a)] (kB D ct ad Z G M sz)) (va_Qi (fun (q : Int32) (_ : Unit) => q = y.2) (fun _ t => kE D ct ad G (wA ad G sz) y.1 t) (wA ad G sz)) 0 0 (wA ad G sz) := by
  refine Met.ofW (cc := cX8_trackLength) (maxL := 1) (ret := (some .int)) (by decide) rfl ?_
  intro p e s m args below meth c s₁ B hml hv
  obtain ⟨rfl, hsz, hP, hK, hD0, hZ, hN⟩ := hv
  have hx := B.exec
  have hb := B.bytes
  have hr := B.returns
  have hts := atoms_spec (ws := wuX8_trackLength) B.pre
  have hown : s.vm.findClass RX8 = some m.cls := findClass_of_methodNamed B.named
  have hlocks := B.notSynchronized
  subst hsz
  have hD := wD_self (sz := s.heap.size) hD0
  have hA9 : ∀ q, s.heap.size ≤ q → wA ad G s.heap.size q := fun q h => Or.inr h
  generalize hAe : wA ad G s.heap.size = A at hD hA9 hZ ⊢
  have hS : va_S A s.heap s.heap [] := va_S.rf
  have hl := lv_entry ([.ref (ad a)]) (n := 1) (Nat.le_of_ble_eq_true rfl)
  rw [lg_entry_eq]
  generalize (lg_sl ([.ref (ad a)]) ++ List.replicate (1 - (lg_sl ([.ref (ad a)])).length) Slot.unset).toArray = ls at hl ⊢
  have hl : lv_has ls 1 [(0, .ref (ad a))] := hl
  unfold FX8_trackLength at hF
  refine lv_bipush (v := (28 : Int32)) hx hb dX8_trackLength_0 (by decide) ?_
  refine lv_iconst (v := (4 : Int32)) hx hb dX8_trackLength_2 (by decide) ?_
  refine lv_aload_n hx hb dX8_trackLength_3 rfl (lv_at hl 0 rfl) ?_
  refine va_get (D := D) (ci := 8) (v := .int (M.1 a 3)) (C := RX8) (T := TX8) (N := 15) hx hb hts (mus hf_X8) hown hK hP a (wld_o ct ad G M hc hk (by decide)) rfl 3 (by decide) (hts (.fieldLink RX8 41 "VideoSuite$Units" "count" "I") (mu mw_216)) (fun _ h9 => h9) rfl dX8_trackLength_4 ?_
  obtain ⟨x1, ex1, hF⟩ := ltt_some hF
  refine lv_topi (fun zx1 ezx1 => ?_)
  obtain rfl : x1 = zx1 := ex1.trans ezx1.symm
  refine lv_imul hx hb dX8_trackLength_7 ?_
  obtain ⟨x2, ex2, hF⟩ := ltt_some hF
  refine lv_topi (fun zx2 ezx2 => ?_)
  obtain rfl : x2 = zx2 := ex2.trans ezx2.symm
  refine lv_iadd hx hb dX8_trackLength_8 ?_
  obtain ⟨x3, ex3, hF⟩ := ltt_some hF
  refine lv_topi (fun zx3 ezx3 => ?_)
  obtain rfl : x3 = zx3 := ex3.trans ezx3.symm
  refine lv_bipush (v := (20 : Int32)) hx hb dX8_trackLength_9 (by decide) ?_
  refine lv_iadd hx hb dX8_trackLength_11 ?_
  obtain ⟨x4, ex4, hF⟩ := ltt_some hF
  refine lv_topi (fun zx4 ezx4 => ?_)
  obtain rfl : x4 = zx4 := ex4.trans ezx4.symm
  obtain rfl := Option.some.inj hF
  exact W.iret (v := x4) hx hb hr (fun t ht hW => ⟨⟨_, (), rfl, rfl, ⟨by rw [ht]; exact hP, va_K.moved hW.alike hK, hD⟩⟩, hS.F ht⟩) hS.2.2 dX8_trackLength_12
set_option maxRecDepth 20000 in
theorem gX8_writeTables_X8_put4 : GoodIn wuX8_writeTables (wsV RX8 78 RX8 yX8_put4 wuX8_put4) := gu_V mw_2799 mw_2801 mw_162 mw_167 mw_2802
theorem dX8_writeTables_0 : decode cX8_writeTables 0 = .ok (.aload_n 0, 1) := by decide +kernel
theorem dX8_writeTables_1 : decode cX8_writeTables 1 = .ok (.aload_n 1, 1) := by decide +kernel
theorem dX8_writeTables_2 : decode cX8_writeTables 2 = .ok (.bipush 20, 2) := by decide +kernel
theorem dX8_writeTables_4 : decode cX8_writeTables 4 = .ok (.iconst 4, 1) := by decide +kernel
theorem dX8_writeTables_5 : decode cX8_writeTables 5 = .ok (.aload_n 0, 1) := by decide +kernel
theorem dX8_writeTables_6 : decode cX8_writeTables 6 = .ok (.getfield 41, 3) := by decide +kernel
theorem dX8_writeTables_9 : decode cX8_writeTables 9 = .ok (.imul, 1) := by decide +kernel
theorem dX8_writeTables_10 : decode cX8_writeTables 10 = .ok (.iadd, 1) := by decide +kernel
theorem dX8_writeTables_11 : decode cX8_writeTables 11 = .ok (.invokevirtual 78, 3) := by decide +kernel
theorem dX8_writeTables_14 : decode cX8_writeTables 14 = .ok (.aload_n 0, 1) := by decide +kernel
theorem dX8_writeTables_15 : decode cX8_writeTables 15 = .ok (.aload_n 1, 1) := by decide +kernel
theorem dX8_writeTables_16 : decode cX8_writeTables 16 = .ok (.ldc 93, 2) := by decide +kernel
theorem dX8_writeTables_18 : decode cX8_writeTables 18 = .ok (.invokevirtual 78, 3) := by decide +kernel
theorem dX8_writeTables_21 : decode cX8_writeTables 21 = .ok (.aload_n 0, 1) := by decide +kernel
theorem dX8_writeTables_22 : decode cX8_writeTables 22 = .ok (.aload_n 1, 1) := by decide +kernel
theorem dX8_writeTables_23 : decode cX8_writeTables 23 = .ok (.iconst 0, 1) := by decide +kernel
theorem dX8_writeTables_24 : decode cX8_writeTables 24 = .ok (.invokevirtual 78, 3) := by decide +kernel
theorem dX8_writeTables_27 : decode cX8_writeTables 27 = .ok (.aload_n 0, 1) := by decide +kernel
theorem dX8_writeTables_28 : decode cX8_writeTables 28 = .ok (.aload_n 1, 1) := by decide +kernel
theorem dX8_writeTables_29 : decode cX8_writeTables 29 = .ok (.iconst 0, 1) := by decide +kernel
theorem dX8_writeTables_30 : decode cX8_writeTables 30 = .ok (.invokevirtual 78, 3) := by decide +kernel
theorem dX8_writeTables_33 : decode cX8_writeTables 33 = .ok (.aload_n 0, 1) := by decide +kernel
theorem dX8_writeTables_34 : decode cX8_writeTables 34 = .ok (.aload_n 1, 1) := by decide +kernel
theorem dX8_writeTables_35 : decode cX8_writeTables 35 = .ok (.aload_n 0, 1) := by decide +kernel
theorem dX8_writeTables_36 : decode cX8_writeTables 36 = .ok (.getfield 41, 3) := by decide +kernel
theorem dX8_writeTables_39 : decode cX8_writeTables 39 = .ok (.invokevirtual 78, 3) := by decide +kernel
theorem dX8_writeTables_42 : decode cX8_writeTables 42 = .ok (.iconst 0, 1) := by decide +kernel
theorem dX8_writeTables_43 : decode cX8_writeTables 43 = .ok (.istore_n 2, 1) := by decide +kernel
theorem dX8_writeTables_44 : decode cX8_writeTables 44 = .ok (.iload_n 2, 1) := by decide +kernel
theorem dX8_writeTables_45 : decode cX8_writeTables 45 = .ok (.aload_n 0, 1) := by decide +kernel
theorem dX8_writeTables_46 : decode cX8_writeTables 46 = .ok (.getfield 41, 3) := by decide +kernel
theorem dX8_writeTables_49 : decode cX8_writeTables 49 = .ok (.if_icmp .ge 22, 3) := by decide +kernel
theorem dX8_writeTables_52 : decode cX8_writeTables 52 = .ok (.aload_n 0, 1) := by decide +kernel
theorem dX8_writeTables_53 : decode cX8_writeTables 53 = .ok (.aload_n 1, 1) := by decide +kernel
theorem dX8_writeTables_54 : decode cX8_writeTables 54 = .ok (.iconst 4, 1) := by decide +kernel
theorem dX8_writeTables_55 : decode cX8_writeTables 55 = .ok (.aload_n 0, 1) := by decide +kernel
theorem dX8_writeTables_56 : decode cX8_writeTables 56 = .ok (.getfield 20, 3) := by decide +kernel
theorem dX8_writeTables_59 : decode cX8_writeTables 59 = .ok (.iload_n 2, 1) := by decide +kernel
theorem dX8_writeTables_60 : decode cX8_writeTables 60 = .ok (.iaload, 1) := by decide +kernel
theorem dX8_writeTables_61 : decode cX8_writeTables 61 = .ok (.iadd, 1) := by decide +kernel
theorem dX8_writeTables_62 : decode cX8_writeTables 62 = .ok (.invokevirtual 78, 3) := by decide +kernel
theorem dX8_writeTables_65 : decode cX8_writeTables 65 = .ok (.iinc 2 1, 3) := by decide +kernel
theorem dX8_writeTables_68 : decode cX8_writeTables 68 = .ok (.goto (-24), 3) := by decide +kernel
theorem dX8_writeTables_71 : decode cX8_writeTables 71 = .ok (.aload_n 0, 1) := by decide +kernel
theorem dX8_writeTables_72 : decode cX8_writeTables 72 = .ok (.aload_n 1, 1) := by decide +kernel
theorem dX8_writeTables_73 : decode cX8_writeTables 73 = .ok (.bipush 20, 2) := by decide +kernel
theorem dX8_writeTables_75 : decode cX8_writeTables 75 = .ok (.invokevirtual 78, 3) := by decide +kernel
theorem dX8_writeTables_78 : decode cX8_writeTables 78 = .ok (.aload_n 0, 1) := by decide +kernel
theorem dX8_writeTables_79 : decode cX8_writeTables 79 = .ok (.aload_n 1, 1) := by decide +kernel
theorem dX8_writeTables_80 : decode cX8_writeTables 80 = .ok (.ldc 94, 2) := by decide +kernel
theorem dX8_writeTables_82 : decode cX8_writeTables 82 = .ok (.invokevirtual 78, 3) := by decide +kernel
theorem dX8_writeTables_85 : decode cX8_writeTables 85 = .ok (.aload_n 0, 1) := by decide +kernel
theorem dX8_writeTables_86 : decode cX8_writeTables 86 = .ok (.aload_n 1, 1) := by decide +kernel
theorem dX8_writeTables_87 : decode cX8_writeTables 87 = .ok (.iconst 0, 1) := by decide +kernel
theorem dX8_writeTables_88 : decode cX8_writeTables 88 = .ok (.invokevirtual 78, 3) := by decide +kernel
theorem dX8_writeTables_91 : decode cX8_writeTables 91 = .ok (.aload_n 0, 1) := by decide +kernel
theorem dX8_writeTables_92 : decode cX8_writeTables 92 = .ok (.aload_n 1, 1) := by decide +kernel
theorem dX8_writeTables_93 : decode cX8_writeTables 93 = .ok (.iconst 1, 1) := by decide +kernel
theorem dX8_writeTables_94 : decode cX8_writeTables 94 = .ok (.invokevirtual 78, 3) := by decide +kernel
theorem dX8_writeTables_97 : decode cX8_writeTables 97 = .ok (.aload_n 0, 1) := by decide +kernel
theorem dX8_writeTables_98 : decode cX8_writeTables 98 = .ok (.aload_n 1, 1) := by decide +kernel
theorem dX8_writeTables_99 : decode cX8_writeTables 99 = .ok (.aload_n 0, 1) := by decide +kernel
theorem dX8_writeTables_100 : decode cX8_writeTables 100 = .ok (.getfield 75, 3) := by decide +kernel
theorem dX8_writeTables_103 : decode cX8_writeTables 103 = .ok (.iconst 4, 1) := by decide +kernel
theorem dX8_writeTables_104 : decode cX8_writeTables 104 = .ok (.iadd, 1) := by decide +kernel
theorem dX8_writeTables_105 : decode cX8_writeTables 105 = .ok (.bipush 8, 2) := by decide +kernel
theorem dX8_writeTables_107 : decode cX8_writeTables 107 = .ok (.iadd, 1) := by decide +kernel
theorem dX8_writeTables_108 : decode cX8_writeTables 108 = .ok (.invokevirtual 78, 3) := by decide +kernel
theorem dX8_writeTables_111 : decode cX8_writeTables 111 = .ok (.return_, 1) := by decide +kernel
def FX8_writeTables (G : GG) (M : DD) (a : Nat) (p0 : Option Nat) : Option (DD) :=
  ltt (M.1 a 3) fun x1 =>
  ltt ((((4 : Int32)) * x1)) fun x2 =>
  ltt ((((20 : Int32)) + x2)) fun x3 =>
  bnd (FX8_put4 G M a p0 x3) fun y4 =>
  bnd (FX8_put4 G y4 a p0 ((1937011578 : Int32))) fun y5 =>
  bnd (FX8_put4 G y5 a p0 ((0 : Int32))) fun y6 =>
  bnd (FX8_put4 G y6 a p0 ((0 : Int32))) fun y7 =>
  ltt (y7.1 a 3) fun x8 =>
  bnd (FX8_put4 G y7 a p0 x8) fun y9 =>
  bnd (itr (fun (s11 : Int32 × DD) => ((ltt (s11.2.1 a 3) fun x22 =>
  if x22 ≤ s11.1 then (some (.inr (s11.1, s11.2))) else
  (dr G 13 ((s11.2.2 a 2)) fun b24 =>
  chk (¬ (s11.1 < 0 ∨ G.2.2 b24 ≤ s11.1.toNatClampNeg)) <|
  ltt (s11.2.1 b24 s11.1.toNatClampNeg) fun x25 =>
  ltt ((((4 : Int32)) + x25)) fun x26 =>
  bnd (FX8_put4 G s11.2 a p0 x26) fun y27 =>
  ltt (s11.1 + (1 : Int32)) fun x28 =>
  some (.inl (x28, y27)))) : Option ((Int32 × DD) ⊕ (Int32 × DD)))) 1000000 ((0 : Int32), y9)) fun (y10 : Int32 × DD) =>
  bnd (FX8_put4 G y10.2 a p0 ((20 : Int32))) fun y13 =>
  bnd (FX8_put4 G y13 a p0 ((1937007471 : Int32))) fun y14 =>
  bnd (FX8_put4 G y14 a p0 ((0 : Int32))) fun y15 =>
  bnd (FX8_put4 G y15 a p0 ((1 : Int32))) fun y16 =>
  ltt (y16.1 a 14) fun x17 =>
  ltt ((x17 + ((4 : Int32)))) fun x18 =>
  ltt ((x18 + ((8 : Int32)))) fun x19 =>
  bnd (FX8_put4 G y16 a p0 x19) fun y20 =>
  some y20
set_option maxHeartbeats 4000000 in
set_option maxRecDepth 100000 in
theorem kX8_writeTables (l : Launch) (D : va_G) (ct : CT) (ad : Nat → Nat) (Z : Nat → Nat) (G : GG) (M : DD) (sz : Nat) (a : Nat) (p0 : Option Nat) (y : DD) (hc : a < G.1) (hk : G.2.1 a = 8) (hF : FX8_writeTables G M a p0 = some y) : Met l yX8_writeTables wuX8_writeTables ({ frames := 1, cells := 0, slots := 0, locals := 23 }) (va_Pc [.ref (ad a), va_re ad p0] (kB D ct ad Z G M sz)) (va_Qv (fun (_ : Unit) => True) (fun _ t => kE D ct ad G (wA ad G sz) y t) (wA ad G sz)) 0 0 (wA ad G sz) := by
  refine Met.ofW (cc := cX8_writeTables) (maxL := 3) (ret := none) (by decide) rfl ?_
  intro p e s m args below meth c s₁ B hml hv
  obtain ⟨rfl, hsz, hP, hK, hD0, hZ, hN⟩ := hv
  have hx := B.exec
  have hb := B.bytes
  have hr := B.returns
  have hts := atoms_spec (ws := wuX8_writeTables) B.pre
  have hown : s.vm.findClass RX8 = some m.cls := findClass_of_methodNamed B.named
  have hlocks := B.notSynchronized
  subst hsz
  have hD := wD_self (sz := s.heap.size) hD0
  have hA9 : ∀ q, s.heap.size ≤ q → wA ad G s.heap.size q := fun q h => Or.inr h
  generalize hAe : wA ad G s.heap.size = A at hD hA9 hZ ⊢
  have hS : va_S A s.heap s.heap [] := va_S.rf
  have hl := lv_entry ([.ref (ad a), va_re ad p0]) (n := 3) (by cases p0 <;> exact Nat.le_of_ble_eq_true rfl)
  rw [lg_entry_eq]
  generalize (lg_sl ([.ref (ad a), va_re ad p0]) ++ List.replicate (3 - (lg_sl ([.ref (ad a), va_re ad p0])).length) Slot.unset).toArray = ls at hl ⊢
  have hl : lv_has ls 3 [(0, .ref (ad a)), (1, va_re ad p0)] := by have e9 : lv_args 0 [.ref (ad a), va_re ad p0] = [(0, .ref (ad a)), (1, va_re ad p0)] := (by cases p0 <;> rfl); rw [e9] at hl; exact hl
  unfold FX8_writeTables at hF
  refine lv_aload_n hx hb dX8_writeTables_0 rfl (lv_at hl 0 rfl) ?_
  refine lv_aloadq_n hx hb dX8_writeTables_1 rfl (lv_at hl 1 rfl) ?_
  refine lv_bipush (v := (20 : Int32)) hx hb dX8_writeTables_2 (by decide) ?_
  refine lv_iconst (v := (4 : Int32)) hx hb dX8_writeTables_4 (by decide) ?_
  refine lv_aload_n hx hb dX8_writeTables_5 rfl (lv_at hl 0 rfl) ?_
  refine va_get (D := D) (ci := 8) (v := .int (M.1 a 3)) (C := RX8) (T := TX8) (N := 15) hx hb hts (mus hf_X8) hown hK hP a (wld_o ct ad G M hc hk (by decide)) rfl 3 (by decide) (hts (.fieldLink RX8 41 "VideoSuite$Units" "count" "I") (mu mw_216)) (fun _ h9 => h9) rfl dX8_writeTables_6 ?_
  obtain ⟨x1, ex1, hF⟩ := ltt_some hF
  refine lv_topi (fun zx1 ezx1 => ?_)
  obtain rfl : x1 = zx1 := ex1.trans ezx1.symm
  refine lv_imul hx hb dX8_writeTables_9 ?_
  obtain ⟨x2, ex2, hF⟩ := ltt_some hF
  refine lv_topi (fun zx2 ezx2 => ?_)
  obtain rfl : x2 = zx2 := ex2.trans ezx2.symm
  refine lv_iadd hx hb dX8_writeTables_10 ?_
  obtain ⟨x3, ex3, hF⟩ := ltt_some hF
  refine lv_topi (fun zx3 ezx3 => ?_)
  obtain rfl : x3 = zx3 := ex3.trans ezx3.symm
  obtain ⟨y4, hy4, hF⟩ := bnd_some hF
  have hf9 := wA_in hD hA9 hS
  refine va_callv (va_runV (As := [va_re ad p0, .int x3]) (rest := []) ⟨hx, hb, hml, hown, hts⟩ (kX8_put4 l D ct ad Z G M s.heap.size a p0 x3 y4 hc hk hy4) (cwV 2 hts gX8_writeTables_X8_put4 rfl rfl rfl (by decide +kernel) ⟨Nat.le_of_ble_eq_true rfl, Nat.le_of_ble_eq_true rfl⟩) ⟨fun a U g mk q => by obtain ⟨q0, q1, qP, qK, qD, qZ, qN⟩ := q; exact ⟨q0, q1, qP, va_K.moved (u := U) (U := U.calling g mk a) (Vm.Alike.refl U.vm) qK, qD, sF.moved (u := U) (U := U.calling g mk a) (Vm.Alike.refl U.vm) qZ, nF.same rfl qN⟩, va_recv hK hP (ci := 8) (q0 := a) rfl (wld_o ct ad G M hc hk (by decide)), fun U hU hW => ⟨rfl, by rw [hU], by rw [hU]; exact hP, va_K.moved hW.alike hK, hD.weaken (fun _ _ _ _ => trivial), by rw [hU]; exact ((hZ.kept hS.2.1).narrow hf9).moved hW.alike, hN.warm hW⟩⟩ rfl rfl hl.1 rfl (lv_room (Nat.le_of_ble_eq_true rfl)) dX8_writeTables_11 ⟨(Nat.zero_le _), (Nat.zero_le _)⟩) hS (fun q _ h => hf9 q h) hf9 (fun u t H locs ht hvm hw hB hz1 hk1 hS => ?_)
  obtain ⟨hP, hK9, hD9⟩ := hB
  rw [ht] at hP
  have hD := hD9.weaken (fun _ q _ h => hf9 q.1 h)
  refine lv_aload_n hx hb dX8_writeTables_14 rfl (lv_at hl 0 rfl) ?_
  refine lv_aloadq_n hx hb dX8_writeTables_15 rfl (lv_at hl 1 rfl) ?_
  refine lv_ldc (v := (1937011578 : Int32)) hx hb hown (hts (.constant RX8 93 (1937011578 : Int32)) (mu mw_2813)) dX8_writeTables_16 ?_
  obtain ⟨y5, hy5, hF⟩ := bnd_some hF
  have hf9 := wA_in hD hA9 hS
  refine va_callv (va_runV (As := [va_re ad p0, .int (1937011578 : Int32)]) (rest := []) ⟨hx, hb, hml, hown, hts⟩ (kX8_put4 l D ct ad Z G y4 H.size a p0 ((1937011578 : Int32)) y5 hc hk hy5) (cwV 2 hts gX8_writeTables_X8_put4 rfl rfl rfl (by decide +kernel) ⟨Nat.le_of_ble_eq_true rfl, Nat.le_of_ble_eq_true rfl⟩) ⟨fun a U g mk q => by obtain ⟨q0, q1, qP, qK, qD, qZ, qN⟩ := q; exact ⟨q0, q1, qP, va_K.moved (u := U) (U := U.calling g mk a) (Vm.Alike.refl U.vm) qK, qD, sF.moved (u := U) (U := U.calling g mk a) (Vm.Alike.refl U.vm) qZ, nF.same rfl qN⟩, va_recv hK hP (ci := 8) (q0 := a) rfl (wld_o ct ad G y4 hc hk (by decide)), fun U hU hW => ⟨rfl, by rw [hU], by rw [hU]; exact hP, va_K.moved hW.alike hK, hD.weaken (fun _ _ _ _ => trivial), by rw [hU]; exact ((hZ.kept hS.2.1).narrow hf9).moved hW.alike, hN.warm hW⟩⟩ rfl rfl hl.1 rfl (lv_room (Nat.le_of_ble_eq_true rfl)) dX8_writeTables_18 ⟨(Nat.zero_le _), (Nat.zero_le _)⟩) hS (fun q _ h => hf9 q h) hf9 (fun u t H locs ht hvm hw hB hz1 hk1 hS => ?_)
  obtain ⟨hP, hK9, hD9⟩ := hB
  rw [ht] at hP
  have hD := hD9.weaken (fun _ q _ h => hf9 q.1 h)
  refine lv_aload_n hx hb dX8_writeTables_21 rfl (lv_at hl 0 rfl) ?_
  refine lv_aloadq_n hx hb dX8_writeTables_22 rfl (lv_at hl 1 rfl) ?_
  refine lv_iconst (v := (0 : Int32)) hx hb dX8_writeTables_23 (by decide) ?_
  obtain ⟨y6, hy6, hF⟩ := bnd_some hF
  have hf9 := wA_in hD hA9 hS
  refine va_callv (va_runV (As := [va_re ad p0, .int (0 : Int32)]) (rest := []) ⟨hx, hb, hml, hown, hts⟩ (kX8_put4 l D ct ad Z G y5 H.size a p0 ((0 : Int32)) y6 hc hk hy6) (cwV 2 hts gX8_writeTables_X8_put4 rfl rfl rfl (by decide +kernel) ⟨Nat.le_of_ble_eq_true rfl, Nat.le_of_ble_eq_true rfl⟩) ⟨fun a U g mk q => by obtain ⟨q0, q1, qP, qK, qD, qZ, qN⟩ := q; exact ⟨q0, q1, qP, va_K.moved (u := U) (U := U.calling g mk a) (Vm.Alike.refl U.vm) qK, qD, sF.moved (u := U) (U := U.calling g mk a) (Vm.Alike.refl U.vm) qZ, nF.same rfl qN⟩, va_recv hK hP (ci := 8) (q0 := a) rfl (wld_o ct ad G y5 hc hk (by decide)), fun U hU hW => ⟨rfl, by rw [hU], by rw [hU]; exact hP, va_K.moved hW.alike hK, hD.weaken (fun _ _ _ _ => trivial), by rw [hU]; exact ((hZ.kept hS.2.1).narrow hf9).moved hW.alike, hN.warm hW⟩⟩ rfl rfl hl.1 rfl (lv_room (Nat.le_of_ble_eq_true rfl)) dX8_writeTables_24 ⟨(Nat.zero_le _), (Nat.zero_le _)⟩) hS (fun q _ h => hf9 q h) hf9 (fun u t H locs ht hvm hw hB hz1 hk1 hS => ?_)
  obtain ⟨hP, hK9, hD9⟩ := hB
  rw [ht] at hP
  have hD := hD9.weaken (fun _ q _ h => hf9 q.1 h)
  refine lv_aload_n hx hb dX8_writeTables_27 rfl (lv_at hl 0 rfl) ?_
  refine lv_aloadq_n hx hb dX8_writeTables_28 rfl (lv_at hl 1 rfl) ?_
  refine lv_iconst (v := (0 : Int32)) hx hb dX8_writeTables_29 (by decide) ?_
  obtain ⟨y7, hy7, hF⟩ := bnd_some hF
  have hf9 := wA_in hD hA9 hS
  refine va_callv (va_runV (As := [va_re ad p0, .int (0 : Int32)]) (rest := []) ⟨hx, hb, hml, hown, hts⟩ (kX8_put4 l D ct ad Z G y6 H.size a p0 ((0 : Int32)) y7 hc hk hy7) (cwV 2 hts gX8_writeTables_X8_put4 rfl rfl rfl (by decide +kernel) ⟨Nat.le_of_ble_eq_true rfl, Nat.le_of_ble_eq_true rfl⟩) ⟨fun a U g mk q => by obtain ⟨q0, q1, qP, qK, qD, qZ, qN⟩ := q; exact ⟨q0, q1, qP, va_K.moved (u := U) (U := U.calling g mk a) (Vm.Alike.refl U.vm) qK, qD, sF.moved (u := U) (U := U.calling g mk a) (Vm.Alike.refl U.vm) qZ, nF.same rfl qN⟩, va_recv hK hP (ci := 8) (q0 := a) rfl (wld_o ct ad G y6 hc hk (by decide)), fun U hU hW => ⟨rfl, by rw [hU], by rw [hU]; exact hP, va_K.moved hW.alike hK, hD.weaken (fun _ _ _ _ => trivial), by rw [hU]; exact ((hZ.kept hS.2.1).narrow hf9).moved hW.alike, hN.warm hW⟩⟩ rfl rfl hl.1 rfl (lv_room (Nat.le_of_ble_eq_true rfl)) dX8_writeTables_30 ⟨(Nat.zero_le _), (Nat.zero_le _)⟩) hS (fun q _ h => hf9 q h) hf9 (fun u t H locs ht hvm hw hB hz1 hk1 hS => ?_)
  obtain ⟨hP, hK9, hD9⟩ := hB
  rw [ht] at hP
  have hD := hD9.weaken (fun _ q _ h => hf9 q.1 h)
  refine lv_aload_n hx hb dX8_writeTables_33 rfl (lv_at hl 0 rfl) ?_
  refine lv_aloadq_n hx hb dX8_writeTables_34 rfl (lv_at hl 1 rfl) ?_
  refine lv_aload_n hx hb dX8_writeTables_35 rfl (lv_at hl 0 rfl) ?_
  refine va_get (D := D) (ci := 8) (v := .int (y7.1 a 3)) (C := RX8) (T := TX8) (N := 15) hx hb hts (mus hf_X8) hown hK hP a (wld_o ct ad G y7 hc hk (by decide)) rfl 3 (by decide) (hts (.fieldLink RX8 41 "VideoSuite$Units" "count" "I") (mu mw_216)) (fun _ h9 => h9) rfl dX8_writeTables_36 ?_
  obtain ⟨x8, ex8, hF⟩ := ltt_some hF
  refine lv_topi (fun zx8 ezx8 => ?_)
  obtain rfl : x8 = zx8 := ex8.trans ezx8.symm
  obtain ⟨y9, hy9, hF⟩ := bnd_some hF
  have hf9 := wA_in hD hA9 hS
  refine va_callv (va_runV (As := [va_re ad p0, .int x8]) (rest := []) ⟨hx, hb, hml, hown, hts⟩ (kX8_put4 l D ct ad Z G y7 H.size a p0 x8 y9 hc hk hy9) (cwV 2 hts gX8_writeTables_X8_put4 rfl rfl rfl (by decide +kernel) ⟨Nat.le_of_ble_eq_true rfl, Nat.le_of_ble_eq_true rfl⟩) ⟨fun a U g mk q => by obtain ⟨q0, q1, qP, qK, qD, qZ, qN⟩ := q; exact ⟨q0, q1, qP, va_K.moved (u := U) (U := U.calling g mk a) (Vm.Alike.refl U.vm) qK, qD, sF.moved (u := U) (U := U.calling g mk a) (Vm.Alike.refl U.vm) qZ, nF.same rfl qN⟩, va_recv hK hP (ci := 8) (q0 := a) rfl (wld_o ct ad G y7 hc hk (by decide)), fun U hU hW => ⟨rfl, by rw [hU], by rw [hU]; exact hP, va_K.moved hW.alike hK, hD.weaken (fun _ _ _ _ => trivial), by rw [hU]; exact ((hZ.kept hS.2.1).narrow hf9).moved hW.alike, hN.warm hW⟩⟩ rfl rfl hl.1 rfl (lv_room (Nat.le_of_ble_eq_true rfl)) dX8_writeTables_39 ⟨(Nat.zero_le _), (Nat.zero_le _)⟩) hS (fun q _ h => hf9 q h) hf9 (fun u t H locs ht hvm hw hB hz1 hk1 hS => ?_)
  obtain ⟨hP, hK9, hD9⟩ := hB
  rw [ht] at hP
  have hD := hD9.weaken (fun _ q _ h => hf9 q.1 h)
  refine lv_iconst (v := (0 : Int32)) hx hb dX8_writeTables_42 (by decide) ?_
  refine lv_istore_n (lv' := [(2, .int (0 : Int32)), (0, .ref (ad a)), (1, va_re ad p0)]) hx hb dX8_writeTables_43 rfl hl (by decide) (by generalize p0 = o9; cases o9 <;> rfl) (fun ls hl => ?_)
  obtain ⟨y10, hy10, hF⟩ := bnd_some hF
  have K10 : ∀ (H : Heap) (locs : List Loc) (ls : Array Slot), va_P D classes (wld ct ad G y10.2) H → va_D A (wld ct ad G y10.2) → va_S A s.heap H locs → lv_has ls 3 [(2, .int y10.1), (0, .ref (ad a)), (1, va_re ad p0)] → W p l e (headSpec wuX8_writeTables ({ frames := 1, cells := 0, slots := 0, locals := 23 })).room s m ([.ref (ad a), va_re ad p0] : List Value).toArray below meth c H locs 0 0 (MQ below (va_Qv (fun (_ : Unit) => True) (fun _ t => kE D ct ad G A y t) A) ([.ref (ad a), va_re ad p0] : List Value).toArray s 0 0 A) (F0 m 71 ls []) := by
    intro H locs ls hP hD hS hl
    refine lv_aload_n hx hb dX8_writeTables_71 rfl (lv_at hl 1 rfl) ?_
    refine lv_aloadq_n hx hb dX8_writeTables_72 rfl (lv_at hl 2 rfl) ?_
    refine lv_bipush (v := (20 : Int32)) hx hb dX8_writeTables_73 (by decide) ?_
    obtain ⟨y13, hy13, hF⟩ := bnd_some hF
    have hf9 := wA_in hD hA9 hS
    refine va_callv (va_runV (As := [va_re ad p0, .int (20 : Int32)]) (rest := []) ⟨hx, hb, hml, hown, hts⟩ (kX8_put4 l D ct ad Z G y10.2 H.size a p0 ((20 : Int32)) y13 hc hk hy13) (cwV 2 hts gX8_writeTables_X8_put4 rfl rfl rfl (by decide +kernel) ⟨Nat.le_of_ble_eq_true rfl, Nat.le_of_ble_eq_true rfl⟩) ⟨fun a U g mk q => by obtain ⟨q0, q1, qP, qK, qD, qZ, qN⟩ := q; exact ⟨q0, q1, qP, va_K.moved (u := U) (U := U.calling g mk a) (Vm.Alike.refl U.vm) qK, qD, sF.moved (u := U) (U := U.calling g mk a) (Vm.Alike.refl U.vm) qZ, nF.same rfl qN⟩, va_recv hK hP (ci := 8) (q0 := a) rfl (wld_o ct ad G y10.2 hc hk (by decide)), fun U hU hW => ⟨rfl, by rw [hU], by rw [hU]; exact hP, va_K.moved hW.alike hK, hD.weaken (fun _ _ _ _ => trivial), by rw [hU]; exact ((hZ.kept hS.2.1).narrow hf9).moved hW.alike, hN.warm hW⟩⟩ rfl rfl hl.1 rfl (lv_room (Nat.le_of_ble_eq_true rfl)) dX8_writeTables_75 ⟨(Nat.zero_le _), (Nat.zero_le _)⟩) hS (fun q _ h => hf9 q h) hf9 (fun u t H locs ht hvm hw hB hz1 hk1 hS => ?_)
    obtain ⟨hP, hK9, hD9⟩ := hB
    rw [ht] at hP
    have hD := hD9.weaken (fun _ q _ h => hf9 q.1 h)
    refine lv_aload_n hx hb dX8_writeTables_78 rfl (lv_at hl 1 rfl) ?_
    refine lv_aloadq_n hx hb dX8_writeTables_79 rfl (lv_at hl 2 rfl) ?_
    refine lv_ldc (v := (1937007471 : Int32)) hx hb hown (hts (.constant RX8 94 (1937007471 : Int32)) (mu mw_2814)) dX8_writeTables_80 ?_
    obtain ⟨y14, hy14, hF⟩ := bnd_some hF
    have hf9 := wA_in hD hA9 hS
    refine va_callv (va_runV (As := [va_re ad p0, .int (1937007471 : Int32)]) (rest := []) ⟨hx, hb, hml, hown, hts⟩ (kX8_put4 l D ct ad Z G y13 H.size a p0 ((1937007471 : Int32)) y14 hc hk hy14) (cwV 2 hts gX8_writeTables_X8_put4 rfl rfl rfl (by decide +kernel) ⟨Nat.le_of_ble_eq_true rfl, Nat.le_of_ble_eq_true rfl⟩) ⟨fun a U g mk q => by obtain ⟨q0, q1, qP, qK, qD, qZ, qN⟩ := q; exact ⟨q0, q1, qP, va_K.moved (u := U) (U := U.calling g mk a) (Vm.Alike.refl U.vm) qK, qD, sF.moved (u := U) (U := U.calling g mk a) (Vm.Alike.refl U.vm) qZ, nF.same rfl qN⟩, va_recv hK hP (ci := 8) (q0 := a) rfl (wld_o ct ad G y13 hc hk (by decide)), fun U hU hW => ⟨rfl, by rw [hU], by rw [hU]; exact hP, va_K.moved hW.alike hK, hD.weaken (fun _ _ _ _ => trivial), by rw [hU]; exact ((hZ.kept hS.2.1).narrow hf9).moved hW.alike, hN.warm hW⟩⟩ rfl rfl hl.1 rfl (lv_room (Nat.le_of_ble_eq_true rfl)) dX8_writeTables_82 ⟨(Nat.zero_le _), (Nat.zero_le _)⟩) hS (fun q _ h => hf9 q h) hf9 (fun u t H locs ht hvm hw hB hz1 hk1 hS => ?_)
    obtain ⟨hP, hK9, hD9⟩ := hB
    rw [ht] at hP
    have hD := hD9.weaken (fun _ q _ h => hf9 q.1 h)
    refine lv_aload_n hx hb dX8_writeTables_85 rfl (lv_at hl 1 rfl) ?_
    refine lv_aloadq_n hx hb dX8_writeTables_86 rfl (lv_at hl 2 rfl) ?_
    refine lv_iconst (v := (0 : Int32)) hx hb dX8_writeTables_87 (by decide) ?_
    obtain ⟨y15, hy15, hF⟩ := bnd_some hF
    have hf9 := wA_in hD hA9 hS
    refine va_callv (va_runV (As := [va_re ad p0, .int (0 : Int32)]) (rest := []) ⟨hx, hb, hml, hown, hts⟩ (kX8_put4 l D ct ad Z G y14 H.size a p0 ((0 : Int32)) y15 hc hk hy15) (cwV 2 hts gX8_writeTables_X8_put4 rfl rfl rfl (by decide +kernel) ⟨Nat.le_of_ble_eq_true rfl, Nat.le_of_ble_eq_true rfl⟩) ⟨fun a U g mk q => by obtain ⟨q0, q1, qP, qK, qD, qZ, qN⟩ := q; exact ⟨q0, q1, qP, va_K.moved (u := U) (U := U.calling g mk a) (Vm.Alike.refl U.vm) qK, qD, sF.moved (u := U) (U := U.calling g mk a) (Vm.Alike.refl U.vm) qZ, nF.same rfl qN⟩, va_recv hK hP (ci := 8) (q0 := a) rfl (wld_o ct ad G y14 hc hk (by decide)), fun U hU hW => ⟨rfl, by rw [hU], by rw [hU]; exact hP, va_K.moved hW.alike hK, hD.weaken (fun _ _ _ _ => trivial), by rw [hU]; exact ((hZ.kept hS.2.1).narrow hf9).moved hW.alike, hN.warm hW⟩⟩ rfl rfl hl.1 rfl (lv_room (Nat.le_of_ble_eq_true rfl)) dX8_writeTables_88 ⟨(Nat.zero_le _), (Nat.zero_le _)⟩) hS (fun q _ h => hf9 q h) hf9 (fun u t H locs ht hvm hw hB hz1 hk1 hS => ?_)
    obtain ⟨hP, hK9, hD9⟩ := hB
    rw [ht] at hP
    have hD := hD9.weaken (fun _ q _ h => hf9 q.1 h)
    refine lv_aload_n hx hb dX8_writeTables_91 rfl (lv_at hl 1 rfl) ?_
    refine lv_aloadq_n hx hb dX8_writeTables_92 rfl (lv_at hl 2 rfl) ?_
    refine lv_iconst (v := (1 : Int32)) hx hb dX8_writeTables_93 (by decide) ?_
    obtain ⟨y16, hy16, hF⟩ := bnd_some hF
    have hf9 := wA_in hD hA9 hS
    refine va_callv (va_runV (As := [va_re ad p0, .int (1 : Int32)]) (rest := []) ⟨hx, hb, hml, hown, hts⟩ (kX8_put4 l D ct ad Z G y15 H.size a p0 ((1 : Int32)) y16 hc hk hy16) (cwV 2 hts gX8_writeTables_X8_put4 rfl rfl rfl (by decide +kernel) ⟨Nat.le_of_ble_eq_true rfl, Nat.le_of_ble_eq_true rfl⟩) ⟨fun a U g mk q => by obtain ⟨q0, q1, qP, qK, qD, qZ, qN⟩ := q; exact ⟨q0, q1, qP, va_K.moved (u := U) (U := U.calling g mk a) (Vm.Alike.refl U.vm) qK, qD, sF.moved (u := U) (U := U.calling g mk a) (Vm.Alike.refl U.vm) qZ, nF.same rfl qN⟩, va_recv hK hP (ci := 8) (q0 := a) rfl (wld_o ct ad G y15 hc hk (by decide)), fun U hU hW => ⟨rfl, by rw [hU], by rw [hU]; exact hP, va_K.moved hW.alike hK, hD.weaken (fun _ _ _ _ => trivial), by rw [hU]; exact ((hZ.kept hS.2.1).narrow hf9).moved hW.alike, hN.warm hW⟩⟩ rfl rfl hl.1 rfl (lv_room (Nat.le_of_ble_eq_true rfl)) dX8_writeTables_94 ⟨(Nat.zero_le _), (Nat.zero_le _)⟩) hS (fun q _ h => hf9 q h) hf9 (fun u t H locs ht hvm hw hB hz1 hk1 hS => ?_)
    obtain ⟨hP, hK9, hD9⟩ := hB
    rw [ht] at hP
    have hD := hD9.weaken (fun _ q _ h => hf9 q.1 h)
    refine lv_aload_n hx hb dX8_writeTables_97 rfl (lv_at hl 1 rfl) ?_
    refine lv_aloadq_n hx hb dX8_writeTables_98 rfl (lv_at hl 2 rfl) ?_
    refine lv_aload_n hx hb dX8_writeTables_99 rfl (lv_at hl 1 rfl) ?_
    refine va_get (D := D) (ci := 8) (v := .int (y16.1 a 14)) (C := RX8) (T := TX8) (N := 15) hx hb hts (mus hf_X8) hown hK hP a (wld_o ct ad G y16 hc hk (by decide)) rfl 14 (by decide) (hts (.fieldLink RX8 75 "VideoSuite$Units" "fileAt" "I") (mu mw_233)) (fun _ h9 => h9) rfl dX8_writeTables_100 ?_
    obtain ⟨x17, ex17, hF⟩ := ltt_some hF
    refine lv_topi (fun zx17 ezx17 => ?_)
    obtain rfl : x17 = zx17 := ex17.trans ezx17.symm
    refine lv_iconst (v := (4 : Int32)) hx hb dX8_writeTables_103 (by decide) ?_
    refine lv_iadd hx hb dX8_writeTables_104 ?_
    obtain ⟨x18, ex18, hF⟩ := ltt_some hF
    refine lv_topi (fun zx18 ezx18 => ?_)
    obtain rfl : x18 = zx18 := ex18.trans ezx18.symm
    refine lv_bipush (v := (8 : Int32)) hx hb dX8_writeTables_105 (by decide) ?_
    refine lv_iadd hx hb dX8_writeTables_107 ?_
    obtain ⟨x19, ex19, hF⟩ := ltt_some hF
    refine lv_topi (fun zx19 ezx19 => ?_)
    obtain rfl : x19 = zx19 := ex19.trans ezx19.symm
    obtain ⟨y20, hy20, hF⟩ := bnd_some hF
    have hf9 := wA_in hD hA9 hS
    refine va_callv (va_runV (As := [va_re ad p0, .int x19]) (rest := []) ⟨hx, hb, hml, hown, hts⟩ (kX8_put4 l D ct ad Z G y16 H.size a p0 x19 y20 hc hk hy20) (cwV 2 hts gX8_writeTables_X8_put4 rfl rfl rfl (by decide +kernel) ⟨Nat.le_of_ble_eq_true rfl, Nat.le_of_ble_eq_true rfl⟩) ⟨fun a U g mk q => by obtain ⟨q0, q1, qP, qK, qD, qZ, qN⟩ := q; exact ⟨q0, q1, qP, va_K.moved (u := U) (U := U.calling g mk a) (Vm.Alike.refl U.vm) qK, qD, sF.moved (u := U) (U := U.calling g mk a) (Vm.Alike.refl U.vm) qZ, nF.same rfl qN⟩, va_recv hK hP (ci := 8) (q0 := a) rfl (wld_o ct ad G y16 hc hk (by decide)), fun U hU hW => ⟨rfl, by rw [hU], by rw [hU]; exact hP, va_K.moved hW.alike hK, hD.weaken (fun _ _ _ _ => trivial), by rw [hU]; exact ((hZ.kept hS.2.1).narrow hf9).moved hW.alike, hN.warm hW⟩⟩ rfl rfl hl.1 rfl (lv_room (Nat.le_of_ble_eq_true rfl)) dX8_writeTables_108 ⟨(Nat.zero_le _), (Nat.zero_le _)⟩) hS (fun q _ h => hf9 q h) hf9 (fun u t H locs ht hvm hw hB hz1 hk1 hS => ?_)
    obtain ⟨hP, hK9, hD9⟩ := hB
    rw [ht] at hP
    have hD := hD9.weaken (fun _ q _ h => hf9 q.1 h)
    obtain rfl := Option.some.inj hF
    exact W.vret hx hb hr (fun t ht hW => ⟨⟨(), rfl, trivial, ⟨by rw [ht]; exact hP, va_K.moved hW.alike hK, hD⟩⟩, hS.F ht⟩) hS.2.2 dX8_writeTables_111
  clear hF
  refine itr_rule (fun (s11 : Int32 × DD) => ∀ (H : Heap) (locs : List Loc) (ls : Array Slot), va_P D classes (wld ct ad G s11.2) H → va_D A (wld ct ad G s11.2) → va_S A s.heap H locs → lv_has ls 3 [(2, .int s11.1), (0, .ref (ad a)), (1, va_re ad p0)] → W p l e (headSpec wuX8_writeTables ({ frames := 1, cells := 0, slots := 0, locals := 23 })).room s m ([.ref (ad a), va_re ad p0] : List Value).toArray below meth c H locs 0 0 (MQ below (va_Qv (fun (_ : Unit) => True) (fun _ t => kE D ct ad G A y t) A) ([.ref (ad a), va_re ad p0] : List Value).toArray s 0 0 A) (F0 m 44 ls [])) ?_ _ _ hy10 _ _ _ hP hD hS (lv_sub hl [0, 1, 2] rfl)
  rintro s11 ⟨z21, hF, hwz21⟩ H locs ls hP hD hS hl
  try dsimp only at hF
  refine lv_iload_n hx hb dX8_writeTables_44 rfl (lv_at hl 0 rfl) ?_
  refine lv_aload_n hx hb dX8_writeTables_45 rfl (lv_at hl 1 rfl) ?_
  refine va_get (D := D) (ci := 8) (v := .int (s11.2.1 a 3)) (C := RX8) (T := TX8) (N := 15) hx hb hts (mus hf_X8) hown hK hP a (wld_o ct ad G s11.2 hc hk (by decide)) rfl 3 (by decide) (hts (.fieldLink RX8 41 "VideoSuite$Units" "count" "I") (mu mw_216)) (fun _ h9 => h9) rfl dX8_writeTables_46 ?_
  obtain ⟨x22, ex22, hF⟩ := ltt_some hF
  refine lv_topi (fun zx22 ezx22 => ?_)
  obtain rfl : x22 = zx22 := ex22.trans ezx22.symm
  refine lv_icmp_ge (tgt := 71) hx hb dX8_writeTables_49 (by decide) (fun c23 => ?_) (fun c23 => ?_)
  · rw [if_pos c23] at hF
    obtain rfl := Option.some.inj hF
    subst hwz21
    exact K10 _ _ _ hP hD hS (lv_sub hl [0, 1, 2] rfl)
  · rw [if_neg c23] at hF
    refine lv_aload_n hx hb dX8_writeTables_52 rfl (lv_at hl 1 rfl) ?_
    refine lv_aloadq_n hx hb dX8_writeTables_53 rfl (lv_at hl 2 rfl) ?_
    refine lv_iconst (v := (4 : Int32)) hx hb dX8_writeTables_54 (by decide) ?_
    refine lv_aload_n hx hb dX8_writeTables_55 rfl (lv_at hl 1 rfl) ?_
    refine va_get (D := D) (ci := 8) (v := va_re ad (s11.2.2 a 2)) (C := RX8) (T := TX8) (N := 15) hx hb hts (mus hf_X8) hown hK hP a (wld_o ct ad G s11.2 hc hk (by decide)) rfl 2 (by decide) (hts (.fieldLink RX8 20 "VideoSuite$Units" "size" "[I") (mu mw_214)) (fun _ h9 => h9) rfl dX8_writeTables_56 ?_
    refine lv_iload_n hx hb dX8_writeTables_59 rfl (lv_at hl 0 rfl) ?_
    obtain ⟨b24, ho24, hc24, hk24, hF⟩ := dr_some hF
    refine W_st (st' := [.int s11.1, .ref (ad b24), .int (4 : Int32), va_re ad p0, .ref (ad a)]) (by rw [va_some ho24]) ?_
    obtain ⟨hvc, hF⟩ := chk_some hF
    refine va_iald hx hb hK hP b24 1 (wld_i ct ad G s11.2 hc24 hk24) rfl hvc dX8_writeTables_60 ?_
    obtain ⟨x25, ex25, hF⟩ := ltt_some hF
    refine lv_topi (fun zx25 ezx25 => ?_)
    obtain rfl : x25 = zx25 := ex25.trans ezx25.symm
    refine lv_iadd hx hb dX8_writeTables_61 ?_
    obtain ⟨x26, ex26, hF⟩ := ltt_some hF
    refine lv_topi (fun zx26 ezx26 => ?_)
    obtain rfl : x26 = zx26 := ex26.trans ezx26.symm
    obtain ⟨y27, hy27, hF⟩ := bnd_some hF
    have hf9 := wA_in hD hA9 hS
    refine va_callv (va_runV (As := [va_re ad p0, .int x26]) (rest := []) ⟨hx, hb, hml, hown, hts⟩ (kX8_put4 l D ct ad Z G s11.2 H.size a p0 x26 y27 hc hk hy27) (cwV 2 hts gX8_writeTables_X8_put4 rfl rfl rfl (by decide +kernel) ⟨Nat.le_of_ble_eq_true rfl, Nat.le_of_ble_eq_true rfl⟩) ⟨fun a U g mk q => by obtain ⟨q0, q1, qP, qK, qD, qZ, qN⟩ := q; exact ⟨q0, q1, qP, va_K.moved (u := U) (U := U.calling g mk a) (Vm.Alike.refl U.vm) qK, qD, sF.moved (u := U) (U := U.calling g mk a) (Vm.Alike.refl U.vm) qZ, nF.same rfl qN⟩, va_recv hK hP (ci := 8) (q0 := a) rfl (wld_o ct ad G s11.2 hc hk (by decide)), fun U hU hW => ⟨rfl, by rw [hU], by rw [hU]; exact hP, va_K.moved hW.alike hK, hD.weaken (fun _ _ _ _ => trivial), by rw [hU]; exact ((hZ.kept hS.2.1).narrow hf9).moved hW.alike, hN.warm hW⟩⟩ rfl rfl hl.1 rfl (lv_room (Nat.le_of_ble_eq_true rfl)) dX8_writeTables_62 ⟨(Nat.zero_le _), (Nat.zero_le _)⟩) hS (fun q _ h => hf9 q h) hf9 (fun u t H locs ht hvm hw hB hz1 hk1 hS => ?_)
    obtain ⟨hP, hK9, hD9⟩ := hB
    rw [ht] at hP
    have hD := hD9.weaken (fun _ q _ h => hf9 q.1 h)
    obtain ⟨x28, ex28, hF⟩ := ltt_some hF
    refine lv_iinc (v := x28) (lv' := [(2, .int x28), (0, .ref (ad a)), (1, va_re ad p0)]) hx hb dX8_writeTables_65 hl (k := 0) rfl (by rw [ex28]; rfl) (by decide) (by generalize p0 = o9; cases o9 <;> rfl) (fun ls hl => ?_)
    refine lv_goto (tgt := 44) hx hb dX8_writeTables_68 (by decide) ?_
    obtain rfl := Option.some.inj hF
    exact hwz21 _ _ _ hP hD hS (lv_sub hl [0, 1, 2] rfl)
theorem dX9_addGroup_0 : decode cX9_addGroup 0 = .ok (.iconst 4, 1) := by decide +kernel
theorem dX9_addGroup_1 : decode cX9_addGroup 1 = .ok (.aload_n 0, 1) := by decide +kernel
theorem dX9_addGroup_2 : decode cX9_addGroup 2 = .ok (.getfield 138, 3) := by decide +kernel
theorem dX9_addGroup_5 : decode cX9_addGroup 5 = .ok (.imul, 1) := by decide +kernel
theorem dX9_addGroup_6 : decode cX9_addGroup 6 = .ok (.istore 5, 2) := by decide +kernel
theorem dX9_addGroup_8 : decode cX9_addGroup 8 = .ok (.aload_n 0, 1) := by decide +kernel
theorem dX9_addGroup_9 : decode cX9_addGroup 9 = .ok (.getfield 45, 3) := by decide +kernel
theorem dX9_addGroup_12 : decode cX9_addGroup 12 = .ok (.iload 5, 2) := by decide +kernel
theorem dX9_addGroup_14 : decode cX9_addGroup 14 = .ok (.iload_n 1, 1) := by decide +kernel
theorem dX9_addGroup_15 : decode cX9_addGroup 15 = .ok (.iastore, 1) := by decide +kernel
theorem dX9_addGroup_16 : decode cX9_addGroup 16 = .ok (.aload_n 0, 1) := by decide +kernel
theorem dX9_addGroup_17 : decode cX9_addGroup 17 = .ok (.getfield 45, 3) := by decide +kernel
theorem dX9_addGroup_20 : decode cX9_addGroup 20 = .ok (.iload 5, 2) := by decide +kernel
theorem dX9_addGroup_22 : decode cX9_addGroup 22 = .ok (.iconst 1, 1) := by decide +kernel
theorem dX9_addGroup_23 : decode cX9_addGroup 23 = .ok (.iadd, 1) := by decide +kernel
theorem dX9_addGroup_24 : decode cX9_addGroup 24 = .ok (.iload_n 2, 1) := by decide +kernel
theorem dX9_addGroup_25 : decode cX9_addGroup 25 = .ok (.iastore, 1) := by decide +kernel
theorem dX9_addGroup_26 : decode cX9_addGroup 26 = .ok (.aload_n 0, 1) := by decide +kernel
theorem dX9_addGroup_27 : decode cX9_addGroup 27 = .ok (.getfield 45, 3) := by decide +kernel
theorem dX9_addGroup_30 : decode cX9_addGroup 30 = .ok (.iload 5, 2) := by decide +kernel
theorem dX9_addGroup_32 : decode cX9_addGroup 32 = .ok (.iconst 2, 1) := by decide +kernel
theorem dX9_addGroup_33 : decode cX9_addGroup 33 = .ok (.iadd, 1) := by decide +kernel
theorem dX9_addGroup_34 : decode cX9_addGroup 34 = .ok (.iload_n 3, 1) := by decide +kernel
theorem dX9_addGroup_35 : decode cX9_addGroup 35 = .ok (.iastore, 1) := by decide +kernel
theorem dX9_addGroup_36 : decode cX9_addGroup 36 = .ok (.aload_n 0, 1) := by decide +kernel
theorem dX9_addGroup_37 : decode cX9_addGroup 37 = .ok (.getfield 45, 3) := by decide +kernel
theorem dX9_addGroup_40 : decode cX9_addGroup 40 = .ok (.iload 5, 2) := by decide +kernel
theorem dX9_addGroup_42 : decode cX9_addGroup 42 = .ok (.iconst 3, 1) := by decide +kernel
theorem dX9_addGroup_43 : decode cX9_addGroup 43 = .ok (.iadd, 1) := by decide +kernel
theorem dX9_addGroup_44 : decode cX9_addGroup 44 = .ok (.iload 4, 2) := by decide +kernel
theorem dX9_addGroup_46 : decode cX9_addGroup 46 = .ok (.iastore, 1) := by decide +kernel
theorem dX9_addGroup_47 : decode cX9_addGroup 47 = .ok (.aload_n 0, 1) := by decide +kernel
theorem dX9_addGroup_48 : decode cX9_addGroup 48 = .ok (.dup, 1) := by decide +kernel
theorem dX9_addGroup_49 : decode cX9_addGroup 49 = .ok (.getfield 138, 3) := by decide +kernel
theorem dX9_addGroup_52 : decode cX9_addGroup 52 = .ok (.iconst 1, 1) := by decide +kernel
theorem dX9_addGroup_53 : decode cX9_addGroup 53 = .ok (.iadd, 1) := by decide +kernel
theorem dX9_addGroup_54 : decode cX9_addGroup 54 = .ok (.putfield 138, 3) := by decide +kernel
theorem dX9_addGroup_57 : decode cX9_addGroup 57 = .ok (.return_, 1) := by decide +kernel
def FX9_addGroup (G : GG) (M : DD) (a : Nat) (p0 : Int32) (p1 : Int32) (p2 : Int32) (p3 : Int32) : Option (DD) :=
  ltt (M.1 a 16) fun x1 =>
  ltt ((((4 : Int32)) * x1)) fun x2 =>
  dr G 13 ((M.2 a 15)) fun b3 =>
  chk (¬ (x2 < 0 ∨ G.2.2 b3 ≤ x2.toNatClampNeg)) <|
  ltt (uI M b3 x2.toNatClampNeg p0) fun M4 =>
  ltt ((x2 + ((1 : Int32)))) fun x5 =>
  dr G 13 ((M4.2 a 15)) fun b6 =>
  chk (¬ (x5 < 0 ∨ G.2.2 b6 ≤ x5.toNatClampNeg)) <|
  ltt (uI M4 b6 x5.toNatClampNeg p1) fun M7 =>
  ltt ((x2 + ((2 : Int32)))) fun x8 =>
  dr G 13 ((M7.2 a 15)) fun b9 =>
  chk (¬ (x8 < 0 ∨ G.2.2 b9 ≤ x8.toNatClampNeg)) <|
  ltt (uI M7 b9 x8.toNatClampNeg p2) fun M10 =>
  ltt ((x2 + ((3 : Int32)))) fun x11 =>
  dr G 13 ((M10.2 a 15)) fun b12 =>
  chk (¬ (x11 < 0 ∨ G.2.2 b12 ≤ x11.toNatClampNeg)) <|
  ltt (uI M10 b12 x11.toNatClampNeg p3) fun M13 =>
  ltt (M13.1 a 16) fun x14 =>
  ltt ((x14 + ((1 : Int32)))) fun x15 =>
  ltt (uI M13 a 16 x15) fun M16 =>
  some M16
set_option maxHeartbeats 4000000 in
set_option maxRecDepth 100000 in
theorem kX9_addGroup (l : Launch) (D : va_G) (ct : CT) (ad : Nat → Nat) (Z : Nat → Nat) (G : GG) (M : DD) (sz : Nat) (a : Nat) (p0 : Int32) (p1 : Int32) (p2 : Int32) (p3 : Int32) (y : DD) (hc : a < G.1) (hk : G.2.1 a = 9) (hF : FX9_addGroup G M a p0 p1 p2 p3 = some y) : Met l yX9_addGroup wuX9_addGroup ({ frames := 0, cells := 0, slots := 0, locals := 0 }) (va_Pc [.ref (ad a), .int p0, .int p1, .int p2, .int p3] (kB D ct ad Z G M sz)) (va_Qv (fun (_ : Unit) => True) (fun _ t => kE D ct ad G (wA ad G sz) y t) (wA ad G sz)) 0 0 (wA ad G sz) := by
  refine Met.ofW (cc := cX9_addGroup) (maxL := 6) (ret := none) (by decide) rfl ?_
  intro p e s m args below meth c s₁ B hml hv
  obtain ⟨rfl, hsz, hP, hK, hD0, hZ, hN⟩ := hv
  have hx := B.exec
  have hb := B.bytes
  have hr := B.returns
  have hts := atoms_spec (ws := wuX9_addGroup) B.pre
  have hown : s.vm.findClass RX9 = some m.cls := findClass_of_methodNamed B.named
  have hlocks := B.notSynchronized
  subst hsz
  have hD := wD_self (sz := s.heap.size) hD0
  have hA9 : ∀ q, s.heap.size ≤ q → wA ad G s.heap.size q := fun q h => Or.inr h
  generalize hAe : wA ad G s.heap.size = A at hD hA9 hZ ⊢
  have hS : va_S A s.heap s.heap [] := va_S.rf
  have hl := lv_entry ([.ref (ad a), .int p0, .int p1, .int p2, .int p3]) (n := 6) (Nat.le_of_ble_eq_true rfl)
  rw [lg_entry_eq]
  generalize (lg_sl ([.ref (ad a), .int p0, .int p1, .int p2, .int p3]) ++ List.replicate (6 - (lg_sl ([.ref (ad a), .int p0, .int p1, .int p2, .int p3])).length) Slot.unset).toArray = ls at hl ⊢
  have hl : lv_has ls 6 [(0, .ref (ad a)), (1, .int p0), (2, .int p1), (3, .int p2), (4, .int p3)] := hl
  unfold FX9_addGroup at hF
  refine lv_iconst (v := (4 : Int32)) hx hb dX9_addGroup_0 (by decide) ?_
  refine lv_aload_n hx hb dX9_addGroup_1 rfl (lv_at hl 0 rfl) ?_
  refine va_get (D := D) (ci := 9) (v := .int (M.1 a 16)) (C := RX9) (T := TX9) (N := 20) hx hb hts (mus hf_X9) hown hK hP a (wld_o ct ad G M hc hk (by decide)) rfl 16 (by decide) (hts (.fieldLink RX9 138 "VideoSuite$Work" "groups" "I") (mu mw_475)) (fun _ h9 => h9) rfl dX9_addGroup_2 ?_
  obtain ⟨x1, ex1, hF⟩ := ltt_some hF
  refine lv_topi (fun zx1 ezx1 => ?_)
  obtain rfl : x1 = zx1 := ex1.trans ezx1.symm
  refine lv_imul hx hb dX9_addGroup_5 ?_
  obtain ⟨x2, ex2, hF⟩ := ltt_some hF
  refine lv_topi (fun zx2 ezx2 => ?_)
  obtain rfl : x2 = zx2 := ex2.trans ezx2.symm
  refine lv_istore (lv' := [(5, .int x2), (0, .ref (ad a)), (1, .int p0), (2, .int p1), (3, .int p2), (4, .int p3)]) hx hb dX9_addGroup_6 hl (by decide) rfl (fun ls hl => ?_)
  refine lv_aload_n hx hb dX9_addGroup_8 rfl (lv_at hl 1 rfl) ?_
  refine va_get (D := D) (ci := 9) (v := va_re ad (M.2 a 15)) (C := RX9) (T := TX9) (N := 20) hx hb hts (mus hf_X9) hown hK hP a (wld_o ct ad G M hc hk (by decide)) rfl 15 (by decide) (hts (.fieldLink RX9 45 "VideoSuite$Work" "group" "[I") (mu mw_472)) (fun _ h9 => h9) rfl dX9_addGroup_9 ?_
  refine lv_iload hx hb dX9_addGroup_12 (lv_at hl 0 rfl) ?_
  refine lv_iload_n hx hb dX9_addGroup_14 rfl (lv_at hl 2 rfl) ?_
  obtain ⟨b3, ho3, hc3, hk3, hF⟩ := dr_some hF
  refine W_st (st' := [.int p0, .int x2, .ref (ad b3)]) (by rw [va_some ho3]) ?_
  obtain ⟨hvc, hF⟩ := chk_some hF
  refine va_iast hx hb hK hP hD hS b3 1 (wld_i ct ad G M hc3 hk3) rfl hvc dX9_addGroup_15 (fun H locs hP hD hS => ?_)
  obtain ⟨M4, eM4, hF⟩ := ltt_some hF
  rw [set_i ct ad G M hc3 hk3, ← eM4] at hP hD
  refine lv_aload_n hx hb dX9_addGroup_16 rfl (lv_at hl 1 rfl) ?_
  refine va_get (D := D) (ci := 9) (v := va_re ad (M4.2 a 15)) (C := RX9) (T := TX9) (N := 20) hx hb hts (mus hf_X9) hown hK hP a (wld_o ct ad G M4 hc hk (by decide)) rfl 15 (by decide) (hts (.fieldLink RX9 45 "VideoSuite$Work" "group" "[I") (mu mw_472)) (fun _ h9 => h9) rfl dX9_addGroup_17 ?_
  refine lv_iload hx hb dX9_addGroup_20 (lv_at hl 0 rfl) ?_
  refine lv_iconst (v := (1 : Int32)) hx hb dX9_addGroup_22 (by decide) ?_
  refine lv_iadd hx hb dX9_addGroup_23 ?_
  obtain ⟨x5, ex5, hF⟩ := ltt_some hF
  refine lv_topi (fun zx5 ezx5 => ?_)
  obtain rfl : x5 = zx5 := ex5.trans ezx5.symm
  refine lv_iload_n hx hb dX9_addGroup_24 rfl (lv_at hl 3 rfl) ?_
  obtain ⟨b6, ho6, hc6, hk6, hF⟩ := dr_some hF
  refine W_st (st' := [.int p1, .int x5, .ref (ad b6)]) (by rw [va_some ho6]) ?_
  obtain ⟨hvc, hF⟩ := chk_some hF
  refine va_iast hx hb hK hP hD hS b6 1 (wld_i ct ad G M4 hc6 hk6) rfl hvc dX9_addGroup_25 (fun H locs hP hD hS => ?_)
  obtain ⟨M7, eM7, hF⟩ := ltt_some hF
  rw [set_i ct ad G M4 hc6 hk6, ← eM7] at hP hD
  refine lv_aload_n hx hb dX9_addGroup_26 rfl (lv_at hl 1 rfl) ?_
  refine va_get (D := D) (ci := 9) (v := va_re ad (M7.2 a 15)) (C := RX9) (T := TX9) (N := 20) hx hb hts (mus hf_X9) hown hK hP a (wld_o ct ad G M7 hc hk (by decide)) rfl 15 (by decide) (hts (.fieldLink RX9 45 "VideoSuite$Work" "group" "[I") (mu mw_472)) (fun _ h9 => h9) rfl dX9_addGroup_27 ?_
  refine lv_iload hx hb dX9_addGroup_30 (lv_at hl 0 rfl) ?_
  refine lv_iconst (v := (2 : Int32)) hx hb dX9_addGroup_32 (by decide) ?_
  refine lv_iadd hx hb dX9_addGroup_33 ?_
  obtain ⟨x8, ex8, hF⟩ := ltt_some hF
  refine lv_topi (fun zx8 ezx8 => ?_)
  obtain rfl : x8 = zx8 := ex8.trans ezx8.symm
  refine lv_iload_n hx hb dX9_addGroup_34 rfl (lv_at hl 4 rfl) ?_
  obtain ⟨b9, ho9, hc9, hk9, hF⟩ := dr_some hF
  refine W_st (st' := [.int p2, .int x8, .ref (ad b9)]) (by rw [va_some ho9]) ?_
  obtain ⟨hvc, hF⟩ := chk_some hF
  refine va_iast hx hb hK hP hD hS b9 1 (wld_i ct ad G M7 hc9 hk9) rfl hvc dX9_addGroup_35 (fun H locs hP hD hS => ?_)
  obtain ⟨M10, eM10, hF⟩ := ltt_some hF
  rw [set_i ct ad G M7 hc9 hk9, ← eM10] at hP hD
  refine lv_aload_n hx hb dX9_addGroup_36 rfl (lv_at hl 1 rfl) ?_
  refine va_get (D := D) (ci := 9) (v := va_re ad (M10.2 a 15)) (C := RX9) (T := TX9) (N := 20) hx hb hts (mus hf_X9) hown hK hP a (wld_o ct ad G M10 hc hk (by decide)) rfl 15 (by decide) (hts (.fieldLink RX9 45 "VideoSuite$Work" "group" "[I") (mu mw_472)) (fun _ h9 => h9) rfl dX9_addGroup_37 ?_
  refine lv_iload hx hb dX9_addGroup_40 (lv_at hl 0 rfl) ?_
  refine lv_iconst (v := (3 : Int32)) hx hb dX9_addGroup_42 (by decide) ?_
  refine lv_iadd hx hb dX9_addGroup_43 ?_
  obtain ⟨x11, ex11, hF⟩ := ltt_some hF
  refine lv_topi (fun zx11 ezx11 => ?_)
  obtain rfl : x11 = zx11 := ex11.trans ezx11.symm
  refine lv_iload hx hb dX9_addGroup_44 (lv_at hl 5 rfl) ?_
  obtain ⟨b12, ho12, hc12, hk12, hF⟩ := dr_some hF
  refine W_st (st' := [.int p3, .int x11, .ref (ad b12)]) (by rw [va_some ho12]) ?_
  obtain ⟨hvc, hF⟩ := chk_some hF
  refine va_iast hx hb hK hP hD hS b12 1 (wld_i ct ad G M10 hc12 hk12) rfl hvc dX9_addGroup_46 (fun H locs hP hD hS => ?_)
  obtain ⟨M13, eM13, hF⟩ := ltt_some hF
  rw [set_i ct ad G M10 hc12 hk12, ← eM13] at hP hD
  refine lv_aload_n hx hb dX9_addGroup_47 rfl (lv_at hl 1 rfl) ?_
  refine lv_dup hx hb dX9_addGroup_48 rfl ?_
  refine va_get (D := D) (ci := 9) (v := .int (M13.1 a 16)) (C := RX9) (T := TX9) (N := 20) hx hb hts (mus hf_X9) hown hK hP a (wld_o ct ad G M13 hc hk (by decide)) rfl 16 (by decide) (hts (.fieldLink RX9 138 "VideoSuite$Work" "groups" "I") (mu mw_475)) (fun _ h9 => h9) rfl dX9_addGroup_49 ?_
  obtain ⟨x14, ex14, hF⟩ := ltt_some hF
  refine lv_topi (fun zx14 ezx14 => ?_)
  obtain rfl : x14 = zx14 := ex14.trans ezx14.symm
  refine lv_iconst (v := (1 : Int32)) hx hb dX9_addGroup_52 (by decide) ?_
  refine lv_iadd hx hb dX9_addGroup_53 ?_
  obtain ⟨x15, ex15, hF⟩ := ltt_some hF
  refine lv_topi (fun zx15 ezx15 => ?_)
  obtain rfl : x15 = zx15 := ex15.trans ezx15.symm
  refine va_put (D := D) (ci := 9) (v := .int x15) (ty := .int) (C := RX9) (T := TX9) (N := 20) hx hb hts (mus hf_X9) tyX9 tyX9_ok nmX9 hown hK hP hD hS a (wld_o ct ad G M13 hc hk (by decide)) rfl 16 (by decide) (hts (.fieldLink RX9 138 "VideoSuite$Work" "groups" "I") (mu mw_475)) (fun _ h9 => h9) rfl (by decide +kernel) rfl rfl (Nat.le_of_ble_eq_true rfl) dX9_addGroup_54 (fun H locs hP hD hS => ?_)
  obtain ⟨M16, eM16, hF⟩ := ltt_some hF
  rw [set_oI ct ad G M13 hc hk (by decide) (by rfl), ← eM16] at hP hD
  obtain rfl := Option.some.inj hF
  exact W.vret hx hb hr (fun t ht hW => ⟨⟨(), rfl, trivial, ⟨by rw [ht]; exact hP, va_K.moved hW.alike hK, hD⟩⟩, hS.F ht⟩) hS.2.2 dX9_addGroup_57
theorem dX9_addPart_0 : decode cX9_addPart 0 = .ok (.iconst 5, 1) := by decide +kernel
theorem dX9_addPart_1 : decode cX9_addPart 1 = .ok (.aload_n 0, 1) := by decide +kernel
theorem dX9_addPart_2 : decode cX9_addPart 2 = .ok (.getfield 135, 3) := by decide +kernel
theorem dX9_addPart_5 : decode cX9_addPart 5 = .ok (.imul, 1) := by decide +kernel
theorem dX9_addPart_6 : decode cX9_addPart 6 = .ok (.istore 5, 2) := by decide +kernel
theorem dX9_addPart_8 : decode cX9_addPart 8 = .ok (.aload_n 0, 1) := by decide +kernel
theorem dX9_addPart_9 : decode cX9_addPart 9 = .ok (.getfield 42, 3) := by decide +kernel
theorem dX9_addPart_12 : decode cX9_addPart 12 = .ok (.iload 5, 2) := by decide +kernel
theorem dX9_addPart_14 : decode cX9_addPart 14 = .ok (.iload_n 1, 1) := by decide +kernel
theorem dX9_addPart_15 : decode cX9_addPart 15 = .ok (.iastore, 1) := by decide +kernel
theorem dX9_addPart_16 : decode cX9_addPart 16 = .ok (.aload_n 0, 1) := by decide +kernel
theorem dX9_addPart_17 : decode cX9_addPart 17 = .ok (.getfield 42, 3) := by decide +kernel
theorem dX9_addPart_20 : decode cX9_addPart 20 = .ok (.iload 5, 2) := by decide +kernel
theorem dX9_addPart_22 : decode cX9_addPart 22 = .ok (.iconst 1, 1) := by decide +kernel
theorem dX9_addPart_23 : decode cX9_addPart 23 = .ok (.iadd, 1) := by decide +kernel
theorem dX9_addPart_24 : decode cX9_addPart 24 = .ok (.iload_n 2, 1) := by decide +kernel
theorem dX9_addPart_25 : decode cX9_addPart 25 = .ok (.iastore, 1) := by decide +kernel
theorem dX9_addPart_26 : decode cX9_addPart 26 = .ok (.aload_n 0, 1) := by decide +kernel
theorem dX9_addPart_27 : decode cX9_addPart 27 = .ok (.getfield 42, 3) := by decide +kernel
theorem dX9_addPart_30 : decode cX9_addPart 30 = .ok (.iload 5, 2) := by decide +kernel
theorem dX9_addPart_32 : decode cX9_addPart 32 = .ok (.iconst 2, 1) := by decide +kernel
theorem dX9_addPart_33 : decode cX9_addPart 33 = .ok (.iadd, 1) := by decide +kernel
theorem dX9_addPart_34 : decode cX9_addPart 34 = .ok (.iload_n 3, 1) := by decide +kernel
theorem dX9_addPart_35 : decode cX9_addPart 35 = .ok (.iastore, 1) := by decide +kernel
theorem dX9_addPart_36 : decode cX9_addPart 36 = .ok (.aload_n 0, 1) := by decide +kernel
theorem dX9_addPart_37 : decode cX9_addPart 37 = .ok (.getfield 42, 3) := by decide +kernel
theorem dX9_addPart_40 : decode cX9_addPart 40 = .ok (.iload 5, 2) := by decide +kernel
theorem dX9_addPart_42 : decode cX9_addPart 42 = .ok (.iconst 3, 1) := by decide +kernel
theorem dX9_addPart_43 : decode cX9_addPart 43 = .ok (.iadd, 1) := by decide +kernel
theorem dX9_addPart_44 : decode cX9_addPart 44 = .ok (.aload_n 0, 1) := by decide +kernel
theorem dX9_addPart_45 : decode cX9_addPart 45 = .ok (.getfield 45, 3) := by decide +kernel
theorem dX9_addPart_48 : decode cX9_addPart 48 = .ok (.iconst 4, 1) := by decide +kernel
theorem dX9_addPart_49 : decode cX9_addPart 49 = .ok (.aload_n 0, 1) := by decide +kernel
theorem dX9_addPart_50 : decode cX9_addPart 50 = .ok (.getfield 138, 3) := by decide +kernel
theorem dX9_addPart_53 : decode cX9_addPart 53 = .ok (.imul, 1) := by decide +kernel
theorem dX9_addPart_54 : decode cX9_addPart 54 = .ok (.iconst 1, 1) := by decide +kernel
theorem dX9_addPart_55 : decode cX9_addPart 55 = .ok (.isub, 1) := by decide +kernel
theorem dX9_addPart_56 : decode cX9_addPart 56 = .ok (.iaload, 1) := by decide +kernel
theorem dX9_addPart_57 : decode cX9_addPart 57 = .ok (.iastore, 1) := by decide +kernel
theorem dX9_addPart_58 : decode cX9_addPart 58 = .ok (.aload_n 0, 1) := by decide +kernel
theorem dX9_addPart_59 : decode cX9_addPart 59 = .ok (.getfield 42, 3) := by decide +kernel
theorem dX9_addPart_62 : decode cX9_addPart 62 = .ok (.iload 5, 2) := by decide +kernel
theorem dX9_addPart_64 : decode cX9_addPart 64 = .ok (.iconst 4, 1) := by decide +kernel
theorem dX9_addPart_65 : decode cX9_addPart 65 = .ok (.iadd, 1) := by decide +kernel
theorem dX9_addPart_66 : decode cX9_addPart 66 = .ok (.iload 4, 2) := by decide +kernel
theorem dX9_addPart_68 : decode cX9_addPart 68 = .ok (.iastore, 1) := by decide +kernel
theorem dX9_addPart_69 : decode cX9_addPart 69 = .ok (.aload_n 0, 1) := by decide +kernel
theorem dX9_addPart_70 : decode cX9_addPart 70 = .ok (.dup, 1) := by decide +kernel
theorem dX9_addPart_71 : decode cX9_addPart 71 = .ok (.getfield 135, 3) := by decide +kernel
theorem dX9_addPart_74 : decode cX9_addPart 74 = .ok (.iconst 1, 1) := by decide +kernel
theorem dX9_addPart_75 : decode cX9_addPart 75 = .ok (.iadd, 1) := by decide +kernel
theorem dX9_addPart_76 : decode cX9_addPart 76 = .ok (.putfield 135, 3) := by decide +kernel
theorem dX9_addPart_79 : decode cX9_addPart 79 = .ok (.return_, 1) := by decide +kernel
def FX9_addPart (G : GG) (M : DD) (a : Nat) (p0 : Int32) (p1 : Int32) (p2 : Int32) (p3 : Int32) : Option (DD) :=
  ltt (M.1 a 14) fun x1 =>
  ltt ((((5 : Int32)) * x1)) fun x2 =>
  dr G 13 ((M.2 a 13)) fun b3 =>
  chk (¬ (x2 < 0 ∨ G.2.2 b3 ≤ x2.toNatClampNeg)) <|
  ltt (uI M b3 x2.toNatClampNeg p0) fun M4 =>
  ltt ((x2 + ((1 : Int32)))) fun x5 =>
  dr G 13 ((M4.2 a 13)) fun b6 =>
  chk (¬ (x5 < 0 ∨ G.2.2 b6 ≤ x5.toNatClampNeg)) <|
  ltt (uI M4 b6 x5.toNatClampNeg p1) fun M7 =>
  ltt ((x2 + ((2 : Int32)))) fun x8 =>
  dr G 13 ((M7.2 a 13)) fun b9 =>
  chk (¬ (x8 < 0 ∨ G.2.2 b9 ≤ x8.toNatClampNeg)) <|
  ltt (uI M7 b9 x8.toNatClampNeg p2) fun M10 =>
  ltt ((x2 + ((3 : Int32)))) fun x11 =>
  ltt (M10.1 a 16) fun x12 =>
  ltt ((((4 : Int32)) * x12)) fun x13 =>
  ltt ((x13 - ((1 : Int32)))) fun x14 =>
  dr G 13 ((M10.2 a 15)) fun b15 =>
  chk (¬ (x14 < 0 ∨ G.2.2 b15 ≤ x14.toNatClampNeg)) <|
  ltt (M10.1 b15 x14.toNatClampNeg) fun x16 =>
  dr G 13 ((M10.2 a 13)) fun b17 =>
  chk (¬ (x11 < 0 ∨ G.2.2 b17 ≤ x11.toNatClampNeg)) <|
  ltt (uI M10 b17 x11.toNatClampNeg x16) fun M18 =>
  ltt ((x2 + ((4 : Int32)))) fun x19 =>
  dr G 13 ((M18.2 a 13)) fun b20 =>
  chk (¬ (x19 < 0 ∨ G.2.2 b20 ≤ x19.toNatClampNeg)) <|
  ltt (uI M18 b20 x19.toNatClampNeg p3) fun M21 =>
  ltt (M21.1 a 14) fun x22 =>
  ltt ((x22 + ((1 : Int32)))) fun x23 =>
  ltt (uI M21 a 14 x23) fun M24 =>
  some M24
set_option maxHeartbeats 4000000 in
set_option maxRecDepth 100000 in
theorem kX9_addPart (l : Launch) (D : va_G) (ct : CT) (ad : Nat → Nat) (Z : Nat → Nat) (G : GG) (M : DD) (sz : Nat) (a : Nat) (p0 : Int32) (p1 : Int32) (p2 : Int32) (p3 : Int32) (y : DD) (hc : a < G.1) (hk : G.2.1 a = 9) (hF : FX9_addPart G M a p0 p1 p2 p3 = some y) : Met l yX9_addPart wuX9_addPart ({ frames := 0, cells := 0, slots := 0, locals := 0 }) (va_Pc [.ref (ad a), .int p0, .int p1, .int p2, .int p3] (kB D ct ad Z G M sz)) (va_Qv (fun (_ : Unit) => True) (fun _ t => kE D ct ad G (wA ad G sz) y t) (wA ad G sz)) 0 0 (wA ad G sz) := by
  refine Met.ofW (cc := cX9_addPart) (maxL := 6) (ret := none) (by decide) rfl ?_
  intro p e s m args below meth c s₁ B hml hv
  obtain ⟨rfl, hsz, hP, hK, hD0, hZ, hN⟩ := hv
  have hx := B.exec
  have hb := B.bytes
  have hr := B.returns
  have hts := atoms_spec (ws := wuX9_addPart) B.pre
  have hown : s.vm.findClass RX9 = some m.cls := findClass_of_methodNamed B.named
  have hlocks := B.notSynchronized
  subst hsz
  have hD := wD_self (sz := s.heap.size) hD0
  have hA9 : ∀ q, s.heap.size ≤ q → wA ad G s.heap.size q := fun q h => Or.inr h
  generalize hAe : wA ad G s.heap.size = A at hD hA9 hZ ⊢
  have hS : va_S A s.heap s.heap [] := va_S.rf
  have hl := lv_entry ([.ref (ad a), .int p0, .int p1, .int p2, .int p3]) (n := 6) (Nat.le_of_ble_eq_true rfl)
  rw [lg_entry_eq]
  generalize (lg_sl ([.ref (ad a), .int p0, .int p1, .int p2, .int p3]) ++ List.replicate (6 - (lg_sl ([.ref (ad a), .int p0, .int p1, .int p2, .int p3])).length) Slot.unset).toArray = ls at hl ⊢
  have hl : lv_has ls 6 [(0, .ref (ad a)), (1, .int p0), (2, .int p1), (3, .int p2), (4, .int p3)] := hl
  unfold FX9_addPart at hF
  refine lv_iconst (v := (5 : Int32)) hx hb dX9_addPart_0 (by decide) ?_
  refine lv_aload_n hx hb dX9_addPart_1 rfl (lv_at hl 0 rfl) ?_
  refine va_get (D := D) (ci := 9) (v := .int (M.1 a 14)) (C := RX9) (T := TX9) (N := 20) hx hb hts (mus hf_X9) hown hK hP a (wld_o ct ad G M hc hk (by decide)) rfl 14 (by decide) (hts (.fieldLink RX9 135 "VideoSuite$Work" "parts" "I") (mu mw_469)) (fun _ h9 => h9) rfl dX9_addPart_2 ?_
  obtain ⟨x1, ex1, hF⟩ := ltt_some hF
  refine lv_topi (fun zx1 ezx1 => ?_)
  obtain rfl : x1 = zx1 := ex1.trans ezx1.symm
  refine lv_imul hx hb dX9_addPart_5 ?_
  obtain ⟨x2, ex2, hF⟩ := ltt_some hF
  refine lv_topi (fun zx2 ezx2 => ?_)
  obtain rfl : x2 = zx2 := ex2.trans ezx2.symm
  refine lv_istore (lv' := [(5, .int x2), (0, .ref (ad a)), (1, .int p0), (2, .int p1), (3, .int p2), (4, .int p3)]) hx hb dX9_addPart_6 hl (by decide) rfl (fun ls hl => ?_)
  refine lv_aload_n hx hb dX9_addPart_8 rfl (lv_at hl 1 rfl) ?_
  refine va_get (D := D) (ci := 9) (v := va_re ad (M.2 a 13)) (C := RX9) (T := TX9) (N := 20) hx hb hts (mus hf_X9) hown hK hP a (wld_o ct ad G M hc hk (by decide)) rfl 13 (by decide) (hts (.fieldLink RX9 42 "VideoSuite$Work" "part" "[I") (mu mw_466)) (fun _ h9 => h9) rfl dX9_addPart_9 ?_
  refine lv_iload hx hb dX9_addPart_12 (lv_at hl 0 rfl) ?_
  refine lv_iload_n hx hb dX9_addPart_14 rfl (lv_at hl 2 rfl) ?_
  obtain ⟨b3, ho3, hc3, hk3, hF⟩ := dr_some hF
  refine W_st (st' := [.int p0, .int x2, .ref (ad b3)]) (by rw [va_some ho3]) ?_
  obtain ⟨hvc, hF⟩ := chk_some hF
  refine va_iast hx hb hK hP hD hS b3 1 (wld_i ct ad G M hc3 hk3) rfl hvc dX9_addPart_15 (fun H locs hP hD hS => ?_)
  obtain ⟨M4, eM4, hF⟩ := ltt_some hF
  rw [set_i ct ad G M hc3 hk3, ← eM4] at hP hD
  refine lv_aload_n hx hb dX9_addPart_16 rfl (lv_at hl 1 rfl) ?_
  refine va_get (D := D) (ci := 9) (v := va_re ad (M4.2 a 13)) (C := RX9) (T := TX9) (N := 20) hx hb hts (mus hf_X9) hown hK hP a (wld_o ct ad G M4 hc hk (by decide)) rfl 13 (by decide) (hts (.fieldLink RX9 42 "VideoSuite$Work" "part" "[I") (mu mw_466)) (fun _ h9 => h9) rfl dX9_addPart_17 ?_
  refine lv_iload hx hb dX9_addPart_20 (lv_at hl 0 rfl) ?_
  refine lv_iconst (v := (1 : Int32)) hx hb dX9_addPart_22 (by decide) ?_
  refine lv_iadd hx hb dX9_addPart_23 ?_
  obtain ⟨x5, ex5, hF⟩ := ltt_some hF
  refine lv_topi (fun zx5 ezx5 => ?_)
  obtain rfl : x5 = zx5 := ex5.trans ezx5.symm
  refine lv_iload_n hx hb dX9_addPart_24 rfl (lv_at hl 3 rfl) ?_
  obtain ⟨b6, ho6, hc6, hk6, hF⟩ := dr_some hF
  refine W_st (st' := [.int p1, .int x5, .ref (ad b6)]) (by rw [va_some ho6]) ?_
  obtain ⟨hvc, hF⟩ := chk_some hF
  refine va_iast hx hb hK hP hD hS b6 1 (wld_i ct ad G M4 hc6 hk6) rfl hvc dX9_addPart_25 (fun H locs hP hD hS => ?_)
  obtain ⟨M7, eM7, hF⟩ := ltt_some hF
  rw [set_i ct ad G M4 hc6 hk6, ← eM7] at hP hD
  refine lv_aload_n hx hb dX9_addPart_26 rfl (lv_at hl 1 rfl) ?_
  refine va_get (D := D) (ci := 9) (v := va_re ad (M7.2 a 13)) (C := RX9) (T := TX9) (N := 20) hx hb hts (mus hf_X9) hown hK hP a (wld_o ct ad G M7 hc hk (by decide)) rfl 13 (by decide) (hts (.fieldLink RX9 42 "VideoSuite$Work" "part" "[I") (mu mw_466)) (fun _ h9 => h9) rfl dX9_addPart_27 ?_
  refine lv_iload hx hb dX9_addPart_30 (lv_at hl 0 rfl) ?_
  refine lv_iconst (v := (2 : Int32)) hx hb dX9_addPart_32 (by decide) ?_
  refine lv_iadd hx hb dX9_addPart_33 ?_
  obtain ⟨x8, ex8, hF⟩ := ltt_some hF
  refine lv_topi (fun zx8 ezx8 => ?_)
  obtain rfl : x8 = zx8 := ex8.trans ezx8.symm
  refine lv_iload_n hx hb dX9_addPart_34 rfl (lv_at hl 4 rfl) ?_
  obtain ⟨b9, ho9, hc9, hk9, hF⟩ := dr_some hF
  refine W_st (st' := [.int p2, .int x8, .ref (ad b9)]) (by rw [va_some ho9]) ?_
  obtain ⟨hvc, hF⟩ := chk_some hF
  refine va_iast hx hb hK hP hD hS b9 1 (wld_i ct ad G M7 hc9 hk9) rfl hvc dX9_addPart_35 (fun H locs hP hD hS => ?_)
  obtain ⟨M10, eM10, hF⟩ := ltt_some hF
  rw [set_i ct ad G M7 hc9 hk9, ← eM10] at hP hD
  refine lv_aload_n hx hb dX9_addPart_36 rfl (lv_at hl 1 rfl) ?_
  refine va_get (D := D) (ci := 9) (v := va_re ad (M10.2 a 13)) (C := RX9) (T := TX9) (N := 20) hx hb hts (mus hf_X9) hown hK hP a (wld_o ct ad G M10 hc hk (by decide)) rfl 13 (by decide) (hts (.fieldLink RX9 42 "VideoSuite$Work" "part" "[I") (mu mw_466)) (fun _ h9 => h9) rfl dX9_addPart_37 ?_
  refine lv_iload hx hb dX9_addPart_40 (lv_at hl 0 rfl) ?_
  refine lv_iconst (v := (3 : Int32)) hx hb dX9_addPart_42 (by decide) ?_
  refine lv_iadd hx hb dX9_addPart_43 ?_
  obtain ⟨x11, ex11, hF⟩ := ltt_some hF
  refine lv_topi (fun zx11 ezx11 => ?_)
  obtain rfl : x11 = zx11 := ex11.trans ezx11.symm
  refine lv_aload_n hx hb dX9_addPart_44 rfl (lv_at hl 1 rfl) ?_
  refine va_get (D := D) (ci := 9) (v := va_re ad (M10.2 a 15)) (C := RX9) (T := TX9) (N := 20) hx hb hts (mus hf_X9) hown hK hP a (wld_o ct ad G M10 hc hk (by decide)) rfl 15 (by decide) (hts (.fieldLink RX9 45 "VideoSuite$Work" "group" "[I") (mu mw_472)) (fun _ h9 => h9) rfl dX9_addPart_45 ?_
  refine lv_iconst (v := (4 : Int32)) hx hb dX9_addPart_48 (by decide) ?_
  refine lv_aload_n hx hb dX9_addPart_49 rfl (lv_at hl 1 rfl) ?_
  refine va_get (D := D) (ci := 9) (v := .int (M10.1 a 16)) (C := RX9) (T := TX9) (N := 20) hx hb hts (mus hf_X9) hown hK hP a (wld_o ct ad G M10 hc hk (by decide)) rfl 16 (by decide) (hts (.fieldLink RX9 138 "VideoSuite$Work" "groups" "I") (mu mw_475)) (fun _ h9 => h9) rfl dX9_addPart_50 ?_
  obtain ⟨x12, ex12, hF⟩ := ltt_some hF
  refine lv_topi (fun zx12 ezx12 => ?_)
  obtain rfl : x12 = zx12 := ex12.trans ezx12.symm
  refine lv_imul hx hb dX9_addPart_53 ?_
  obtain ⟨x13, ex13, hF⟩ := ltt_some hF
  refine lv_topi (fun zx13 ezx13 => ?_)
  obtain rfl : x13 = zx13 := ex13.trans ezx13.symm
  refine lv_iconst (v := (1 : Int32)) hx hb dX9_addPart_54 (by decide) ?_
  refine lv_isub hx hb dX9_addPart_55 ?_
  obtain ⟨x14, ex14, hF⟩ := ltt_some hF
  refine lv_topi (fun zx14 ezx14 => ?_)
  obtain rfl : x14 = zx14 := ex14.trans ezx14.symm
  obtain ⟨b15, ho15, hc15, hk15, hF⟩ := dr_some hF
  refine W_st (st' := [.int x14, .ref (ad b15), .int x11, va_re ad (M10.2 a 13)]) (by rw [va_some ho15]) ?_
  obtain ⟨hvc, hF⟩ := chk_some hF
  refine va_iald hx hb hK hP b15 1 (wld_i ct ad G M10 hc15 hk15) rfl hvc dX9_addPart_56 ?_
  obtain ⟨x16, ex16, hF⟩ := ltt_some hF
  refine lv_topi (fun zx16 ezx16 => ?_)
  obtain rfl : x16 = zx16 := ex16.trans ezx16.symm
  obtain ⟨b17, ho17, hc17, hk17, hF⟩ := dr_some hF
  refine W_st (st' := [.int x16, .int x11, .ref (ad b17)]) (by rw [va_some ho17]) ?_
  obtain ⟨hvc, hF⟩ := chk_some hF
  refine va_iast hx hb hK hP hD hS b17 1 (wld_i ct ad G M10 hc17 hk17) rfl hvc dX9_addPart_57 (fun H locs hP hD hS => ?_)
  obtain ⟨M18, eM18, hF⟩ := ltt_some hF
  rw [set_i ct ad G M10 hc17 hk17, ← eM18] at hP hD
  refine lv_aload_n hx hb dX9_addPart_58 rfl (lv_at hl 1 rfl) ?_
  refine va_get (D := D) (ci := 9) (v := va_re ad (M18.2 a 13)) (C := RX9) (T := TX9) (N := 20) hx hb hts (mus hf_X9) hown hK hP a (wld_o ct ad G M18 hc hk (by decide)) rfl 13 (by decide) (hts (.fieldLink RX9 42 "VideoSuite$Work" "part" "[I") (mu mw_466)) (fun _ h9 => h9) rfl dX9_addPart_59 ?_
  refine lv_iload hx hb dX9_addPart_62 (lv_at hl 0 rfl) ?_
  refine lv_iconst (v := (4 : Int32)) hx hb dX9_addPart_64 (by decide) ?_
  refine lv_iadd hx hb dX9_addPart_65 ?_
  obtain ⟨x19, ex19, hF⟩ := ltt_some hF
  refine lv_topi (fun zx19 ezx19 => ?_)
  obtain rfl : x19 = zx19 := ex19.trans ezx19.symm
  refine lv_iload hx hb dX9_addPart_66 (lv_at hl 5 rfl) ?_
  obtain ⟨b20, ho20, hc20, hk20, hF⟩ := dr_some hF
  refine W_st (st' := [.int p3, .int x19, .ref (ad b20)]) (by rw [va_some ho20]) ?_
  obtain ⟨hvc, hF⟩ := chk_some hF
  refine va_iast hx hb hK hP hD hS b20 1 (wld_i ct ad G M18 hc20 hk20) rfl hvc dX9_addPart_68 (fun H locs hP hD hS => ?_)
  obtain ⟨M21, eM21, hF⟩ := ltt_some hF
  rw [set_i ct ad G M18 hc20 hk20, ← eM21] at hP hD
  refine lv_aload_n hx hb dX9_addPart_69 rfl (lv_at hl 1 rfl) ?_
  refine lv_dup hx hb dX9_addPart_70 rfl ?_
  refine va_get (D := D) (ci := 9) (v := .int (M21.1 a 14)) (C := RX9) (T := TX9) (N := 20) hx hb hts (mus hf_X9) hown hK hP a (wld_o ct ad G M21 hc hk (by decide)) rfl 14 (by decide) (hts (.fieldLink RX9 135 "VideoSuite$Work" "parts" "I") (mu mw_469)) (fun _ h9 => h9) rfl dX9_addPart_71 ?_
  obtain ⟨x22, ex22, hF⟩ := ltt_some hF
  refine lv_topi (fun zx22 ezx22 => ?_)
  obtain rfl : x22 = zx22 := ex22.trans ezx22.symm
  refine lv_iconst (v := (1 : Int32)) hx hb dX9_addPart_74 (by decide) ?_
  refine lv_iadd hx hb dX9_addPart_75 ?_
  obtain ⟨x23, ex23, hF⟩ := ltt_some hF
  refine lv_topi (fun zx23 ezx23 => ?_)
  obtain rfl : x23 = zx23 := ex23.trans ezx23.symm
  refine va_put (D := D) (ci := 9) (v := .int x23) (ty := .int) (C := RX9) (T := TX9) (N := 20) hx hb hts (mus hf_X9) tyX9 tyX9_ok nmX9 hown hK hP hD hS a (wld_o ct ad G M21 hc hk (by decide)) rfl 14 (by decide) (hts (.fieldLink RX9 135 "VideoSuite$Work" "parts" "I") (mu mw_469)) (fun _ h9 => h9) rfl (by decide +kernel) rfl rfl (Nat.le_of_ble_eq_true rfl) dX9_addPart_76 (fun H locs hP hD hS => ?_)
  obtain ⟨M24, eM24, hF⟩ := ltt_some hF
  rw [set_oI ct ad G M21 hc hk (by decide) (by rfl), ← eM24] at hP hD
  obtain rfl := Option.some.inj hF
  exact W.vret hx hb hr (fun t ht hW => ⟨⟨(), rfl, trivial, ⟨by rw [ht]; exact hP, va_K.moved hW.alike hK, hD⟩⟩, hS.F ht⟩) hS.2.2 dX9_addPart_79
theorem dX9_adopt_0 : decode cX9_adopt 0 = .ok (.iconst 2, 1) := by decide +kernel
theorem dX9_adopt_1 : decode cX9_adopt 1 = .ok (.sipush 512, 3) := by decide +kernel
theorem dX9_adopt_4 : decode cX9_adopt 4 = .ok (.iload_n 1, 1) := by decide +kernel
theorem dX9_adopt_5 : decode cX9_adopt 5 = .ok (.imul, 1) := by decide +kernel
theorem dX9_adopt_6 : decode cX9_adopt 6 = .ok (.iload_n 2, 1) := by decide +kernel
theorem dX9_adopt_7 : decode cX9_adopt 7 = .ok (.iadd, 1) := by decide +kernel
theorem dX9_adopt_8 : decode cX9_adopt 8 = .ok (.imul, 1) := by decide +kernel
theorem dX9_adopt_9 : decode cX9_adopt 9 = .ok (.istore_n 3, 1) := by decide +kernel
theorem dX9_adopt_10 : decode cX9_adopt 10 = .ok (.aload_n 0, 1) := by decide +kernel
theorem dX9_adopt_11 : decode cX9_adopt 11 = .ok (.aload_n 0, 1) := by decide +kernel
theorem dX9_adopt_12 : decode cX9_adopt 12 = .ok (.getfield 51, 3) := by decide +kernel
theorem dX9_adopt_15 : decode cX9_adopt 15 = .ok (.getfield 89, 3) := by decide +kernel
theorem dX9_adopt_18 : decode cX9_adopt 18 = .ok (.iload_n 3, 1) := by decide +kernel
theorem dX9_adopt_19 : decode cX9_adopt 19 = .ok (.iaload, 1) := by decide +kernel
theorem dX9_adopt_20 : decode cX9_adopt 20 = .ok (.putfield 173, 3) := by decide +kernel
theorem dX9_adopt_23 : decode cX9_adopt 23 = .ok (.aload_n 0, 1) := by decide +kernel
theorem dX9_adopt_24 : decode cX9_adopt 24 = .ok (.aload_n 0, 1) := by decide +kernel
theorem dX9_adopt_25 : decode cX9_adopt 25 = .ok (.getfield 51, 3) := by decide +kernel
theorem dX9_adopt_28 : decode cX9_adopt 28 = .ok (.getfield 89, 3) := by decide +kernel
theorem dX9_adopt_31 : decode cX9_adopt 31 = .ok (.iload_n 3, 1) := by decide +kernel
theorem dX9_adopt_32 : decode cX9_adopt 32 = .ok (.iconst 1, 1) := by decide +kernel
theorem dX9_adopt_33 : decode cX9_adopt 33 = .ok (.iadd, 1) := by decide +kernel
theorem dX9_adopt_34 : decode cX9_adopt 34 = .ok (.iaload, 1) := by decide +kernel
theorem dX9_adopt_35 : decode cX9_adopt 35 = .ok (.putfield 176, 3) := by decide +kernel
theorem dX9_adopt_38 : decode cX9_adopt 38 = .ok (.return_, 1) := by decide +kernel
def FX9_adopt (G : GG) (M : DD) (a : Nat) (p0 : Int32) (p1 : Int32) : Option (DD) :=
  ltt ((((512 : Int32)) * p0)) fun x1 =>
  ltt ((x1 + p1)) fun x2 =>
  ltt ((((2 : Int32)) * x2)) fun x3 =>
  dr G 4 ((M.2 a 0)) fun b4 =>
  dr G 13 ((M.2 b4 7)) fun b5 =>
  chk (¬ (x3 < 0 ∨ G.2.2 b5 ≤ x3.toNatClampNeg)) <|
  ltt (M.1 b5 x3.toNatClampNeg) fun x6 =>
  ltt (uI M a 18 x6) fun M7 =>
  dr G 4 ((M7.2 a 0)) fun b8 =>
  ltt ((x3 + ((1 : Int32)))) fun x9 =>
  dr G 13 ((M7.2 b8 7)) fun b10 =>
  chk (¬ (x9 < 0 ∨ G.2.2 b10 ≤ x9.toNatClampNeg)) <|
  ltt (M7.1 b10 x9.toNatClampNeg) fun x11 =>
  ltt (uI M7 a 19 x11) fun M12 =>
  some M12
set_option maxHeartbeats 4000000 in
set_option maxRecDepth 100000 in
theorem kX9_adopt (l : Launch) (D : va_G) (ct : CT) (ad : Nat → Nat) (Z : Nat → Nat) (G : GG) (M : DD) (sz : Nat) (a : Nat) (p0 : Int32) (p1 : Int32) (y : DD) (hc : a < G.1) (hk : G.2.1 a = 9) (hF : FX9_adopt G M a p0 p1 = some y) : Met l yX9_adopt wuX9_adopt ({ frames := 0, cells := 0, slots := 0, locals := 0 }) (va_Pc [.ref (ad a), .int p0, .int p1] (kB D ct ad Z G M sz)) (va_Qv (fun (_ : Unit) => True) (fun _ t => kE D ct ad G (wA ad G sz) y t) (wA ad G sz)) 0 0 (wA ad G sz) := by
  refine Met.ofW (cc := cX9_adopt) (maxL := 4) (ret := none) (by decide) rfl ?_
  intro p e s m args below meth c s₁ B hml hv
  obtain ⟨rfl, hsz, hP, hK, hD0, hZ, hN⟩ := hv
  have hx := B.exec
  have hb := B.bytes
  have hr := B.returns
  have hts := atoms_spec (ws := wuX9_adopt) B.pre
  have hown : s.vm.findClass RX9 = some m.cls := findClass_of_methodNamed B.named
  have hlocks := B.notSynchronized
  subst hsz
  have hD := wD_self (sz := s.heap.size) hD0
  have hA9 : ∀ q, s.heap.size ≤ q → wA ad G s.heap.size q := fun q h => Or.inr h
  generalize hAe : wA ad G s.heap.size = A at hD hA9 hZ ⊢
  have hS : va_S A s.heap s.heap [] := va_S.rf
  have hl := lv_entry ([.ref (ad a), .int p0, .int p1]) (n := 4) (Nat.le_of_ble_eq_true rfl)
  rw [lg_entry_eq]
  generalize (lg_sl ([.ref (ad a), .int p0, .int p1]) ++ List.replicate (4 - (lg_sl ([.ref (ad a), .int p0, .int p1])).length) Slot.unset).toArray = ls at hl ⊢
  have hl : lv_has ls 4 [(0, .ref (ad a)), (1, .int p0), (2, .int p1)] := hl
  unfold FX9_adopt at hF
  refine lv_iconst (v := (2 : Int32)) hx hb dX9_adopt_0 (by decide) ?_
  refine lv_sipush (v := (512 : Int32)) hx hb dX9_adopt_1 (by decide) ?_
  refine lv_iload_n hx hb dX9_adopt_4 rfl (lv_at hl 1 rfl) ?_
  refine lv_imul hx hb dX9_adopt_5 ?_
  obtain ⟨x1, ex1, hF⟩ := ltt_some hF
  refine lv_topi (fun zx1 ezx1 => ?_)
  obtain rfl : x1 = zx1 := ex1.trans ezx1.symm
  refine lv_iload_n hx hb dX9_adopt_6 rfl (lv_at hl 2 rfl) ?_
  refine lv_iadd hx hb dX9_adopt_7 ?_
  obtain ⟨x2, ex2, hF⟩ := ltt_some hF
  refine lv_topi (fun zx2 ezx2 => ?_)
  obtain rfl : x2 = zx2 := ex2.trans ezx2.symm
  refine lv_imul hx hb dX9_adopt_8 ?_
  obtain ⟨x3, ex3, hF⟩ := ltt_some hF
  refine lv_topi (fun zx3 ezx3 => ?_)
  obtain rfl : x3 = zx3 := ex3.trans ezx3.symm
  refine lv_istore_n (lv' := [(3, .int x3), (0, .ref (ad a)), (1, .int p0), (2, .int p1)]) hx hb dX9_adopt_9 rfl hl (by decide) rfl (fun ls hl => ?_)
  refine lv_aload_n hx hb dX9_adopt_10 rfl (lv_at hl 1 rfl) ?_
  refine lv_aload_n hx hb dX9_adopt_11 rfl (lv_at hl 1 rfl) ?_
  refine va_get (D := D) (ci := 9) (v := va_re ad (M.2 a 0)) (C := RX9) (T := TX9) (N := 20) hx hb hts (mus hf_X9) hown hK hP a (wld_o ct ad G M hc hk (by decide)) rfl 0 (by decide) (hts (.fieldLink RX9 51 "VideoSuite$Work" "pic" "LVideoSuite$Picture;") (mu mw_422)) (fun _ h9 => h9) rfl dX9_adopt_12 ?_
  obtain ⟨b4, ho4, hc4, hk4, hF⟩ := dr_some hF
  refine W_st (st' := [.ref (ad b4), .ref (ad a)]) (by rw [va_some ho4]) ?_
  refine va_get (D := D) (ci := 4) (v := va_re ad (M.2 b4 7)) (C := RX4) (T := TX4) (N := 18) hx hb hts (mus hf_X4) hown hK hP b4 (wld_o ct ad G M hc4 hk4 (by decide)) rfl 7 (by decide) (hts (.fieldLink RX9 89 "VideoSuite$Picture" "move" "[I") (mu mw_1447)) (fun _ h9 => h9) rfl dX9_adopt_15 ?_
  refine lv_iload_n hx hb dX9_adopt_18 rfl (lv_at hl 0 rfl) ?_
  obtain ⟨b5, ho5, hc5, hk5, hF⟩ := dr_some hF
  refine W_st (st' := [.int x3, .ref (ad b5), .ref (ad a)]) (by rw [va_some ho5]) ?_
  obtain ⟨hvc, hF⟩ := chk_some hF
  refine va_iald hx hb hK hP b5 1 (wld_i ct ad G M hc5 hk5) rfl hvc dX9_adopt_19 ?_
  obtain ⟨x6, ex6, hF⟩ := ltt_some hF
  refine lv_topi (fun zx6 ezx6 => ?_)
  obtain rfl : x6 = zx6 := ex6.trans ezx6.symm
  refine va_put (D := D) (ci := 9) (v := .int x6) (ty := .int) (C := RX9) (T := TX9) (N := 20) hx hb hts (mus hf_X9) tyX9 tyX9_ok nmX9 hown hK hP hD hS a (wld_o ct ad G M hc hk (by decide)) rfl 18 (by decide) (hts (.fieldLink RX9 173 "VideoSuite$Work" "guessX" "I") (mu mw_481)) (fun _ h9 => h9) rfl (by decide +kernel) rfl rfl (Nat.le_of_ble_eq_true rfl) dX9_adopt_20 (fun H locs hP hD hS => ?_)
  obtain ⟨M7, eM7, hF⟩ := ltt_some hF
  rw [set_oI ct ad G M hc hk (by decide) (by rfl), ← eM7] at hP hD
  refine lv_aload_n hx hb dX9_adopt_23 rfl (lv_at hl 1 rfl) ?_
  refine lv_aload_n hx hb dX9_adopt_24 rfl (lv_at hl 1 rfl) ?_
  refine va_get (D := D) (ci := 9) (v := va_re ad (M7.2 a 0)) (C := RX9) (T := TX9) (N := 20) hx hb hts (mus hf_X9) hown hK hP a (wld_o ct ad G M7 hc hk (by decide)) rfl 0 (by decide) (hts (.fieldLink RX9 51 "VideoSuite$Work" "pic" "LVideoSuite$Picture;") (mu mw_422)) (fun _ h9 => h9) rfl dX9_adopt_25 ?_
  obtain ⟨b8, ho8, hc8, hk8, hF⟩ := dr_some hF
  refine W_st (st' := [.ref (ad b8), .ref (ad a)]) (by rw [va_some ho8]) ?_
  refine va_get (D := D) (ci := 4) (v := va_re ad (M7.2 b8 7)) (C := RX4) (T := TX4) (N := 18) hx hb hts (mus hf_X4) hown hK hP b8 (wld_o ct ad G M7 hc8 hk8 (by decide)) rfl 7 (by decide) (hts (.fieldLink RX9 89 "VideoSuite$Picture" "move" "[I") (mu mw_1447)) (fun _ h9 => h9) rfl dX9_adopt_28 ?_
  refine lv_iload_n hx hb dX9_adopt_31 rfl (lv_at hl 0 rfl) ?_
  refine lv_iconst (v := (1 : Int32)) hx hb dX9_adopt_32 (by decide) ?_
  refine lv_iadd hx hb dX9_adopt_33 ?_
  obtain ⟨x9, ex9, hF⟩ := ltt_some hF
  refine lv_topi (fun zx9 ezx9 => ?_)
  obtain rfl : x9 = zx9 := ex9.trans ezx9.symm
  obtain ⟨b10, ho10, hc10, hk10, hF⟩ := dr_some hF
  refine W_st (st' := [.int x9, .ref (ad b10), .ref (ad a)]) (by rw [va_some ho10]) ?_
  obtain ⟨hvc, hF⟩ := chk_some hF
  refine va_iald hx hb hK hP b10 1 (wld_i ct ad G M7 hc10 hk10) rfl hvc dX9_adopt_34 ?_
  obtain ⟨x11, ex11, hF⟩ := ltt_some hF
  refine lv_topi (fun zx11 ezx11 => ?_)
  obtain rfl : x11 = zx11 := ex11.trans ezx11.symm
  refine va_put (D := D) (ci := 9) (v := .int x11) (ty := .int) (C := RX9) (T := TX9) (N := 20) hx hb hts (mus hf_X9) tyX9 tyX9_ok nmX9 hown hK hP hD hS a (wld_o ct ad G M7 hc hk (by decide)) rfl 19 (by decide) (hts (.fieldLink RX9 176 "VideoSuite$Work" "guessY" "I") (mu mw_484)) (fun _ h9 => h9) rfl (by decide +kernel) rfl rfl (Nat.le_of_ble_eq_true rfl) dX9_adopt_35 (fun H locs hP hD hS => ?_)
  obtain ⟨M12, eM12, hF⟩ := ltt_some hF
  rw [set_oI ct ad G M7 hc hk (by decide) (by rfl), ← eM12] at hP hD
  obtain rfl := Option.some.inj hF
  exact W.vret hx hb hr (fun t ht hW => ⟨⟨(), rfl, trivial, ⟨by rw [ht]; exact hP, va_K.moved hW.alike hK, hD⟩⟩, hS.F ht⟩) hS.2.2 dX9_adopt_38
theorem dX9_adoptMedian_0 : decode cX9_adoptMedian 0 = .ok (.iconst 0, 1) := by decide +kernel
theorem dX9_adoptMedian_1 : decode cX9_adoptMedian 1 = .ok (.istore 5, 2) := by decide +kernel
theorem dX9_adoptMedian_3 : decode cX9_adoptMedian 3 = .ok (.iconst 0, 1) := by decide +kernel
theorem dX9_adoptMedian_4 : decode cX9_adoptMedian 4 = .ok (.istore 6, 2) := by decide +kernel
theorem dX9_adoptMedian_6 : decode cX9_adoptMedian 6 = .ok (.sipush 1024, 3) := by decide +kernel
theorem dX9_adoptMedian_9 : decode cX9_adoptMedian 9 = .ok (.iload_n 1, 1) := by decide +kernel
theorem dX9_adoptMedian_10 : decode cX9_adoptMedian 10 = .ok (.imul, 1) := by decide +kernel
theorem dX9_adoptMedian_11 : decode cX9_adoptMedian 11 = .ok (.istore 7, 2) := by decide +kernel
theorem dX9_adoptMedian_13 : decode cX9_adoptMedian 13 = .ok (.iconst 0, 1) := by decide +kernel
theorem dX9_adoptMedian_14 : decode cX9_adoptMedian 14 = .ok (.istore 8, 2) := by decide +kernel
theorem dX9_adoptMedian_16 : decode cX9_adoptMedian 16 = .ok (.iload 8, 2) := by decide +kernel
theorem dX9_adoptMedian_18 : decode cX9_adoptMedian 18 = .ok (.iconst 2, 1) := by decide +kernel
theorem dX9_adoptMedian_19 : decode cX9_adoptMedian 19 = .ok (.if_icmp .ge 170, 3) := by decide +kernel
theorem dX9_adoptMedian_22 : decode cX9_adoptMedian 22 = .ok (.iload_n 2, 1) := by decide +kernel
theorem dX9_adoptMedian_23 : decode cX9_adoptMedian 23 = .ok (.ifCond .ge 7, 3) := by decide +kernel
theorem dX9_adoptMedian_26 : decode cX9_adoptMedian 26 = .ok (.iconst 0, 1) := by decide +kernel
theorem dX9_adoptMedian_27 : decode cX9_adoptMedian 27 = .ok (.goto 20, 3) := by decide +kernel
theorem dX9_adoptMedian_30 : decode cX9_adoptMedian 30 = .ok (.aload_n 0, 1) := by decide +kernel
theorem dX9_adoptMedian_31 : decode cX9_adoptMedian 31 = .ok (.getfield 51, 3) := by decide +kernel
theorem dX9_adoptMedian_34 : decode cX9_adoptMedian 34 = .ok (.getfield 89, 3) := by decide +kernel
theorem dX9_adoptMedian_37 : decode cX9_adoptMedian 37 = .ok (.iload 7, 2) := by decide +kernel
theorem dX9_adoptMedian_39 : decode cX9_adoptMedian 39 = .ok (.iconst 2, 1) := by decide +kernel
theorem dX9_adoptMedian_40 : decode cX9_adoptMedian 40 = .ok (.iload_n 2, 1) := by decide +kernel
theorem dX9_adoptMedian_41 : decode cX9_adoptMedian 41 = .ok (.imul, 1) := by decide +kernel
theorem dX9_adoptMedian_42 : decode cX9_adoptMedian 42 = .ok (.iadd, 1) := by decide +kernel
theorem dX9_adoptMedian_43 : decode cX9_adoptMedian 43 = .ok (.iload 8, 2) := by decide +kernel
theorem dX9_adoptMedian_45 : decode cX9_adoptMedian 45 = .ok (.iadd, 1) := by decide +kernel
theorem dX9_adoptMedian_46 : decode cX9_adoptMedian 46 = .ok (.iaload, 1) := by decide +kernel
theorem dX9_adoptMedian_47 : decode cX9_adoptMedian 47 = .ok (.istore 9, 2) := by decide +kernel
theorem dX9_adoptMedian_49 : decode cX9_adoptMedian 49 = .ok (.iload_n 3, 1) := by decide +kernel
theorem dX9_adoptMedian_50 : decode cX9_adoptMedian 50 = .ok (.ifCond .ge 7, 3) := by decide +kernel
theorem dX9_adoptMedian_53 : decode cX9_adoptMedian 53 = .ok (.iconst 0, 1) := by decide +kernel
theorem dX9_adoptMedian_54 : decode cX9_adoptMedian 54 = .ok (.goto 20, 3) := by decide +kernel
theorem dX9_adoptMedian_57 : decode cX9_adoptMedian 57 = .ok (.aload_n 0, 1) := by decide +kernel
theorem dX9_adoptMedian_58 : decode cX9_adoptMedian 58 = .ok (.getfield 51, 3) := by decide +kernel
theorem dX9_adoptMedian_61 : decode cX9_adoptMedian 61 = .ok (.getfield 89, 3) := by decide +kernel
theorem dX9_adoptMedian_64 : decode cX9_adoptMedian 64 = .ok (.iload 7, 2) := by decide +kernel
theorem dX9_adoptMedian_66 : decode cX9_adoptMedian 66 = .ok (.iconst 2, 1) := by decide +kernel
theorem dX9_adoptMedian_67 : decode cX9_adoptMedian 67 = .ok (.iload_n 3, 1) := by decide +kernel
theorem dX9_adoptMedian_68 : decode cX9_adoptMedian 68 = .ok (.imul, 1) := by decide +kernel
theorem dX9_adoptMedian_69 : decode cX9_adoptMedian 69 = .ok (.iadd, 1) := by decide +kernel
theorem dX9_adoptMedian_70 : decode cX9_adoptMedian 70 = .ok (.iload 8, 2) := by decide +kernel
theorem dX9_adoptMedian_72 : decode cX9_adoptMedian 72 = .ok (.iadd, 1) := by decide +kernel
theorem dX9_adoptMedian_73 : decode cX9_adoptMedian 73 = .ok (.iaload, 1) := by decide +kernel
theorem dX9_adoptMedian_74 : decode cX9_adoptMedian 74 = .ok (.istore 10, 2) := by decide +kernel
theorem dX9_adoptMedian_76 : decode cX9_adoptMedian 76 = .ok (.iload 4, 2) := by decide +kernel
theorem dX9_adoptMedian_78 : decode cX9_adoptMedian 78 = .ok (.ifCond .ge 7, 3) := by decide +kernel
theorem dX9_adoptMedian_81 : decode cX9_adoptMedian 81 = .ok (.iconst 0, 1) := by decide +kernel
theorem dX9_adoptMedian_82 : decode cX9_adoptMedian 82 = .ok (.goto 21, 3) := by decide +kernel
theorem dX9_adoptMedian_85 : decode cX9_adoptMedian 85 = .ok (.aload_n 0, 1) := by decide +kernel
theorem dX9_adoptMedian_86 : decode cX9_adoptMedian 86 = .ok (.getfield 51, 3) := by decide +kernel
theorem dX9_adoptMedian_89 : decode cX9_adoptMedian 89 = .ok (.getfield 89, 3) := by decide +kernel
theorem dX9_adoptMedian_92 : decode cX9_adoptMedian 92 = .ok (.iload 7, 2) := by decide +kernel
theorem dX9_adoptMedian_94 : decode cX9_adoptMedian 94 = .ok (.iconst 2, 1) := by decide +kernel
theorem dX9_adoptMedian_95 : decode cX9_adoptMedian 95 = .ok (.iload 4, 2) := by decide +kernel
theorem dX9_adoptMedian_97 : decode cX9_adoptMedian 97 = .ok (.imul, 1) := by decide +kernel
theorem dX9_adoptMedian_98 : decode cX9_adoptMedian 98 = .ok (.iadd, 1) := by decide +kernel
theorem dX9_adoptMedian_99 : decode cX9_adoptMedian 99 = .ok (.iload 8, 2) := by decide +kernel
theorem dX9_adoptMedian_101 : decode cX9_adoptMedian 101 = .ok (.iadd, 1) := by decide +kernel
theorem dX9_adoptMedian_102 : decode cX9_adoptMedian 102 = .ok (.iaload, 1) := by decide +kernel
theorem dX9_adoptMedian_103 : decode cX9_adoptMedian 103 = .ok (.istore 11, 2) := by decide +kernel
theorem dX9_adoptMedian_105 : decode cX9_adoptMedian 105 = .ok (.iload 9, 2) := by decide +kernel
theorem dX9_adoptMedian_107 : decode cX9_adoptMedian 107 = .ok (.iload 10, 2) := by decide +kernel
theorem dX9_adoptMedian_109 : decode cX9_adoptMedian 109 = .ok (.if_icmp .ge 8, 3) := by decide +kernel
theorem dX9_adoptMedian_112 : decode cX9_adoptMedian 112 = .ok (.iload 9, 2) := by decide +kernel
theorem dX9_adoptMedian_114 : decode cX9_adoptMedian 114 = .ok (.goto 5, 3) := by decide +kernel
theorem dX9_adoptMedian_117 : decode cX9_adoptMedian 117 = .ok (.iload 10, 2) := by decide +kernel
theorem dX9_adoptMedian_119 : decode cX9_adoptMedian 119 = .ok (.istore 12, 2) := by decide +kernel
theorem dX9_adoptMedian_121 : decode cX9_adoptMedian 121 = .ok (.iload 9, 2) := by decide +kernel
theorem dX9_adoptMedian_123 : decode cX9_adoptMedian 123 = .ok (.iload 10, 2) := by decide +kernel
theorem dX9_adoptMedian_125 : decode cX9_adoptMedian 125 = .ok (.if_icmp .ge 8, 3) := by decide +kernel
theorem dX9_adoptMedian_128 : decode cX9_adoptMedian 128 = .ok (.iload 10, 2) := by decide +kernel
theorem dX9_adoptMedian_130 : decode cX9_adoptMedian 130 = .ok (.goto 5, 3) := by decide +kernel
theorem dX9_adoptMedian_133 : decode cX9_adoptMedian 133 = .ok (.iload 9, 2) := by decide +kernel
theorem dX9_adoptMedian_135 : decode cX9_adoptMedian 135 = .ok (.istore 13, 2) := by decide +kernel
theorem dX9_adoptMedian_137 : decode cX9_adoptMedian 137 = .ok (.iload 11, 2) := by decide +kernel
theorem dX9_adoptMedian_139 : decode cX9_adoptMedian 139 = .ok (.iload 12, 2) := by decide +kernel
theorem dX9_adoptMedian_141 : decode cX9_adoptMedian 141 = .ok (.if_icmp .ge 8, 3) := by decide +kernel
theorem dX9_adoptMedian_144 : decode cX9_adoptMedian 144 = .ok (.iload 12, 2) := by decide +kernel
theorem dX9_adoptMedian_146 : decode cX9_adoptMedian 146 = .ok (.goto 17, 3) := by decide +kernel
theorem dX9_adoptMedian_149 : decode cX9_adoptMedian 149 = .ok (.iload 11, 2) := by decide +kernel
theorem dX9_adoptMedian_151 : decode cX9_adoptMedian 151 = .ok (.iload 13, 2) := by decide +kernel
theorem dX9_adoptMedian_153 : decode cX9_adoptMedian 153 = .ok (.if_icmp .le 8, 3) := by decide +kernel
theorem dX9_adoptMedian_156 : decode cX9_adoptMedian 156 = .ok (.iload 13, 2) := by decide +kernel
theorem dX9_adoptMedian_158 : decode cX9_adoptMedian 158 = .ok (.goto 5, 3) := by decide +kernel
theorem dX9_adoptMedian_161 : decode cX9_adoptMedian 161 = .ok (.iload 11, 2) := by decide +kernel
theorem dX9_adoptMedian_163 : decode cX9_adoptMedian 163 = .ok (.istore 14, 2) := by decide +kernel
theorem dX9_adoptMedian_165 : decode cX9_adoptMedian 165 = .ok (.iload 8, 2) := by decide +kernel
theorem dX9_adoptMedian_167 : decode cX9_adoptMedian 167 = .ok (.ifCond .ne 8, 3) := by decide +kernel
theorem dX9_adoptMedian_170 : decode cX9_adoptMedian 170 = .ok (.iload 14, 2) := by decide +kernel
theorem dX9_adoptMedian_172 : decode cX9_adoptMedian 172 = .ok (.goto 5, 3) := by decide +kernel
theorem dX9_adoptMedian_175 : decode cX9_adoptMedian 175 = .ok (.iload 5, 2) := by decide +kernel
theorem dX9_adoptMedian_177 : decode cX9_adoptMedian 177 = .ok (.istore 5, 2) := by decide +kernel
theorem dX9_adoptMedian_179 : decode cX9_adoptMedian 179 = .ok (.iload 14, 2) := by decide +kernel
theorem dX9_adoptMedian_181 : decode cX9_adoptMedian 181 = .ok (.istore 6, 2) := by decide +kernel
theorem dX9_adoptMedian_183 : decode cX9_adoptMedian 183 = .ok (.iinc 8 1, 3) := by decide +kernel
theorem dX9_adoptMedian_186 : decode cX9_adoptMedian 186 = .ok (.goto (-170), 3) := by decide +kernel
theorem dX9_adoptMedian_189 : decode cX9_adoptMedian 189 = .ok (.aload_n 0, 1) := by decide +kernel
theorem dX9_adoptMedian_190 : decode cX9_adoptMedian 190 = .ok (.iload 5, 2) := by decide +kernel
theorem dX9_adoptMedian_192 : decode cX9_adoptMedian 192 = .ok (.putfield 173, 3) := by decide +kernel
theorem dX9_adoptMedian_195 : decode cX9_adoptMedian 195 = .ok (.aload_n 0, 1) := by decide +kernel
theorem dX9_adoptMedian_196 : decode cX9_adoptMedian 196 = .ok (.iload 6, 2) := by decide +kernel
theorem dX9_adoptMedian_198 : decode cX9_adoptMedian 198 = .ok (.putfield 176, 3) := by decide +kernel
theorem dX9_adoptMedian_201 : decode cX9_adoptMedian 201 = .ok (.return_, 1) := by decide +kernel
def FX9_adoptMedian (G : GG) (M : DD) (a : Nat) (p0 : Int32) (p1 : Int32) (p2 : Int32) (p3 : Int32) : Option (DD) :=
  ltt ((((1024 : Int32)) * p0)) fun x1 =>
  bnd (itr (fun (s3 : Int32 × Int32 × Int32) => ((if ((2 : Int32)) ≤ s3.2.2 then (some (.inr (s3.1, s3.2.1, s3.2.2))) else
  (bnd (if ((0 : Int32)) ≤ p1 then (dr G 4 ((M.2 a 0)) fun b38 =>
  ltt ((((2 : Int32)) * p1)) fun x39 =>
  ltt ((x1 + x39)) fun x40 =>
  ltt ((x40 + s3.2.2)) fun x41 =>
  dr G 13 ((M.2 b38 7)) fun b42 =>
  chk (¬ (x41 < 0 ∨ G.2.2 b42 ≤ x41.toNatClampNeg)) <|
  ltt (M.1 b42 x41.toNatClampNeg) fun x43 =>
  some (x43)) else
  (some ((0 : Int32)))) fun (y9 : Int32) =>
  bnd (if ((0 : Int32)) ≤ p2 then (dr G 4 ((M.2 a 0)) fun b31 =>
  ltt ((((2 : Int32)) * p2)) fun x32 =>
  ltt ((x1 + x32)) fun x33 =>
  ltt ((x33 + s3.2.2)) fun x34 =>
  dr G 13 ((M.2 b31 7)) fun b35 =>
  chk (¬ (x34 < 0 ∨ G.2.2 b35 ≤ x34.toNatClampNeg)) <|
  ltt (M.1 b35 x34.toNatClampNeg) fun x36 =>
  some (x36)) else
  (some ((0 : Int32)))) fun (y10 : Int32) =>
  bnd (if ((0 : Int32)) ≤ p3 then (dr G 4 ((M.2 a 0)) fun b24 =>
  ltt ((((2 : Int32)) * p3)) fun x25 =>
  ltt ((x1 + x25)) fun x26 =>
  ltt ((x26 + s3.2.2)) fun x27 =>
  dr G 13 ((M.2 b24 7)) fun b28 =>
  chk (¬ (x27 < 0 ∨ G.2.2 b28 ≤ x27.toNatClampNeg)) <|
  ltt (M.1 b28 x27.toNatClampNeg) fun x29 =>
  some (x29)) else
  (some ((0 : Int32)))) fun (y11 : Int32) =>
  bnd (if y10 ≤ y9 then (some (y10)) else
  (some (y9))) fun (y12 : Int32) =>
  bnd (if y10 ≤ y9 then (some (y9)) else
  (some (y10))) fun (y13 : Int32) =>
  bnd (if y12 ≤ y11 then (bnd (if y11 ≤ y13 then (some (y11)) else
  (some (y13))) fun (y19 : Int32) =>
  some (y19)) else
  (some (y12))) fun (y14 : Int32) =>
  bnd (if s3.2.2 = ((0 : Int32)) then (some (y14)) else
  (some (s3.1))) fun (y15 : Int32) =>
  ltt (s3.2.2 + (1 : Int32)) fun x16 =>
  some (.inl (y15, y14, x16)))) : Option ((Int32 × Int32 × Int32) ⊕ (Int32 × Int32 × Int32)))) 1000000 ((0 : Int32), (0 : Int32), (0 : Int32))) fun (y2 : Int32 × Int32 × Int32) =>
  ltt (uI M a 18 y2.1) fun M5 =>
  ltt (uI M5 a 19 y2.2.1) fun M6 =>
  some M6
set_option maxHeartbeats 4000000 in
set_option maxRecDepth 100000 in
theorem kX9_adoptMedian (l : Launch) (D : va_G) (ct : CT) (ad : Nat → Nat) (Z : Nat → Nat) (G : GG) (M : DD) (sz : Nat) (a : Nat) (p0 : Int32) (p1 : Int32) (p2 : Int32) (p3 : Int32) (y : DD) (hc : a < G.1) (hk : G.2.1 a = 9) (hF : FX9_adoptMedian G M a p0 p1 p2 p3 = some y) : Met l yX9_adoptMedian wuX9_adoptMedian ({ frames := 0, cells := 0, slots := 0, locals := 0 }) (va_Pc [.ref (ad a), .int p0, .int p1, .int p2, .int p3] (kB D ct ad Z G M sz)) (va_Qv (fun (_ : Unit) => True) (fun _ t => kE D ct ad G (wA ad G sz) y t) (wA ad G sz)) 0 0 (wA ad G sz) := by
  refine Met.ofW (cc := cX9_adoptMedian) (maxL := 15) (ret := none) (by decide) rfl ?_
  intro p e s m args below meth c s₁ B hml hv
  obtain ⟨rfl, hsz, hP, hK, hD0, hZ, hN⟩ := hv
  have hx := B.exec
  have hb := B.bytes
  have hr := B.returns
  have hts := atoms_spec (ws := wuX9_adoptMedian) B.pre
  have hown : s.vm.findClass RX9 = some m.cls := findClass_of_methodNamed B.named
  have hlocks := B.notSynchronized
  subst hsz
  have hD := wD_self (sz := s.heap.size) hD0
  have hA9 : ∀ q, s.heap.size ≤ q → wA ad G s.heap.size q := fun q h => Or.inr h
  generalize hAe : wA ad G s.heap.size = A at hD hA9 hZ ⊢
  have hS : va_S A s.heap s.heap [] := va_S.rf
  have hl := lv_entry ([.ref (ad a), .int p0, .int p1, .int p2, .int p3]) (n := 15) (Nat.le_of_ble_eq_true rfl)
  rw [lg_entry_eq]
  generalize (lg_sl ([.ref (ad a), .int p0, .int p1, .int p2, .int p3]) ++ List.replicate (15 - (lg_sl ([.ref (ad a), .int p0, .int p1, .int p2, .int p3])).length) Slot.unset).toArray = ls at hl ⊢
  have hl : lv_has ls 15 [(0, .ref (ad a)), (1, .int p0), (2, .int p1), (3, .int p2), (4, .int p3)] := hl
  unfold FX9_adoptMedian at hF
  refine lv_iconst (v := (0 : Int32)) hx hb dX9_adoptMedian_0 (by decide) ?_
  refine lv_istore (lv' := [(5, .int (0 : Int32)), (0, .ref (ad a)), (1, .int p0), (2, .int p1), (3, .int p2), (4, .int p3)]) hx hb dX9_adoptMedian_1 hl (by decide) rfl (fun ls hl => ?_)
  refine lv_iconst (v := (0 : Int32)) hx hb dX9_adoptMedian_3 (by decide) ?_
  refine lv_istore (lv' := [(6, .int (0 : Int32)), (5, .int (0 : Int32)), (0, .ref (ad a)), (1, .int p0), (2, .int p1), (3, .int p2), (4, .int p3)]) hx hb dX9_adoptMedian_4 hl (by decide) rfl (fun ls hl => ?_)
  refine lv_sipush (v := (1024 : Int32)) hx hb dX9_adoptMedian_6 (by decide) ?_
  refine lv_iload_n hx hb dX9_adoptMedian_9 rfl (lv_at hl 3 rfl) ?_
  refine lv_imul hx hb dX9_adoptMedian_10 ?_
  obtain ⟨x1, ex1, hF⟩ := ltt_some hF
  refine lv_topi (fun zx1 ezx1 => ?_)
  obtain rfl : x1 = zx1 := ex1.trans ezx1.symm
  refine lv_istore (lv' := [(7, .int x1), (6, .int (0 : Int32)), (5, .int (0 : Int32)), (0, .ref (ad a)), (1, .int p0), (2, .int p1), (3, .int p2), (4, .int p3)]) hx hb dX9_adoptMedian_11 hl (by decide) rfl (fun ls hl => ?_)
  refine lv_iconst (v := (0 : Int32)) hx hb dX9_adoptMedian_13 (by decide) ?_
  refine lv_istore (lv' := [(8, .int (0 : Int32)), (7, .int x1), (6, .int (0 : Int32)), (5, .int (0 : Int32)), (0, .ref (ad a)), (1, .int p0), (2, .int p1), (3, .int p2), (4, .int p3)]) hx hb dX9_adoptMedian_14 hl (by decide) rfl (fun ls hl => ?_)
  obtain ⟨y2, hy2, hF⟩ := bnd_some hF
  have K2 : ∀ (H : Heap) (locs : List Loc) (ls : Array Slot), va_P D classes (wld ct ad G M) H → va_D A (wld ct ad G M) → va_S A s.heap H locs → lv_has ls 15 [(8, .int y2.2.2), (7, .int x1), (6, .int y2.2.1), (5, .int y2.1), (0, .ref (ad a)), (1, .int p0), (2, .int p1), (3, .int p2), (4, .int p3)] → W p l e (headSpec wuX9_adoptMedian ({ frames := 0, cells := 0, slots := 0, locals := 0 })).room s m ([.ref (ad a), .int p0, .int p1, .int p2, .int p3] : List Value).toArray below meth c H locs 0 0 (MQ below (va_Qv (fun (_ : Unit) => True) (fun _ t => kE D ct ad G A y t) A) ([.ref (ad a), .int p0, .int p1, .int p2, .int p3] : List Value).toArray s 0 0 A) (F0 m 189 ls []) := by
    intro H locs ls hP hD hS hl
    refine lv_aload_n hx hb dX9_adoptMedian_189 rfl (lv_at hl 4 rfl) ?_
    refine lv_iload hx hb dX9_adoptMedian_190 (lv_at hl 3 rfl) ?_
    refine va_put (D := D) (ci := 9) (v := .int y2.1) (ty := .int) (C := RX9) (T := TX9) (N := 20) hx hb hts (mus hf_X9) tyX9 tyX9_ok nmX9 hown hK hP hD hS a (wld_o ct ad G M hc hk (by decide)) rfl 18 (by decide) (hts (.fieldLink RX9 173 "VideoSuite$Work" "guessX" "I") (mu mw_481)) (fun _ h9 => h9) rfl (by decide +kernel) rfl rfl (Nat.le_of_ble_eq_true rfl) dX9_adoptMedian_192 (fun H locs hP hD hS => ?_)
    obtain ⟨M5, eM5, hF⟩ := ltt_some hF
    rw [set_oI ct ad G M hc hk (by decide) (by rfl), ← eM5] at hP hD
    refine lv_aload_n hx hb dX9_adoptMedian_195 rfl (lv_at hl 4 rfl) ?_
    refine lv_iload hx hb dX9_adoptMedian_196 (lv_at hl 2 rfl) ?_
    refine va_put (D := D) (ci := 9) (v := .int y2.2.1) (ty := .int) (C := RX9) (T := TX9) (N := 20) hx hb hts (mus hf_X9) tyX9 tyX9_ok nmX9 hown hK hP hD hS a (wld_o ct ad G M5 hc hk (by decide)) rfl 19 (by decide) (hts (.fieldLink RX9 176 "VideoSuite$Work" "guessY" "I") (mu mw_484)) (fun _ h9 => h9) rfl (by decide +kernel) rfl rfl (Nat.le_of_ble_eq_true rfl) dX9_adoptMedian_198 (fun H locs hP hD hS => ?_)
    obtain ⟨M6, eM6, hF⟩ := ltt_some hF
    rw [set_oI ct ad G M5 hc hk (by decide) (by rfl), ← eM6] at hP hD
    obtain rfl := Option.some.inj hF
    exact W.vret hx hb hr (fun t ht hW => ⟨⟨(), rfl, trivial, ⟨by rw [ht]; exact hP, va_K.moved hW.alike hK, hD⟩⟩, hS.F ht⟩) hS.2.2 dX9_adoptMedian_201
  clear hF
  refine itr_rule (fun (s3 : Int32 × Int32 × Int32) => ∀ (H : Heap) (locs : List Loc) (ls : Array Slot), va_P D classes (wld ct ad G M) H → va_D A (wld ct ad G M) → va_S A s.heap H locs → lv_has ls 15 [(8, .int s3.2.2), (7, .int x1), (6, .int s3.2.1), (5, .int s3.1), (0, .ref (ad a)), (1, .int p0), (2, .int p1), (3, .int p2), (4, .int p3)] → W p l e (headSpec wuX9_adoptMedian ({ frames := 0, cells := 0, slots := 0, locals := 0 })).room s m ([.ref (ad a), .int p0, .int p1, .int p2, .int p3] : List Value).toArray below meth c H locs 0 0 (MQ below (va_Qv (fun (_ : Unit) => True) (fun _ t => kE D ct ad G A y t) A) ([.ref (ad a), .int p0, .int p1, .int p2, .int p3] : List Value).toArray s 0 0 A) (F0 m 16 ls [])) ?_ _ _ hy2 _ _ _ hP hD hS (lv_sub hl [0, 1, 2, 3, 4, 5, 6, 7, 8] rfl)
  rintro s3 ⟨z7, hF, hwz7⟩ H locs ls hP hD hS hl
  try dsimp only at hF
  refine lv_iload hx hb dX9_adoptMedian_16 (lv_at hl 0 rfl) ?_
  refine lv_iconst (v := (2 : Int32)) hx hb dX9_adoptMedian_18 (by decide) ?_
  refine lv_icmp_ge (tgt := 189) hx hb dX9_adoptMedian_19 (by decide) (fun c8 => ?_) (fun c8 => ?_)
  · rw [if_pos c8] at hF
    obtain rfl := Option.some.inj hF
    subst hwz7
    exact K2 _ _ _ hP hD hS (lv_sub hl [0, 1, 2, 3, 4, 5, 6, 7, 8] rfl)
  · rw [if_neg c8] at hF
    refine lv_iload_n hx hb dX9_adoptMedian_22 rfl (lv_at hl 6 rfl) ?_
    obtain ⟨y9, hy9, hF⟩ := bnd_some hF
    have J9 : ∀ (H : Heap) (locs : List Loc) (ls : Array Slot), va_P D classes (wld ct ad G M) H → va_D A (wld ct ad G M) → va_S A s.heap H locs → lv_has ls 15 [(8, .int s3.2.2), (7, .int x1), (6, .int s3.2.1), (5, .int s3.1), (0, .ref (ad a)), (1, .int p0), (2, .int p1), (3, .int p2), (4, .int p3)] → W p l e (headSpec wuX9_adoptMedian ({ frames := 0, cells := 0, slots := 0, locals := 0 })).room s m ([.ref (ad a), .int p0, .int p1, .int p2, .int p3] : List Value).toArray below meth c H locs 0 0 (MQ below (va_Qv (fun (_ : Unit) => True) (fun _ t => kE D ct ad G A y t) A) ([.ref (ad a), .int p0, .int p1, .int p2, .int p3] : List Value).toArray s 0 0 A) (F0 m 47 ls [.int y9]) := by
      intro H locs ls hP hD hS hl
      refine lv_istore (lv' := [(9, .int y9), (8, .int s3.2.2), (7, .int x1), (6, .int s3.2.1), (5, .int s3.1), (0, .ref (ad a)), (1, .int p0), (2, .int p1), (3, .int p2), (4, .int p3)]) hx hb dX9_adoptMedian_47 hl (by decide) rfl (fun ls hl => ?_)
      refine lv_iload_n hx hb dX9_adoptMedian_49 rfl (lv_at hl 8 rfl) ?_
      obtain ⟨y10, hy10, hF⟩ := bnd_some hF
      have J10 : ∀ (H : Heap) (locs : List Loc) (ls : Array Slot), va_P D classes (wld ct ad G M) H → va_D A (wld ct ad G M) → va_S A s.heap H locs → lv_has ls 15 [(9, .int y9), (8, .int s3.2.2), (7, .int x1), (6, .int s3.2.1), (5, .int s3.1), (0, .ref (ad a)), (1, .int p0), (2, .int p1), (3, .int p2), (4, .int p3)] → W p l e (headSpec wuX9_adoptMedian ({ frames := 0, cells := 0, slots := 0, locals := 0 })).room s m ([.ref (ad a), .int p0, .int p1, .int p2, .int p3] : List Value).toArray below meth c H locs 0 0 (MQ below (va_Qv (fun (_ : Unit) => True) (fun _ t => kE D ct ad G A y t) A) ([.ref (ad a), .int p0, .int p1, .int p2, .int p3] : List Value).toArray s 0 0 A) (F0 m 74 ls [.int y10]) := by
        intro H locs ls hP hD hS hl
        refine lv_istore (lv' := [(10, .int y10), (9, .int y9), (8, .int s3.2.2), (7, .int x1), (6, .int s3.2.1), (5, .int s3.1), (0, .ref (ad a)), (1, .int p0), (2, .int p1), (3, .int p2), (4, .int p3)]) hx hb dX9_adoptMedian_74 hl (by decide) rfl (fun ls hl => ?_)
        refine lv_iload hx hb dX9_adoptMedian_76 (lv_at hl 10 rfl) ?_
        obtain ⟨y11, hy11, hF⟩ := bnd_some hF
        have J11 : ∀ (H : Heap) (locs : List Loc) (ls : Array Slot), va_P D classes (wld ct ad G M) H → va_D A (wld ct ad G M) → va_S A s.heap H locs → lv_has ls 15 [(10, .int y10), (9, .int y9), (8, .int s3.2.2), (7, .int x1), (6, .int s3.2.1), (5, .int s3.1), (0, .ref (ad a)), (1, .int p0), (2, .int p1), (3, .int p2), (4, .int p3)] → W p l e (headSpec wuX9_adoptMedian ({ frames := 0, cells := 0, slots := 0, locals := 0 })).room s m ([.ref (ad a), .int p0, .int p1, .int p2, .int p3] : List Value).toArray below meth c H locs 0 0 (MQ below (va_Qv (fun (_ : Unit) => True) (fun _ t => kE D ct ad G A y t) A) ([.ref (ad a), .int p0, .int p1, .int p2, .int p3] : List Value).toArray s 0 0 A) (F0 m 103 ls [.int y11]) := by
          intro H locs ls hP hD hS hl
          refine lv_istore (lv' := [(11, .int y11), (10, .int y10), (9, .int y9), (8, .int s3.2.2), (7, .int x1), (6, .int s3.2.1), (5, .int s3.1), (0, .ref (ad a)), (1, .int p0), (2, .int p1), (3, .int p2), (4, .int p3)]) hx hb dX9_adoptMedian_103 hl (by decide) rfl (fun ls hl => ?_)
          refine lv_iload hx hb dX9_adoptMedian_105 (lv_at hl 2 rfl) ?_
          refine lv_iload hx hb dX9_adoptMedian_107 (lv_at hl 1 rfl) ?_
          obtain ⟨y12, hy12, hF⟩ := bnd_some hF
          have J12 : ∀ (H : Heap) (locs : List Loc) (ls : Array Slot), va_P D classes (wld ct ad G M) H → va_D A (wld ct ad G M) → va_S A s.heap H locs → lv_has ls 15 [(11, .int y11), (10, .int y10), (9, .int y9), (8, .int s3.2.2), (7, .int x1), (6, .int s3.2.1), (5, .int s3.1), (0, .ref (ad a)), (1, .int p0), (2, .int p1), (3, .int p2), (4, .int p3)] → W p l e (headSpec wuX9_adoptMedian ({ frames := 0, cells := 0, slots := 0, locals := 0 })).room s m ([.ref (ad a), .int p0, .int p1, .int p2, .int p3] : List Value).toArray below meth c H locs 0 0 (MQ below (va_Qv (fun (_ : Unit) => True) (fun _ t => kE D ct ad G A y t) A) ([.ref (ad a), .int p0, .int p1, .int p2, .int p3] : List Value).toArray s 0 0 A) (F0 m 119 ls [.int y12]) := by
            intro H locs ls hP hD hS hl
            refine lv_istore (lv' := [(12, .int y12), (11, .int y11), (10, .int y10), (9, .int y9), (8, .int s3.2.2), (7, .int x1), (6, .int s3.2.1), (5, .int s3.1), (0, .ref (ad a)), (1, .int p0), (2, .int p1), (3, .int p2), (4, .int p3)]) hx hb dX9_adoptMedian_119 hl (by decide) rfl (fun ls hl => ?_)
            refine lv_iload hx hb dX9_adoptMedian_121 (lv_at hl 3 rfl) ?_
            refine lv_iload hx hb dX9_adoptMedian_123 (lv_at hl 2 rfl) ?_
            obtain ⟨y13, hy13, hF⟩ := bnd_some hF
            have J13 : ∀ (H : Heap) (locs : List Loc) (ls : Array Slot), va_P D classes (wld ct ad G M) H → va_D A (wld ct ad G M) → va_S A s.heap H locs → lv_has ls 15 [(12, .int y12), (11, .int y11), (10, .int y10), (9, .int y9), (8, .int s3.2.2), (7, .int x1), (6, .int s3.2.1), (5, .int s3.1), (0, .ref (ad a)), (1, .int p0), (2, .int p1), (3, .int p2), (4, .int p3)] → W p l e (headSpec wuX9_adoptMedian ({ frames := 0, cells := 0, slots := 0, locals := 0 })).room s m ([.ref (ad a), .int p0, .int p1, .int p2, .int p3] : List Value).toArray below meth c H locs 0 0 (MQ below (va_Qv (fun (_ : Unit) => True) (fun _ t => kE D ct ad G A y t) A) ([.ref (ad a), .int p0, .int p1, .int p2, .int p3] : List Value).toArray s 0 0 A) (F0 m 135 ls [.int y13]) := by
              intro H locs ls hP hD hS hl
              refine lv_istore (lv' := [(13, .int y13), (12, .int y12), (11, .int y11), (10, .int y10), (9, .int y9), (8, .int s3.2.2), (7, .int x1), (6, .int s3.2.1), (5, .int s3.1), (0, .ref (ad a)), (1, .int p0), (2, .int p1), (3, .int p2), (4, .int p3)]) hx hb dX9_adoptMedian_135 hl (by decide) rfl (fun ls hl => ?_)
              refine lv_iload hx hb dX9_adoptMedian_137 (lv_at hl 2 rfl) ?_
              refine lv_iload hx hb dX9_adoptMedian_139 (lv_at hl 1 rfl) ?_
              obtain ⟨y14, hy14, hF⟩ := bnd_some hF
              have J14 : ∀ (H : Heap) (locs : List Loc) (ls : Array Slot), va_P D classes (wld ct ad G M) H → va_D A (wld ct ad G M) → va_S A s.heap H locs → lv_has ls 15 [(13, .int y13), (12, .int y12), (11, .int y11), (10, .int y10), (9, .int y9), (8, .int s3.2.2), (7, .int x1), (6, .int s3.2.1), (5, .int s3.1), (0, .ref (ad a)), (1, .int p0), (2, .int p1), (3, .int p2), (4, .int p3)] → W p l e (headSpec wuX9_adoptMedian ({ frames := 0, cells := 0, slots := 0, locals := 0 })).room s m ([.ref (ad a), .int p0, .int p1, .int p2, .int p3] : List Value).toArray below meth c H locs 0 0 (MQ below (va_Qv (fun (_ : Unit) => True) (fun _ t => kE D ct ad G A y t) A) ([.ref (ad a), .int p0, .int p1, .int p2, .int p3] : List Value).toArray s 0 0 A) (F0 m 163 ls [.int y14]) := by
                intro H locs ls hP hD hS hl
                refine lv_istore (lv' := [(14, .int y14), (13, .int y13), (12, .int y12), (11, .int y11), (10, .int y10), (9, .int y9), (8, .int s3.2.2), (7, .int x1), (6, .int s3.2.1), (5, .int s3.1), (0, .ref (ad a)), (1, .int p0), (2, .int p1), (3, .int p2), (4, .int p3)]) hx hb dX9_adoptMedian_163 hl (by decide) rfl (fun ls hl => ?_)
                refine lv_iload hx hb dX9_adoptMedian_165 (lv_at hl 6 rfl) ?_
                obtain ⟨y15, hy15, hF⟩ := bnd_some hF
                have J15 : ∀ (H : Heap) (locs : List Loc) (ls : Array Slot), va_P D classes (wld ct ad G M) H → va_D A (wld ct ad G M) → va_S A s.heap H locs → lv_has ls 15 [(14, .int y14), (13, .int y13), (12, .int y12), (11, .int y11), (10, .int y10), (9, .int y9), (8, .int s3.2.2), (7, .int x1), (6, .int s3.2.1), (5, .int s3.1), (0, .ref (ad a)), (1, .int p0), (2, .int p1), (3, .int p2), (4, .int p3)] → W p l e (headSpec wuX9_adoptMedian ({ frames := 0, cells := 0, slots := 0, locals := 0 })).room s m ([.ref (ad a), .int p0, .int p1, .int p2, .int p3] : List Value).toArray below meth c H locs 0 0 (MQ below (va_Qv (fun (_ : Unit) => True) (fun _ t => kE D ct ad G A y t) A) ([.ref (ad a), .int p0, .int p1, .int p2, .int p3] : List Value).toArray s 0 0 A) (F0 m 177 ls [.int y15]) := by
                  intro H locs ls hP hD hS hl
                  refine lv_istore (lv' := [(5, .int y15), (14, .int y14), (13, .int y13), (12, .int y12), (11, .int y11), (10, .int y10), (9, .int y9), (8, .int s3.2.2), (7, .int x1), (6, .int s3.2.1), (0, .ref (ad a)), (1, .int p0), (2, .int p1), (3, .int p2), (4, .int p3)]) hx hb dX9_adoptMedian_177 hl (by decide) rfl (fun ls hl => ?_)
                  refine lv_iload hx hb dX9_adoptMedian_179 (lv_at hl 1 rfl) ?_
                  refine lv_istore (lv' := [(6, .int y14), (5, .int y15), (14, .int y14), (13, .int y13), (12, .int y12), (11, .int y11), (10, .int y10), (9, .int y9), (8, .int s3.2.2), (7, .int x1), (0, .ref (ad a)), (1, .int p0), (2, .int p1), (3, .int p2), (4, .int p3)]) hx hb dX9_adoptMedian_181 hl (by decide) rfl (fun ls hl => ?_)
                  obtain ⟨x16, ex16, hF⟩ := ltt_some hF
                  refine lv_iinc (v := x16) (lv' := [(8, .int x16), (6, .int y14), (5, .int y15), (14, .int y14), (13, .int y13), (12, .int y12), (11, .int y11), (10, .int y10), (9, .int y9), (7, .int x1), (0, .ref (ad a)), (1, .int p0), (2, .int p1), (3, .int p2), (4, .int p3)]) hx hb dX9_adoptMedian_183 hl (k := 8) rfl (by rw [ex16]; rfl) (by decide) rfl (fun ls hl => ?_)
                  refine lv_goto (tgt := 16) hx hb dX9_adoptMedian_186 (by decide) ?_
                  obtain rfl := Option.some.inj hF
                  exact hwz7 _ _ _ hP hD hS (lv_sub hl [0, 9, 1, 2, 10, 11, 12, 13, 14] rfl)
                clear hF
                have hF := hy15
                clear hy15
                refine lv_if_ne (tgt := 175) hx hb dX9_adoptMedian_167 (by decide) (fun c17 => ?_) (fun c17 => ?_)
                · rw [if_neg c17] at hF
                  refine lv_iload hx hb dX9_adoptMedian_175 (lv_at hl 9 rfl) ?_
                  obtain rfl := Option.some.inj hF
                  exact J15 _ _ _ hP hD hS (lv_sub hl [0, 1, 2, 3, 4, 5, 6, 7, 8, 9, 10, 11, 12, 13, 14] rfl)
                · rw [if_pos c17] at hF
                  refine lv_iload hx hb dX9_adoptMedian_170 (lv_at hl 0 rfl) ?_
                  refine lv_goto (tgt := 177) hx hb dX9_adoptMedian_172 (by decide) ?_
                  obtain rfl := Option.some.inj hF
                  exact J15 _ _ _ hP hD hS (lv_sub hl [0, 1, 2, 3, 4, 5, 6, 7, 8, 9, 10, 11, 12, 13, 14] rfl)
              clear hF
              have hF := hy14
              clear hy14
              refine lv_icmp_ge (tgt := 149) hx hb dX9_adoptMedian_141 (by decide) (fun c18 => ?_) (fun c18 => ?_)
              · rw [if_pos c18] at hF
                refine lv_iload hx hb dX9_adoptMedian_149 (lv_at hl 2 rfl) ?_
                refine lv_iload hx hb dX9_adoptMedian_151 (lv_at hl 0 rfl) ?_
                obtain ⟨y19, hy19, hF⟩ := bnd_some hF
                have J19 : ∀ (H : Heap) (locs : List Loc) (ls : Array Slot), va_P D classes (wld ct ad G M) H → va_D A (wld ct ad G M) → va_S A s.heap H locs → lv_has ls 15 [(13, .int y13), (12, .int y12), (11, .int y11), (10, .int y10), (9, .int y9), (8, .int s3.2.2), (7, .int x1), (6, .int s3.2.1), (5, .int s3.1), (0, .ref (ad a)), (1, .int p0), (2, .int p1), (3, .int p2), (4, .int p3)] → W p l e (headSpec wuX9_adoptMedian ({ frames := 0, cells := 0, slots := 0, locals := 0 })).room s m ([.ref (ad a), .int p0, .int p1, .int p2, .int p3] : List Value).toArray below meth c H locs 0 0 (MQ below (va_Qv (fun (_ : Unit) => True) (fun _ t => kE D ct ad G A y t) A) ([.ref (ad a), .int p0, .int p1, .int p2, .int p3] : List Value).toArray s 0 0 A) (F0 m 163 ls [.int y19]) := by
                  intro H locs ls hP hD hS hl
                  obtain rfl := Option.some.inj hF
                  exact J14 _ _ _ hP hD hS (lv_sub hl [0, 1, 2, 3, 4, 5, 6, 7, 8, 9, 10, 11, 12, 13] rfl)
                clear hF
                have hF := hy19
                clear hy19
                refine lv_icmp_le (tgt := 161) hx hb dX9_adoptMedian_153 (by decide) (fun c20 => ?_) (fun c20 => ?_)
                · rw [if_pos c20] at hF
                  refine lv_iload hx hb dX9_adoptMedian_161 (lv_at hl 2 rfl) ?_
                  obtain rfl := Option.some.inj hF
                  exact J19 _ _ _ hP hD hS (lv_sub hl [0, 1, 2, 3, 4, 5, 6, 7, 8, 9, 10, 11, 12, 13] rfl)
                · rw [if_neg c20] at hF
                  refine lv_iload hx hb dX9_adoptMedian_156 (lv_at hl 0 rfl) ?_
                  refine lv_goto (tgt := 163) hx hb dX9_adoptMedian_158 (by decide) ?_
                  obtain rfl := Option.some.inj hF
                  exact J19 _ _ _ hP hD hS (lv_sub hl [0, 1, 2, 3, 4, 5, 6, 7, 8, 9, 10, 11, 12, 13] rfl)
              · rw [if_neg c18] at hF
                refine lv_iload hx hb dX9_adoptMedian_144 (lv_at hl 1 rfl) ?_
                refine lv_goto (tgt := 163) hx hb dX9_adoptMedian_146 (by decide) ?_
                obtain rfl := Option.some.inj hF
                exact J14 _ _ _ hP hD hS (lv_sub hl [0, 1, 2, 3, 4, 5, 6, 7, 8, 9, 10, 11, 12, 13] rfl)
            clear hF
            have hF := hy13
            clear hy13
            refine lv_icmp_ge (tgt := 133) hx hb dX9_adoptMedian_125 (by decide) (fun c21 => ?_) (fun c21 => ?_)
            · rw [if_pos c21] at hF
              refine lv_iload hx hb dX9_adoptMedian_133 (lv_at hl 3 rfl) ?_
              obtain rfl := Option.some.inj hF
              exact J13 _ _ _ hP hD hS (lv_sub hl [0, 1, 2, 3, 4, 5, 6, 7, 8, 9, 10, 11, 12] rfl)
            · rw [if_neg c21] at hF
              refine lv_iload hx hb dX9_adoptMedian_128 (lv_at hl 2 rfl) ?_
              refine lv_goto (tgt := 135) hx hb dX9_adoptMedian_130 (by decide) ?_
              obtain rfl := Option.some.inj hF
              exact J13 _ _ _ hP hD hS (lv_sub hl [0, 1, 2, 3, 4, 5, 6, 7, 8, 9, 10, 11, 12] rfl)
          clear hF
          have hF := hy12
          clear hy12
          refine lv_icmp_ge (tgt := 117) hx hb dX9_adoptMedian_109 (by decide) (fun c22 => ?_) (fun c22 => ?_)
          · rw [if_pos c22] at hF
            refine lv_iload hx hb dX9_adoptMedian_117 (lv_at hl 1 rfl) ?_
            obtain rfl := Option.some.inj hF
            exact J12 _ _ _ hP hD hS (lv_sub hl [0, 1, 2, 3, 4, 5, 6, 7, 8, 9, 10, 11] rfl)
          · rw [if_neg c22] at hF
            refine lv_iload hx hb dX9_adoptMedian_112 (lv_at hl 2 rfl) ?_
            refine lv_goto (tgt := 119) hx hb dX9_adoptMedian_114 (by decide) ?_
            obtain rfl := Option.some.inj hF
            exact J12 _ _ _ hP hD hS (lv_sub hl [0, 1, 2, 3, 4, 5, 6, 7, 8, 9, 10, 11] rfl)
        clear hF
        have hF := hy11
        clear hy11
        refine lv_if_ge (tgt := 85) hx hb dX9_adoptMedian_78 (by decide) (fun c23 => ?_) (fun c23 => ?_)
        · rw [if_pos c23] at hF
          refine lv_aload_n hx hb dX9_adoptMedian_85 rfl (lv_at hl 6 rfl) ?_
          refine va_get (D := D) (ci := 9) (v := va_re ad (M.2 a 0)) (C := RX9) (T := TX9) (N := 20) hx hb hts (mus hf_X9) hown hK hP a (wld_o ct ad G M hc hk (by decide)) rfl 0 (by decide) (hts (.fieldLink RX9 51 "VideoSuite$Work" "pic" "LVideoSuite$Picture;") (mu mw_422)) (fun _ h9 => h9) rfl dX9_adoptMedian_86 ?_
          obtain ⟨b24, ho24, hc24, hk24, hF⟩ := dr_some hF
          refine W_st (st' := [.ref (ad b24)]) (by rw [va_some ho24]) ?_
          refine va_get (D := D) (ci := 4) (v := va_re ad (M.2 b24 7)) (C := RX4) (T := TX4) (N := 18) hx hb hts (mus hf_X4) hown hK hP b24 (wld_o ct ad G M hc24 hk24 (by decide)) rfl 7 (by decide) (hts (.fieldLink RX9 89 "VideoSuite$Picture" "move" "[I") (mu mw_1447)) (fun _ h9 => h9) rfl dX9_adoptMedian_89 ?_
          refine lv_iload hx hb dX9_adoptMedian_92 (lv_at hl 3 rfl) ?_
          refine lv_iconst (v := (2 : Int32)) hx hb dX9_adoptMedian_94 (by decide) ?_
          refine lv_iload hx hb dX9_adoptMedian_95 (lv_at hl 10 rfl) ?_
          refine lv_imul hx hb dX9_adoptMedian_97 ?_
          obtain ⟨x25, ex25, hF⟩ := ltt_some hF
          refine lv_topi (fun zx25 ezx25 => ?_)
          obtain rfl : x25 = zx25 := ex25.trans ezx25.symm
          refine lv_iadd hx hb dX9_adoptMedian_98 ?_
          obtain ⟨x26, ex26, hF⟩ := ltt_some hF
          refine lv_topi (fun zx26 ezx26 => ?_)
          obtain rfl : x26 = zx26 := ex26.trans ezx26.symm
          refine lv_iload hx hb dX9_adoptMedian_99 (lv_at hl 2 rfl) ?_
          refine lv_iadd hx hb dX9_adoptMedian_101 ?_
          obtain ⟨x27, ex27, hF⟩ := ltt_some hF
          refine lv_topi (fun zx27 ezx27 => ?_)
          obtain rfl : x27 = zx27 := ex27.trans ezx27.symm
          obtain ⟨b28, ho28, hc28, hk28, hF⟩ := dr_some hF
          refine W_st (st' := [.int x27, .ref (ad b28)]) (by rw [va_some ho28]) ?_
          obtain ⟨hvc, hF⟩ := chk_some hF
          refine va_iald hx hb hK hP b28 1 (wld_i ct ad G M hc28 hk28) rfl hvc dX9_adoptMedian_102 ?_
          obtain ⟨x29, ex29, hF⟩ := ltt_some hF
          refine lv_topi (fun zx29 ezx29 => ?_)
          obtain rfl : x29 = zx29 := ex29.trans ezx29.symm
          obtain rfl := Option.some.inj hF
          exact J11 _ _ _ hP hD hS (lv_sub hl [0, 1, 2, 3, 4, 5, 6, 7, 8, 9, 10] rfl)
        · rw [if_neg c23] at hF
          refine lv_iconst (v := (0 : Int32)) hx hb dX9_adoptMedian_81 (by decide) ?_
          refine lv_goto (tgt := 103) hx hb dX9_adoptMedian_82 (by decide) ?_
          obtain rfl := Option.some.inj hF
          exact J11 _ _ _ hP hD hS (lv_sub hl [0, 1, 2, 3, 4, 5, 6, 7, 8, 9, 10] rfl)
      clear hF
      have hF := hy10
      clear hy10
      refine lv_if_ge (tgt := 57) hx hb dX9_adoptMedian_50 (by decide) (fun c30 => ?_) (fun c30 => ?_)
      · rw [if_pos c30] at hF
        refine lv_aload_n hx hb dX9_adoptMedian_57 rfl (lv_at hl 5 rfl) ?_
        refine va_get (D := D) (ci := 9) (v := va_re ad (M.2 a 0)) (C := RX9) (T := TX9) (N := 20) hx hb hts (mus hf_X9) hown hK hP a (wld_o ct ad G M hc hk (by decide)) rfl 0 (by decide) (hts (.fieldLink RX9 51 "VideoSuite$Work" "pic" "LVideoSuite$Picture;") (mu mw_422)) (fun _ h9 => h9) rfl dX9_adoptMedian_58 ?_
        obtain ⟨b31, ho31, hc31, hk31, hF⟩ := dr_some hF
        refine W_st (st' := [.ref (ad b31)]) (by rw [va_some ho31]) ?_
        refine va_get (D := D) (ci := 4) (v := va_re ad (M.2 b31 7)) (C := RX4) (T := TX4) (N := 18) hx hb hts (mus hf_X4) hown hK hP b31 (wld_o ct ad G M hc31 hk31 (by decide)) rfl 7 (by decide) (hts (.fieldLink RX9 89 "VideoSuite$Picture" "move" "[I") (mu mw_1447)) (fun _ h9 => h9) rfl dX9_adoptMedian_61 ?_
        refine lv_iload hx hb dX9_adoptMedian_64 (lv_at hl 2 rfl) ?_
        refine lv_iconst (v := (2 : Int32)) hx hb dX9_adoptMedian_66 (by decide) ?_
        refine lv_iload_n hx hb dX9_adoptMedian_67 rfl (lv_at hl 8 rfl) ?_
        refine lv_imul hx hb dX9_adoptMedian_68 ?_
        obtain ⟨x32, ex32, hF⟩ := ltt_some hF
        refine lv_topi (fun zx32 ezx32 => ?_)
        obtain rfl : x32 = zx32 := ex32.trans ezx32.symm
        refine lv_iadd hx hb dX9_adoptMedian_69 ?_
        obtain ⟨x33, ex33, hF⟩ := ltt_some hF
        refine lv_topi (fun zx33 ezx33 => ?_)
        obtain rfl : x33 = zx33 := ex33.trans ezx33.symm
        refine lv_iload hx hb dX9_adoptMedian_70 (lv_at hl 1 rfl) ?_
        refine lv_iadd hx hb dX9_adoptMedian_72 ?_
        obtain ⟨x34, ex34, hF⟩ := ltt_some hF
        refine lv_topi (fun zx34 ezx34 => ?_)
        obtain rfl : x34 = zx34 := ex34.trans ezx34.symm
        obtain ⟨b35, ho35, hc35, hk35, hF⟩ := dr_some hF
        refine W_st (st' := [.int x34, .ref (ad b35)]) (by rw [va_some ho35]) ?_
        obtain ⟨hvc, hF⟩ := chk_some hF
        refine va_iald hx hb hK hP b35 1 (wld_i ct ad G M hc35 hk35) rfl hvc dX9_adoptMedian_73 ?_
        obtain ⟨x36, ex36, hF⟩ := ltt_some hF
        refine lv_topi (fun zx36 ezx36 => ?_)
        obtain rfl : x36 = zx36 := ex36.trans ezx36.symm
        obtain rfl := Option.some.inj hF
        exact J10 _ _ _ hP hD hS (lv_sub hl [0, 1, 2, 3, 4, 5, 6, 7, 8, 9] rfl)
      · rw [if_neg c30] at hF
        refine lv_iconst (v := (0 : Int32)) hx hb dX9_adoptMedian_53 (by decide) ?_
        refine lv_goto (tgt := 74) hx hb dX9_adoptMedian_54 (by decide) ?_
        obtain rfl := Option.some.inj hF
        exact J10 _ _ _ hP hD hS (lv_sub hl [0, 1, 2, 3, 4, 5, 6, 7, 8, 9] rfl)
    clear hF
    have hF := hy9
    clear hy9
    refine lv_if_ge (tgt := 30) hx hb dX9_adoptMedian_23 (by decide) (fun c37 => ?_) (fun c37 => ?_)
    · rw [if_pos c37] at hF
      refine lv_aload_n hx hb dX9_adoptMedian_30 rfl (lv_at hl 4 rfl) ?_
      refine va_get (D := D) (ci := 9) (v := va_re ad (M.2 a 0)) (C := RX9) (T := TX9) (N := 20) hx hb hts (mus hf_X9) hown hK hP a (wld_o ct ad G M hc hk (by decide)) rfl 0 (by decide) (hts (.fieldLink RX9 51 "VideoSuite$Work" "pic" "LVideoSuite$Picture;") (mu mw_422)) (fun _ h9 => h9) rfl dX9_adoptMedian_31 ?_
      obtain ⟨b38, ho38, hc38, hk38, hF⟩ := dr_some hF
      refine W_st (st' := [.ref (ad b38)]) (by rw [va_some ho38]) ?_
      refine va_get (D := D) (ci := 4) (v := va_re ad (M.2 b38 7)) (C := RX4) (T := TX4) (N := 18) hx hb hts (mus hf_X4) hown hK hP b38 (wld_o ct ad G M hc38 hk38 (by decide)) rfl 7 (by decide) (hts (.fieldLink RX9 89 "VideoSuite$Picture" "move" "[I") (mu mw_1447)) (fun _ h9 => h9) rfl dX9_adoptMedian_34 ?_
      refine lv_iload hx hb dX9_adoptMedian_37 (lv_at hl 1 rfl) ?_
      refine lv_iconst (v := (2 : Int32)) hx hb dX9_adoptMedian_39 (by decide) ?_
      refine lv_iload_n hx hb dX9_adoptMedian_40 rfl (lv_at hl 6 rfl) ?_
      refine lv_imul hx hb dX9_adoptMedian_41 ?_
      obtain ⟨x39, ex39, hF⟩ := ltt_some hF
      refine lv_topi (fun zx39 ezx39 => ?_)
      obtain rfl : x39 = zx39 := ex39.trans ezx39.symm
      refine lv_iadd hx hb dX9_adoptMedian_42 ?_
      obtain ⟨x40, ex40, hF⟩ := ltt_some hF
      refine lv_topi (fun zx40 ezx40 => ?_)
      obtain rfl : x40 = zx40 := ex40.trans ezx40.symm
      refine lv_iload hx hb dX9_adoptMedian_43 (lv_at hl 0 rfl) ?_
      refine lv_iadd hx hb dX9_adoptMedian_45 ?_
      obtain ⟨x41, ex41, hF⟩ := ltt_some hF
      refine lv_topi (fun zx41 ezx41 => ?_)
      obtain rfl : x41 = zx41 := ex41.trans ezx41.symm
      obtain ⟨b42, ho42, hc42, hk42, hF⟩ := dr_some hF
      refine W_st (st' := [.int x41, .ref (ad b42)]) (by rw [va_some ho42]) ?_
      obtain ⟨hvc, hF⟩ := chk_some hF
      refine va_iald hx hb hK hP b42 1 (wld_i ct ad G M hc42 hk42) rfl hvc dX9_adoptMedian_46 ?_
      obtain ⟨x43, ex43, hF⟩ := ltt_some hF
      refine lv_topi (fun zx43 ezx43 => ?_)
      obtain rfl : x43 = zx43 := ex43.trans ezx43.symm
      obtain rfl := Option.some.inj hF
      exact J9 _ _ _ hP hD hS (lv_sub hl [0, 1, 2, 3, 4, 5, 6, 7, 8] rfl)
    · rw [if_neg c37] at hF
      refine lv_iconst (v := (0 : Int32)) hx hb dX9_adoptMedian_26 (by decide) ?_
      refine lv_goto (tgt := 47) hx hb dX9_adoptMedian_27 (by decide) ?_
      obtain rfl := Option.some.inj hF
      exact J9 _ _ _ hP hD hS (lv_sub hl [0, 1, 2, 3, 4, 5, 6, 7, 8] rfl)
set_option maxRecDepth 20000 in
theorem gX9_endBlock_X4_at : GoodIn wuX9_endBlock (va_wsS RX9 80 yX4_at wuX4_at) := gu_S mw_1795 mw_1796 mw_185 mw_1797
theorem dX9_endBlock_0 : decode cX9_endBlock 0 = .ok (.aload_n 0, 1) := by decide +kernel
theorem dX9_endBlock_1 : decode cX9_endBlock 1 = .ok (.getfield 24, 3) := by decide +kernel
theorem dX9_endBlock_4 : decode cX9_endBlock 4 = .ok (.bipush 8, 2) := by decide +kernel
theorem dX9_endBlock_6 : decode cX9_endBlock 6 = .ok (.iload_n 1, 1) := by decide +kernel
theorem dX9_endBlock_7 : decode cX9_endBlock 7 = .ok (.imul, 1) := by decide +kernel
theorem dX9_endBlock_8 : decode cX9_endBlock 8 = .ok (.bipush 6, 2) := by decide +kernel
theorem dX9_endBlock_10 : decode cX9_endBlock 10 = .ok (.iadd, 1) := by decide +kernel
theorem dX9_endBlock_11 : decode cX9_endBlock 11 = .ok (.aload_n 0, 1) := by decide +kernel
theorem dX9_endBlock_12 : decode cX9_endBlock 12 = .ok (.getfield 55, 3) := by decide +kernel
theorem dX9_endBlock_15 : decode cX9_endBlock 15 = .ok (.iastore, 1) := by decide +kernel
theorem dX9_endBlock_16 : decode cX9_endBlock 16 = .ok (.aload_n 0, 1) := by decide +kernel
theorem dX9_endBlock_17 : decode cX9_endBlock 17 = .ok (.getfield 36, 3) := by decide +kernel
theorem dX9_endBlock_20 : decode cX9_endBlock 20 = .ok (.iconst 3, 1) := by decide +kernel
theorem dX9_endBlock_21 : decode cX9_endBlock 21 = .ok (.iload_n 1, 1) := by decide +kernel
theorem dX9_endBlock_22 : decode cX9_endBlock 22 = .ok (.imul, 1) := by decide +kernel
theorem dX9_endBlock_23 : decode cX9_endBlock 23 = .ok (.aload_n 0, 1) := by decide +kernel
theorem dX9_endBlock_24 : decode cX9_endBlock 24 = .ok (.getfield 92, 3) := by decide +kernel
theorem dX9_endBlock_27 : decode cX9_endBlock 27 = .ok (.getfield 96, 3) := by decide +kernel
theorem dX9_endBlock_30 : decode cX9_endBlock 30 = .ok (.bipush 13, 2) := by decide +kernel
theorem dX9_endBlock_32 : decode cX9_endBlock 32 = .ok (.iaload, 1) := by decide +kernel
theorem dX9_endBlock_33 : decode cX9_endBlock 33 = .ok (.iastore, 1) := by decide +kernel
theorem dX9_endBlock_34 : decode cX9_endBlock 34 = .ok (.aload_n 0, 1) := by decide +kernel
theorem dX9_endBlock_35 : decode cX9_endBlock 35 = .ok (.getfield 36, 3) := by decide +kernel
theorem dX9_endBlock_38 : decode cX9_endBlock 38 = .ok (.iconst 3, 1) := by decide +kernel
theorem dX9_endBlock_39 : decode cX9_endBlock 39 = .ok (.iload_n 1, 1) := by decide +kernel
theorem dX9_endBlock_40 : decode cX9_endBlock 40 = .ok (.imul, 1) := by decide +kernel
theorem dX9_endBlock_41 : decode cX9_endBlock 41 = .ok (.iconst 1, 1) := by decide +kernel
theorem dX9_endBlock_42 : decode cX9_endBlock 42 = .ok (.iadd, 1) := by decide +kernel
theorem dX9_endBlock_43 : decode cX9_endBlock 43 = .ok (.aload_n 0, 1) := by decide +kernel
theorem dX9_endBlock_44 : decode cX9_endBlock 44 = .ok (.getfield 92, 3) := by decide +kernel
theorem dX9_endBlock_47 : decode cX9_endBlock 47 = .ok (.getfield 96, 3) := by decide +kernel
theorem dX9_endBlock_50 : decode cX9_endBlock 50 = .ok (.bipush 14, 2) := by decide +kernel
theorem dX9_endBlock_52 : decode cX9_endBlock 52 = .ok (.iaload, 1) := by decide +kernel
theorem dX9_endBlock_53 : decode cX9_endBlock 53 = .ok (.iastore, 1) := by decide +kernel
theorem dX9_endBlock_54 : decode cX9_endBlock 54 = .ok (.aload_n 0, 1) := by decide +kernel
theorem dX9_endBlock_55 : decode cX9_endBlock 55 = .ok (.getfield 36, 3) := by decide +kernel
theorem dX9_endBlock_58 : decode cX9_endBlock 58 = .ok (.iconst 3, 1) := by decide +kernel
theorem dX9_endBlock_59 : decode cX9_endBlock 59 = .ok (.iload_n 1, 1) := by decide +kernel
theorem dX9_endBlock_60 : decode cX9_endBlock 60 = .ok (.imul, 1) := by decide +kernel
theorem dX9_endBlock_61 : decode cX9_endBlock 61 = .ok (.iconst 2, 1) := by decide +kernel
theorem dX9_endBlock_62 : decode cX9_endBlock 62 = .ok (.iadd, 1) := by decide +kernel
theorem dX9_endBlock_63 : decode cX9_endBlock 63 = .ok (.aload_n 0, 1) := by decide +kernel
theorem dX9_endBlock_64 : decode cX9_endBlock 64 = .ok (.getfield 92, 3) := by decide +kernel
theorem dX9_endBlock_67 : decode cX9_endBlock 67 = .ok (.getfield 96, 3) := by decide +kernel
theorem dX9_endBlock_70 : decode cX9_endBlock 70 = .ok (.bipush 15, 2) := by decide +kernel
theorem dX9_endBlock_72 : decode cX9_endBlock 72 = .ok (.iaload, 1) := by decide +kernel
theorem dX9_endBlock_73 : decode cX9_endBlock 73 = .ok (.iastore, 1) := by decide +kernel
theorem dX9_endBlock_74 : decode cX9_endBlock 74 = .ok (.iconst 0, 1) := by decide +kernel
theorem dX9_endBlock_75 : decode cX9_endBlock 75 = .ok (.istore_n 2, 1) := by decide +kernel
theorem dX9_endBlock_76 : decode cX9_endBlock 76 = .ok (.iload_n 2, 1) := by decide +kernel
theorem dX9_endBlock_77 : decode cX9_endBlock 77 = .ok (.iconst 2, 1) := by decide +kernel
theorem dX9_endBlock_78 : decode cX9_endBlock 78 = .ok (.if_icmp .ge 96, 3) := by decide +kernel
theorem dX9_endBlock_81 : decode cX9_endBlock 81 = .ok (.iconst 0, 1) := by decide +kernel
theorem dX9_endBlock_82 : decode cX9_endBlock 82 = .ok (.istore_n 3, 1) := by decide +kernel
theorem dX9_endBlock_83 : decode cX9_endBlock 83 = .ok (.iload_n 3, 1) := by decide +kernel
theorem dX9_endBlock_84 : decode cX9_endBlock 84 = .ok (.bipush 16, 2) := by decide +kernel
theorem dX9_endBlock_86 : decode cX9_endBlock 86 = .ok (.if_icmp .ge 82, 3) := by decide +kernel
theorem dX9_endBlock_89 : decode cX9_endBlock 89 = .ok (.aload_n 0, 1) := by decide +kernel
theorem dX9_endBlock_90 : decode cX9_endBlock 90 = .ok (.getfield 51, 3) := by decide +kernel
theorem dX9_endBlock_93 : decode cX9_endBlock 93 = .ok (.getfield 83, 3) := by decide +kernel
theorem dX9_endBlock_96 : decode cX9_endBlock 96 = .ok (.iload_n 2, 1) := by decide +kernel
theorem dX9_endBlock_97 : decode cX9_endBlock 97 = .ok (.bipush 16, 2) := by decide +kernel
theorem dX9_endBlock_99 : decode cX9_endBlock 99 = .ok (.iload_n 1, 1) := by decide +kernel
theorem dX9_endBlock_100 : decode cX9_endBlock 100 = .ok (.imul, 1) := by decide +kernel
theorem dX9_endBlock_101 : decode cX9_endBlock 101 = .ok (.iload_n 3, 1) := by decide +kernel
theorem dX9_endBlock_102 : decode cX9_endBlock 102 = .ok (.iadd, 1) := by decide +kernel
theorem dX9_endBlock_103 : decode cX9_endBlock 103 = .ok (.invokestatic 80, 3) := by decide +kernel
theorem dX9_endBlock_106 : decode cX9_endBlock 106 = .ok (.iaload, 1) := by decide +kernel
theorem dX9_endBlock_107 : decode cX9_endBlock 107 = .ok (.istore 4, 2) := by decide +kernel
theorem dX9_endBlock_109 : decode cX9_endBlock 109 = .ok (.iload 4, 2) := by decide +kernel
theorem dX9_endBlock_111 : decode cX9_endBlock 111 = .ok (.ifCond .lt 51, 3) := by decide +kernel
theorem dX9_endBlock_114 : decode cX9_endBlock 114 = .ok (.iload 4, 2) := by decide +kernel
theorem dX9_endBlock_116 : decode cX9_endBlock 116 = .ok (.bipush 9, 2) := by decide +kernel
theorem dX9_endBlock_118 : decode cX9_endBlock 118 = .ok (.if_icmp .ge 44, 3) := by decide +kernel
theorem dX9_endBlock_121 : decode cX9_endBlock 121 = .ok (.aload_n 0, 1) := by decide +kernel
theorem dX9_endBlock_122 : decode cX9_endBlock 122 = .ok (.getfield 11, 3) := by decide +kernel
theorem dX9_endBlock_125 : decode cX9_endBlock 125 = .ok (.bipush 9, 2) := by decide +kernel
theorem dX9_endBlock_127 : decode cX9_endBlock 127 = .ok (.iload_n 2, 1) := by decide +kernel
theorem dX9_endBlock_128 : decode cX9_endBlock 128 = .ok (.imul, 1) := by decide +kernel
theorem dX9_endBlock_129 : decode cX9_endBlock 129 = .ok (.iload 4, 2) := by decide +kernel
theorem dX9_endBlock_131 : decode cX9_endBlock 131 = .ok (.iadd, 1) := by decide +kernel
theorem dX9_endBlock_132 : decode cX9_endBlock 132 = .ok (.aaload, 1) := by decide +kernel
theorem dX9_endBlock_133 : decode cX9_endBlock 133 = .ok (.ifnull 29, 3) := by decide +kernel
theorem dX9_endBlock_136 : decode cX9_endBlock 136 = .ok (.aload_n 0, 1) := by decide +kernel
theorem dX9_endBlock_137 : decode cX9_endBlock 137 = .ok (.getfield 11, 3) := by decide +kernel
theorem dX9_endBlock_140 : decode cX9_endBlock 140 = .ok (.bipush 9, 2) := by decide +kernel
theorem dX9_endBlock_142 : decode cX9_endBlock 142 = .ok (.iload_n 2, 1) := by decide +kernel
theorem dX9_endBlock_143 : decode cX9_endBlock 143 = .ok (.imul, 1) := by decide +kernel
theorem dX9_endBlock_144 : decode cX9_endBlock 144 = .ok (.iload 4, 2) := by decide +kernel
theorem dX9_endBlock_146 : decode cX9_endBlock 146 = .ok (.iadd, 1) := by decide +kernel
theorem dX9_endBlock_147 : decode cX9_endBlock 147 = .ok (.aaload, 1) := by decide +kernel
theorem dX9_endBlock_148 : decode cX9_endBlock 148 = .ok (.getfield 101, 3) := by decide +kernel
theorem dX9_endBlock_151 : decode cX9_endBlock 151 = .ok (.ifCond .ne 11, 3) := by decide +kernel
theorem dX9_endBlock_154 : decode cX9_endBlock 154 = .ok (.aload_n 0, 1) := by decide +kernel
theorem dX9_endBlock_155 : decode cX9_endBlock 155 = .ok (.getfield 51, 3) := by decide +kernel
theorem dX9_endBlock_158 : decode cX9_endBlock 158 = .ok (.iconst 0, 1) := by decide +kernel
theorem dX9_endBlock_159 : decode cX9_endBlock 159 = .ok (.putfield 101, 3) := by decide +kernel
theorem dX9_endBlock_162 : decode cX9_endBlock 162 = .ok (.iinc 3 1, 3) := by decide +kernel
theorem dX9_endBlock_165 : decode cX9_endBlock 165 = .ok (.goto (-82), 3) := by decide +kernel
theorem dX9_endBlock_168 : decode cX9_endBlock 168 = .ok (.iinc 2 1, 3) := by decide +kernel
theorem dX9_endBlock_171 : decode cX9_endBlock 171 = .ok (.goto (-95), 3) := by decide +kernel
theorem dX9_endBlock_174 : decode cX9_endBlock 174 = .ok (.return_, 1) := by decide +kernel
def FX9_endBlock (G : GG) (M : DD) (a : Nat) (p0 : Int32) : Option (DD) :=
  ltt ((((8 : Int32)) * p0)) fun x1 =>
  ltt ((x1 + ((6 : Int32)))) fun x2 =>
  ltt (M.1 a 11) fun x3 =>
  dr G 13 ((M.2 a 6)) fun b4 =>
  chk (¬ (x2 < 0 ∨ G.2.2 b4 ≤ x2.toNatClampNeg)) <|
  ltt (uI M b4 x2.toNatClampNeg x3) fun M5 =>
  ltt ((((3 : Int32)) * p0)) fun x6 =>
  dr G 3 ((M5.2 a 1)) fun b7 =>
  dr G 13 ((M5.2 b7 0)) fun b8 =>
  chk (¬ (((13 : Int32)) < 0 ∨ G.2.2 b8 ≤ ((13 : Int32)).toNatClampNeg)) <|
  ltt (M5.1 b8 ((13 : Int32)).toNatClampNeg) fun x9 =>
  dr G 13 ((M5.2 a 10)) fun b10 =>
  chk (¬ (x6 < 0 ∨ G.2.2 b10 ≤ x6.toNatClampNeg)) <|
  ltt (uI M5 b10 x6.toNatClampNeg x9) fun M11 =>
  ltt ((((3 : Int32)) * p0)) fun x12 =>
  ltt ((x12 + ((1 : Int32)))) fun x13 =>
  dr G 3 ((M11.2 a 1)) fun b14 =>
  dr G 13 ((M11.2 b14 0)) fun b15 =>
  chk (¬ (((14 : Int32)) < 0 ∨ G.2.2 b15 ≤ ((14 : Int32)).toNatClampNeg)) <|
  ltt (M11.1 b15 ((14 : Int32)).toNatClampNeg) fun x16 =>
  dr G 13 ((M11.2 a 10)) fun b17 =>
  chk (¬ (x13 < 0 ∨ G.2.2 b17 ≤ x13.toNatClampNeg)) <|
  ltt (uI M11 b17 x13.toNatClampNeg x16) fun M18 =>
  ltt ((((3 : Int32)) * p0)) fun x19 =>
  ltt ((x19 + ((2 : Int32)))) fun x20 =>
  dr G 3 ((M18.2 a 1)) fun b21 =>
  dr G 13 ((M18.2 b21 0)) fun b22 =>
  chk (¬ (((15 : Int32)) < 0 ∨ G.2.2 b22 ≤ ((15 : Int32)).toNatClampNeg)) <|
  ltt (M18.1 b22 ((15 : Int32)).toNatClampNeg) fun x23 =>
  dr G 13 ((M18.2 a 10)) fun b24 =>
  chk (¬ (x20 < 0 ∨ G.2.2 b24 ≤ x20.toNatClampNeg)) <|
  ltt (uI M18 b24 x20.toNatClampNeg x23) fun M25 =>
  bnd (itr (fun (s27 : Int32 × DD) => ((if ((2 : Int32)) ≤ s27.1 then (some (.inr (s27.1, s27.2))) else
  (bnd (itr (fun (s32 : Int32 × DD) => ((if ((16 : Int32)) ≤ s32.1 then (some (.inr (s32.1, s32.2))) else
  (dr G 4 ((s32.2.2 a 0)) fun b37 =>
  ltt ((((16 : Int32)) * p0)) fun x38 =>
  ltt ((x38 + s32.1)) fun x39 =>
  bnd (FX4_at G s32.2 s27.1 x39) fun y40 =>
  dr G 13 ((s32.2.2 b37 5)) fun b41 =>
  chk (¬ (y40.2 < 0 ∨ G.2.2 b41 ≤ y40.2.toNatClampNeg)) <|
  ltt (y40.1.1 b41 y40.2.toNatClampNeg) fun x42 =>
  bnd (if x42 < ((0 : Int32)) then (some (y40.1)) else
  (bnd (if ((9 : Int32)) ≤ x42 then (some (y40.1)) else
  (ltt ((((9 : Int32)) * s27.1)) fun x48 =>
  ltt ((x48 + x42)) fun x49 =>
  dr G 14 ((y40.1.2 a 3)) fun b50 =>
  chk (¬ (x49 < 0 ∨ G.2.2 b50 ≤ x49.toNatClampNeg)) <|
  bnd (if ((y40.1.2 b50 x49.toNatClampNeg)) = none then (some (y40.1)) else
  (ltt ((((9 : Int32)) * s27.1)) fun x53 =>
  ltt ((x53 + x42)) fun x54 =>
  chk (¬ (x54 < 0 ∨ G.2.2 b50 ≤ x54.toNatClampNeg)) <|
  dr G 4 ((y40.1.2 b50 x54.toNatClampNeg)) fun b55 =>
  ltt (y40.1.1 b55 14) fun x56 =>
  bnd (if x56 = ((0 : Int32)) then (dr G 4 ((y40.1.2 a 0)) fun b59 =>
  chk (((0 : Int32)) = 0 ∨ ((0 : Int32)) = 1) <|
  ltt (uI y40.1 b59 14 ((0 : Int32))) fun M60 =>
  some (M60)) else
  (some (y40.1))) fun (y57 : DD) =>
  some (y57))) fun (y51 : DD) =>
  some (y51))) fun (y46 : DD) =>
  some (y46))) fun (y43 : DD) =>
  ltt (s32.1 + (1 : Int32)) fun x44 =>
  some (.inl (x44, y43)))) : Option ((Int32 × DD) ⊕ (Int32 × DD)))) 1000000 ((0 : Int32), s27.2)) fun (y31 : Int32 × DD) =>
  ltt (s27.1 + (1 : Int32)) fun x34 =>
  some (.inl (x34, y31.2)))) : Option ((Int32 × DD) ⊕ (Int32 × DD)))) 1000000 ((0 : Int32), M25)) fun (y26 : Int32 × DD) =>
  some y26.2
set_option maxHeartbeats 4000000 in
set_option maxRecDepth 100000 in
theorem kX9_endBlock (l : Launch) (D : va_G) (ct : CT) (ad : Nat → Nat) (Z : Nat → Nat) (G : GG) (M : DD) (sz : Nat) (a : Nat) (p0 : Int32) (y : DD) (hc : a < G.1) (hk : G.2.1 a = 9) (hF : FX9_endBlock G M a p0 = some y) : Met l yX9_endBlock wuX9_endBlock ({ frames := 1, cells := 0, slots := 0, locals := 21 }) (va_Pc [.ref (ad a), .int p0] (kB D ct ad Z G M sz)) (va_Qv (fun (_ : Unit) => True) (fun _ t => kE D ct ad G (wA ad G sz) y t) (wA ad G sz)) 0 0 (wA ad G sz) := by
  refine Met.ofW (cc := cX9_endBlock) (maxL := 5) (ret := none) (by decide) rfl ?_
  intro p e s m args below meth c s₁ B hml hv
  obtain ⟨rfl, hsz, hP, hK, hD0, hZ, hN⟩ := hv
  have hx := B.exec
  have hb := B.bytes
  have hr := B.returns
  have hts := atoms_spec (ws := wuX9_endBlock) B.pre
  have hown : s.vm.findClass RX9 = some m.cls := findClass_of_methodNamed B.named
  have hlocks := B.notSynchronized
  subst hsz
  have hD := wD_self (sz := s.heap.size) hD0
  have hA9 : ∀ q, s.heap.size ≤ q → wA ad G s.heap.size q := fun q h => Or.inr h
  generalize hAe : wA ad G s.heap.size = A at hD hA9 hZ ⊢
  have hS : va_S A s.heap s.heap [] := va_S.rf
  have hl := lv_entry ([.ref (ad a), .int p0]) (n := 5) (Nat.le_of_ble_eq_true rfl)
  rw [lg_entry_eq]
  generalize (lg_sl ([.ref (ad a), .int p0]) ++ List.replicate (5 - (lg_sl ([.ref (ad a), .int p0])).length) Slot.unset).toArray = ls at hl ⊢
  have hl : lv_has ls 5 [(0, .ref (ad a)), (1, .int p0)] := hl
  unfold FX9_endBlock at hF
  refine lv_aload_n hx hb dX9_endBlock_0 rfl (lv_at hl 0 rfl) ?_
  refine va_get (D := D) (ci := 9) (v := va_re ad (M.2 a 6)) (C := RX9) (T := TX9) (N := 20) hx hb hts (mus hf_X9) hown hK hP a (wld_o ct ad G M hc hk (by decide)) rfl 6 (by decide) (hts (.fieldLink RX9 24 "VideoSuite$Work" "info" "[I") (mu mw_442)) (fun _ h9 => h9) rfl dX9_endBlock_1 ?_
  refine lv_bipush (v := (8 : Int32)) hx hb dX9_endBlock_4 (by decide) ?_
  refine lv_iload_n hx hb dX9_endBlock_6 rfl (lv_at hl 1 rfl) ?_
  refine lv_imul hx hb dX9_endBlock_7 ?_
  obtain ⟨x1, ex1, hF⟩ := ltt_some hF
  refine lv_topi (fun zx1 ezx1 => ?_)
  obtain rfl : x1 = zx1 := ex1.trans ezx1.symm
  refine lv_bipush (v := (6 : Int32)) hx hb dX9_endBlock_8 (by decide) ?_
  refine lv_iadd hx hb dX9_endBlock_10 ?_
  obtain ⟨x2, ex2, hF⟩ := ltt_some hF
  refine lv_topi (fun zx2 ezx2 => ?_)
  obtain rfl : x2 = zx2 := ex2.trans ezx2.symm
  refine lv_aload_n hx hb dX9_endBlock_11 rfl (lv_at hl 0 rfl) ?_
  refine va_get (D := D) (ci := 9) (v := .int (M.1 a 11)) (C := RX9) (T := TX9) (N := 20) hx hb hts (mus hf_X9) hown hK hP a (wld_o ct ad G M hc hk (by decide)) rfl 11 (by decide) (hts (.fieldLink RX9 55 "VideoSuite$Work" "sliceNumber" "I") (mu mw_460)) (fun _ h9 => h9) rfl dX9_endBlock_12 ?_
  obtain ⟨x3, ex3, hF⟩ := ltt_some hF
  refine lv_topi (fun zx3 ezx3 => ?_)
  obtain rfl : x3 = zx3 := ex3.trans ezx3.symm
  obtain ⟨b4, ho4, hc4, hk4, hF⟩ := dr_some hF
  refine W_st (st' := [.int x3, .int x2, .ref (ad b4)]) (by rw [va_some ho4]) ?_
  obtain ⟨hvc, hF⟩ := chk_some hF
  refine va_iast hx hb hK hP hD hS b4 1 (wld_i ct ad G M hc4 hk4) rfl hvc dX9_endBlock_15 (fun H locs hP hD hS => ?_)
  obtain ⟨M5, eM5, hF⟩ := ltt_some hF
  rw [set_i ct ad G M hc4 hk4, ← eM5] at hP hD
  refine lv_aload_n hx hb dX9_endBlock_16 rfl (lv_at hl 0 rfl) ?_
  refine va_get (D := D) (ci := 9) (v := va_re ad (M5.2 a 10)) (C := RX9) (T := TX9) (N := 20) hx hb hts (mus hf_X9) hown hK hP a (wld_o ct ad G M5 hc hk (by decide)) rfl 10 (by decide) (hts (.fieldLink RX9 36 "VideoSuite$Work" "rule" "[I") (mu mw_458)) (fun _ h9 => h9) rfl dX9_endBlock_17 ?_
  refine lv_iconst (v := (3 : Int32)) hx hb dX9_endBlock_20 (by decide) ?_
  refine lv_iload_n hx hb dX9_endBlock_21 rfl (lv_at hl 1 rfl) ?_
  refine lv_imul hx hb dX9_endBlock_22 ?_
  obtain ⟨x6, ex6, hF⟩ := ltt_some hF
  refine lv_topi (fun zx6 ezx6 => ?_)
  obtain rfl : x6 = zx6 := ex6.trans ezx6.symm
  refine lv_aload_n hx hb dX9_endBlock_23 rfl (lv_at hl 0 rfl) ?_
  refine va_get (D := D) (ci := 9) (v := va_re ad (M5.2 a 1)) (C := RX9) (T := TX9) (N := 20) hx hb hts (mus hf_X9) hown hK hP a (wld_o ct ad G M5 hc hk (by decide)) rfl 1 (by decide) (hts (.fieldLink RX9 92 "VideoSuite$Work" "head" "LVideoSuite$Header;") (mu mw_427)) (fun _ h9 => h9) rfl dX9_endBlock_24 ?_
  obtain ⟨b7, ho7, hc7, hk7, hF⟩ := dr_some hF
  refine W_st (st' := [.ref (ad b7), .int x6, va_re ad (M5.2 a 10)]) (by rw [va_some ho7]) ?_
  refine va_get (D := D) (ci := 3) (v := va_re ad (M5.2 b7 0)) (C := RX3) (T := TX3) (N := 4) hx hb hts (mus hf_X3) hown hK hP b7 (wld_o ct ad G M5 hc7 hk7 (by decide)) rfl 0 (by decide) (hts (.fieldLink RX9 96 "VideoSuite$Header" "v" "[I") (mu mw_617)) (fun _ h9 => h9) rfl dX9_endBlock_27 ?_
  refine lv_bipush (v := (13 : Int32)) hx hb dX9_endBlock_30 (by decide) ?_
  obtain ⟨b8, ho8, hc8, hk8, hF⟩ := dr_some hF
  refine W_st (st' := [.int (13 : Int32), .ref (ad b8), .int x6, va_re ad (M5.2 a 10)]) (by rw [va_some ho8]) ?_
  obtain ⟨hvc, hF⟩ := chk_some hF
  refine va_iald hx hb hK hP b8 1 (wld_i ct ad G M5 hc8 hk8) rfl hvc dX9_endBlock_32 ?_
  obtain ⟨x9, ex9, hF⟩ := ltt_some hF
  refine lv_topi (fun zx9 ezx9 => ?_)
  obtain rfl : x9 = zx9 := ex9.trans ezx9.symm
  obtain ⟨b10, ho10, hc10, hk10, hF⟩ := dr_some hF
  refine W_st (st' := [.int x9, .int x6, .ref (ad b10)]) (by rw [va_some ho10]) ?_
  obtain ⟨hvc, hF⟩ := chk_some hF
  refine va_iast hx hb hK hP hD hS b10 1 (wld_i ct ad G M5 hc10 hk10) rfl hvc dX9_endBlock_33 (fun H locs hP hD hS => ?_)
  obtain ⟨M11, eM11, hF⟩ := ltt_some hF
  rw [set_i ct ad G M5 hc10 hk10, ← eM11] at hP hD
  refine lv_aload_n hx hb dX9_endBlock_34 rfl (lv_at hl 0 rfl) ?_
  refine va_get (D := D) (ci := 9) (v := va_re ad (M11.2 a 10)) (C := RX9) (T := TX9) (N := 20) hx hb hts (mus hf_X9) hown hK hP a (wld_o ct ad G M11 hc hk (by decide)) rfl 10 (by decide) (hts (.fieldLink RX9 36 "VideoSuite$Work" "rule" "[I") (mu mw_458)) (fun _ h9 => h9) rfl dX9_endBlock_35 ?_
  refine lv_iconst (v := (3 : Int32)) hx hb dX9_endBlock_38 (by decide) ?_
  refine lv_iload_n hx hb dX9_endBlock_39 rfl (lv_at hl 1 rfl) ?_
  refine lv_imul hx hb dX9_endBlock_40 ?_
  obtain ⟨x12, ex12, hF⟩ := ltt_some hF
  refine lv_topi (fun zx12 ezx12 => ?_)
  obtain rfl : x12 = zx12 := ex12.trans ezx12.symm
  refine lv_iconst (v := (1 : Int32)) hx hb dX9_endBlock_41 (by decide) ?_
  refine lv_iadd hx hb dX9_endBlock_42 ?_
  obtain ⟨x13, ex13, hF⟩ := ltt_some hF
  refine lv_topi (fun zx13 ezx13 => ?_)
  obtain rfl : x13 = zx13 := ex13.trans ezx13.symm
  refine lv_aload_n hx hb dX9_endBlock_43 rfl (lv_at hl 0 rfl) ?_
  refine va_get (D := D) (ci := 9) (v := va_re ad (M11.2 a 1)) (C := RX9) (T := TX9) (N := 20) hx hb hts (mus hf_X9) hown hK hP a (wld_o ct ad G M11 hc hk (by decide)) rfl 1 (by decide) (hts (.fieldLink RX9 92 "VideoSuite$Work" "head" "LVideoSuite$Header;") (mu mw_427)) (fun _ h9 => h9) rfl dX9_endBlock_44 ?_
  obtain ⟨b14, ho14, hc14, hk14, hF⟩ := dr_some hF
  refine W_st (st' := [.ref (ad b14), .int x13, va_re ad (M11.2 a 10)]) (by rw [va_some ho14]) ?_
  refine va_get (D := D) (ci := 3) (v := va_re ad (M11.2 b14 0)) (C := RX3) (T := TX3) (N := 4) hx hb hts (mus hf_X3) hown hK hP b14 (wld_o ct ad G M11 hc14 hk14 (by decide)) rfl 0 (by decide) (hts (.fieldLink RX9 96 "VideoSuite$Header" "v" "[I") (mu mw_617)) (fun _ h9 => h9) rfl dX9_endBlock_47 ?_
  refine lv_bipush (v := (14 : Int32)) hx hb dX9_endBlock_50 (by decide) ?_
  obtain ⟨b15, ho15, hc15, hk15, hF⟩ := dr_some hF
  refine W_st (st' := [.int (14 : Int32), .ref (ad b15), .int x13, va_re ad (M11.2 a 10)]) (by rw [va_some ho15]) ?_
  obtain ⟨hvc, hF⟩ := chk_some hF
  refine va_iald hx hb hK hP b15 1 (wld_i ct ad G M11 hc15 hk15) rfl hvc dX9_endBlock_52 ?_
  obtain ⟨x16, ex16, hF⟩ := ltt_some hF
  refine lv_topi (fun zx16 ezx16 => ?_)
  obtain rfl : x16 = zx16 := ex16.trans ezx16.symm
  obtain ⟨b17, ho17, hc17, hk17, hF⟩ := dr_some hF
  refine W_st (st' := [.int x16, .int x13, .ref (ad b17)]) (by rw [va_some ho17]) ?_
  obtain ⟨hvc, hF⟩ := chk_some hF
  refine va_iast hx hb hK hP hD hS b17 1 (wld_i ct ad G M11 hc17 hk17) rfl hvc dX9_endBlock_53 (fun H locs hP hD hS => ?_)
  obtain ⟨M18, eM18, hF⟩ := ltt_some hF
  rw [set_i ct ad G M11 hc17 hk17, ← eM18] at hP hD
  refine lv_aload_n hx hb dX9_endBlock_54 rfl (lv_at hl 0 rfl) ?_
  refine va_get (D := D) (ci := 9) (v := va_re ad (M18.2 a 10)) (C := RX9) (T := TX9) (N := 20) hx hb hts (mus hf_X9) hown hK hP a (wld_o ct ad G M18 hc hk (by decide)) rfl 10 (by decide) (hts (.fieldLink RX9 36 "VideoSuite$Work" "rule" "[I") (mu mw_458)) (fun _ h9 => h9) rfl dX9_endBlock_55 ?_
  refine lv_iconst (v := (3 : Int32)) hx hb dX9_endBlock_58 (by decide) ?_
  refine lv_iload_n hx hb dX9_endBlock_59 rfl (lv_at hl 1 rfl) ?_
  refine lv_imul hx hb dX9_endBlock_60 ?_
  obtain ⟨x19, ex19, hF⟩ := ltt_some hF
  refine lv_topi (fun zx19 ezx19 => ?_)
  obtain rfl : x19 = zx19 := ex19.trans ezx19.symm
  refine lv_iconst (v := (2 : Int32)) hx hb dX9_endBlock_61 (by decide) ?_
  refine lv_iadd hx hb dX9_endBlock_62 ?_
  obtain ⟨x20, ex20, hF⟩ := ltt_some hF
  refine lv_topi (fun zx20 ezx20 => ?_)
  obtain rfl : x20 = zx20 := ex20.trans ezx20.symm
  refine lv_aload_n hx hb dX9_endBlock_63 rfl (lv_at hl 0 rfl) ?_
  refine va_get (D := D) (ci := 9) (v := va_re ad (M18.2 a 1)) (C := RX9) (T := TX9) (N := 20) hx hb hts (mus hf_X9) hown hK hP a (wld_o ct ad G M18 hc hk (by decide)) rfl 1 (by decide) (hts (.fieldLink RX9 92 "VideoSuite$Work" "head" "LVideoSuite$Header;") (mu mw_427)) (fun _ h9 => h9) rfl dX9_endBlock_64 ?_
  obtain ⟨b21, ho21, hc21, hk21, hF⟩ := dr_some hF
  refine W_st (st' := [.ref (ad b21), .int x20, va_re ad (M18.2 a 10)]) (by rw [va_some ho21]) ?_
  refine va_get (D := D) (ci := 3) (v := va_re ad (M18.2 b21 0)) (C := RX3) (T := TX3) (N := 4) hx hb hts (mus hf_X3) hown hK hP b21 (wld_o ct ad G M18 hc21 hk21 (by decide)) rfl 0 (by decide) (hts (.fieldLink RX9 96 "VideoSuite$Header" "v" "[I") (mu mw_617)) (fun _ h9 => h9) rfl dX9_endBlock_67 ?_
  refine lv_bipush (v := (15 : Int32)) hx hb dX9_endBlock_70 (by decide) ?_
  obtain ⟨b22, ho22, hc22, hk22, hF⟩ := dr_some hF
  refine W_st (st' := [.int (15 : Int32), .ref (ad b22), .int x20, va_re ad (M18.2 a 10)]) (by rw [va_some ho22]) ?_
  obtain ⟨hvc, hF⟩ := chk_some hF
  refine va_iald hx hb hK hP b22 1 (wld_i ct ad G M18 hc22 hk22) rfl hvc dX9_endBlock_72 ?_
  obtain ⟨x23, ex23, hF⟩ := ltt_some hF
  refine lv_topi (fun zx23 ezx23 => ?_)
  obtain rfl : x23 = zx23 := ex23.trans ezx23.symm
  obtain ⟨b24, ho24, hc24, hk24, hF⟩ := dr_some hF
  refine W_st (st' := [.int x23, .int x20, .ref (ad b24)]) (by rw [va_some ho24]) ?_
  obtain ⟨hvc, hF⟩ := chk_some hF
  refine va_iast hx hb hK hP hD hS b24 1 (wld_i ct ad G M18 hc24 hk24) rfl hvc dX9_endBlock_73 (fun H locs hP hD hS => ?_)
  obtain ⟨M25, eM25, hF⟩ := ltt_some hF
  rw [set_i ct ad G M18 hc24 hk24, ← eM25] at hP hD
  refine lv_iconst (v := (0 : Int32)) hx hb dX9_endBlock_74 (by decide) ?_
  refine lv_istore_n (lv' := [(2, .int (0 : Int32)), (0, .ref (ad a)), (1, .int p0)]) hx hb dX9_endBlock_75 rfl hl (by decide) rfl (fun ls hl => ?_)
  obtain ⟨y26, hy26, hF⟩ := bnd_some hF
  have K26 : ∀ (H : Heap) (locs : List Loc) (ls : Array Slot), va_P D classes (wld ct ad G y26.2) H → va_D A (wld ct ad G y26.2) → va_S A s.heap H locs → lv_has ls 5 [(2, .int y26.1), (0, .ref (ad a)), (1, .int p0)] → W p l e (headSpec wuX9_endBlock ({ frames := 1, cells := 0, slots := 0, locals := 21 })).room s m ([.ref (ad a), .int p0] : List Value).toArray below meth c H locs 0 0 (MQ below (va_Qv (fun (_ : Unit) => True) (fun _ t => kE D ct ad G A y t) A) ([.ref (ad a), .int p0] : List Value).toArray s 0 0 A) (F0 m 174 ls []) := by
    intro H locs ls hP hD hS hl
    obtain rfl := Option.some.inj hF
    exact W.vret hx hb hr (fun t ht hW => ⟨⟨(), rfl, trivial, ⟨by rw [ht]; exact hP, va_K.moved hW.alike hK, hD⟩⟩, hS.F ht⟩) hS.2.2 dX9_endBlock_174
  clear hF
  refine itr_rule (fun (s27 : Int32 × DD) => ∀ (H : Heap) (locs : List Loc) (ls : Array Slot), va_P D classes (wld ct ad G s27.2) H → va_D A (wld ct ad G s27.2) → va_S A s.heap H locs → lv_has ls 5 [(2, .int s27.1), (0, .ref (ad a)), (1, .int p0)] → W p l e (headSpec wuX9_endBlock ({ frames := 1, cells := 0, slots := 0, locals := 21 })).room s m ([.ref (ad a), .int p0] : List Value).toArray below meth c H locs 0 0 (MQ below (va_Qv (fun (_ : Unit) => True) (fun _ t => kE D ct ad G A y t) A) ([.ref (ad a), .int p0] : List Value).toArray s 0 0 A) (F0 m 76 ls [])) ?_ _ _ hy26 _ _ _ hP hD hS (lv_sub hl [0, 1, 2] rfl)
  rintro s27 ⟨z29, hF, hwz29⟩ H locs ls hP hD hS hl
  try dsimp only at hF
  refine lv_iload_n hx hb dX9_endBlock_76 rfl (lv_at hl 0 rfl) ?_
  refine lv_iconst (v := (2 : Int32)) hx hb dX9_endBlock_77 (by decide) ?_
  refine lv_icmp_ge (tgt := 174) hx hb dX9_endBlock_78 (by decide) (fun c30 => ?_) (fun c30 => ?_)
  · rw [if_pos c30] at hF
    obtain rfl := Option.some.inj hF
    subst hwz29
    exact K26 _ _ _ hP hD hS (lv_sub hl [0, 1, 2] rfl)
  · rw [if_neg c30] at hF
    refine lv_iconst (v := (0 : Int32)) hx hb dX9_endBlock_81 (by decide) ?_
    refine lv_istore_n (lv' := [(3, .int (0 : Int32)), (2, .int s27.1), (0, .ref (ad a)), (1, .int p0)]) hx hb dX9_endBlock_82 rfl hl (by decide) rfl (fun ls hl => ?_)
    obtain ⟨y31, hy31, hF⟩ := bnd_some hF
    have K31 : ∀ (H : Heap) (locs : List Loc) (ls : Array Slot), va_P D classes (wld ct ad G y31.2) H → va_D A (wld ct ad G y31.2) → va_S A s.heap H locs → lv_has ls 5 [(3, .int y31.1), (2, .int s27.1), (0, .ref (ad a)), (1, .int p0)] → W p l e (headSpec wuX9_endBlock ({ frames := 1, cells := 0, slots := 0, locals := 21 })).room s m ([.ref (ad a), .int p0] : List Value).toArray below meth c H locs 0 0 (MQ below (va_Qv (fun (_ : Unit) => True) (fun _ t => kE D ct ad G A y t) A) ([.ref (ad a), .int p0] : List Value).toArray s 0 0 A) (F0 m 168 ls []) := by
      intro H locs ls hP hD hS hl
      obtain ⟨x34, ex34, hF⟩ := ltt_some hF
      refine lv_iinc (v := x34) (lv' := [(2, .int x34), (3, .int y31.1), (0, .ref (ad a)), (1, .int p0)]) hx hb dX9_endBlock_168 hl (k := 1) rfl (by rw [ex34]; rfl) (by decide) rfl (fun ls hl => ?_)
      refine lv_goto (tgt := 76) hx hb dX9_endBlock_171 (by decide) ?_
      obtain rfl := Option.some.inj hF
      exact hwz29 _ _ _ hP hD hS (lv_sub hl [0, 2, 3] rfl)
    clear hF
    refine itr_rule (fun (s32 : Int32 × DD) => ∀ (H : Heap) (locs : List Loc) (ls : Array Slot), va_P D classes (wld ct ad G s32.2) H → va_D A (wld ct ad G s32.2) → va_S A s.heap H locs → lv_has ls 5 [(3, .int s32.1), (2, .int s27.1), (0, .ref (ad a)), (1, .int p0)] → W p l e (headSpec wuX9_endBlock ({ frames := 1, cells := 0, slots := 0, locals := 21 })).room s m ([.ref (ad a), .int p0] : List Value).toArray below meth c H locs 0 0 (MQ below (va_Qv (fun (_ : Unit) => True) (fun _ t => kE D ct ad G A y t) A) ([.ref (ad a), .int p0] : List Value).toArray s 0 0 A) (F0 m 83 ls [])) ?_ _ _ hy31 _ _ _ hP hD hS (lv_sub hl [0, 1, 2, 3] rfl)
    rintro s32 ⟨z35, hF, hwz35⟩ H locs ls hP hD hS hl
    try dsimp only at hF
    refine lv_iload_n hx hb dX9_endBlock_83 rfl (lv_at hl 0 rfl) ?_
    refine lv_bipush (v := (16 : Int32)) hx hb dX9_endBlock_84 (by decide) ?_
    refine lv_icmp_ge (tgt := 168) hx hb dX9_endBlock_86 (by decide) (fun c36 => ?_) (fun c36 => ?_)
    · rw [if_pos c36] at hF
      obtain rfl := Option.some.inj hF
      subst hwz35
      exact K31 _ _ _ hP hD hS (lv_sub hl [0, 1, 2, 3] rfl)
    · rw [if_neg c36] at hF
      refine lv_aload_n hx hb dX9_endBlock_89 rfl (lv_at hl 2 rfl) ?_
      refine va_get (D := D) (ci := 9) (v := va_re ad (s32.2.2 a 0)) (C := RX9) (T := TX9) (N := 20) hx hb hts (mus hf_X9) hown hK hP a (wld_o ct ad G s32.2 hc hk (by decide)) rfl 0 (by decide) (hts (.fieldLink RX9 51 "VideoSuite$Work" "pic" "LVideoSuite$Picture;") (mu mw_422)) (fun _ h9 => h9) rfl dX9_endBlock_90 ?_
      obtain ⟨b37, ho37, hc37, hk37, hF⟩ := dr_some hF
      refine W_st (st' := [.ref (ad b37)]) (by rw [va_some ho37]) ?_
      refine va_get (D := D) (ci := 4) (v := va_re ad (s32.2.2 b37 5)) (C := RX4) (T := TX4) (N := 18) hx hb hts (mus hf_X4) hown hK hP b37 (wld_o ct ad G s32.2 hc37 hk37 (by decide)) rfl 5 (by decide) (hts (.fieldLink RX9 83 "VideoSuite$Picture" "reference" "[I") (mu mw_1439)) (fun _ h9 => h9) rfl dX9_endBlock_93 ?_
      refine lv_iload_n hx hb dX9_endBlock_96 rfl (lv_at hl 1 rfl) ?_
      refine lv_bipush (v := (16 : Int32)) hx hb dX9_endBlock_97 (by decide) ?_
      refine lv_iload_n hx hb dX9_endBlock_99 rfl (lv_at hl 3 rfl) ?_
      refine lv_imul hx hb dX9_endBlock_100 ?_
      obtain ⟨x38, ex38, hF⟩ := ltt_some hF
      refine lv_topi (fun zx38 ezx38 => ?_)
      obtain rfl : x38 = zx38 := ex38.trans ezx38.symm
      refine lv_iload_n hx hb dX9_endBlock_101 rfl (lv_at hl 0 rfl) ?_
      refine lv_iadd hx hb dX9_endBlock_102 ?_
      obtain ⟨x39, ex39, hF⟩ := ltt_some hF
      refine lv_topi (fun zx39 ezx39 => ?_)
      obtain rfl : x39 = zx39 := ex39.trans ezx39.symm
      obtain ⟨y40, hy40, hF⟩ := bnd_some hF
      have hf9 := wA_in hD hA9 hS
      refine va_calli (va_runS (As := [.int s27.1, .int x39]) (rest := [va_re ad (s32.2.2 b37 5)]) ⟨hx, hb, hml, hown, hts⟩ (kX4_at l D ct ad Z G s32.2 H.size s27.1 x39 y40 hy40) (va_cwS 2 hts gX9_endBlock_X4_at rfl rfl rfl (by decide +kernel) ⟨Nat.le_of_ble_eq_true rfl, Nat.le_of_ble_eq_true rfl⟩) ⟨fun a U g mk q => by obtain ⟨q0, q1, qP, qK, qD, qZ, qN⟩ := q; exact ⟨q0, q1, qP, va_K.moved (u := U) (U := U.calling g mk a) (Vm.Alike.refl U.vm) qK, qD, sF.moved (u := U) (U := U.calling g mk a) (Vm.Alike.refl U.vm) qZ, nF.same rfl qN⟩, fun U hU hW => ⟨rfl, by rw [hU], by rw [hU]; exact hP, va_K.moved hW.alike hK, hD.weaken (fun _ _ _ _ => trivial), by rw [hU]; exact ((hZ.kept hS.2.1).narrow hf9).moved hW.alike, hN.warm hW⟩⟩ rfl rfl hl.1 rfl (lv_room (by simp only [List.map, va_re_cat]; exact Nat.le_of_ble_eq_true rfl)) dX9_endBlock_103 ⟨(Nat.zero_le _), (Nat.zero_le _)⟩) hS (fun q _ h => hf9 q h) hf9 (fun r u t H locs ht hvm hw hB hz1 hk1 hS => ?_)
      obtain ⟨hP, hK9, hD9⟩ := hB
      rw [ht] at hP
      try dsimp only at hw
      subst hw
      have hD := hD9.weaken (fun _ q _ h => hf9 q.1 h)
      obtain ⟨b41, ho41, hc41, hk41, hF⟩ := dr_some hF
      refine W_st (st' := [.int y40.2, .ref (ad b41)]) (by rw [va_some ho41]) ?_
      obtain ⟨hvc, hF⟩ := chk_some hF
      refine va_iald hx hb hK hP b41 1 (wld_i ct ad G y40.1 hc41 hk41) rfl hvc dX9_endBlock_106 ?_
      obtain ⟨x42, ex42, hF⟩ := ltt_some hF
      refine lv_topi (fun zx42 ezx42 => ?_)
      obtain rfl : x42 = zx42 := ex42.trans ezx42.symm
      refine lv_istore (lv' := [(4, .int x42), (3, .int s32.1), (2, .int s27.1), (0, .ref (ad a)), (1, .int p0)]) hx hb dX9_endBlock_107 hl (by decide) rfl (fun ls hl => ?_)
      refine lv_iload hx hb dX9_endBlock_109 (lv_at hl 0 rfl) ?_
      obtain ⟨y43, hy43, hF⟩ := bnd_some hF
      have J43 : ∀ (H : Heap) (locs : List Loc) (ls : Array Slot), va_P D classes (wld ct ad G y43) H → va_D A (wld ct ad G y43) → va_S A s.heap H locs → lv_has ls 5 [(4, .int x42), (3, .int s32.1), (2, .int s27.1), (0, .ref (ad a)), (1, .int p0)] → W p l e (headSpec wuX9_endBlock ({ frames := 1, cells := 0, slots := 0, locals := 21 })).room s m ([.ref (ad a), .int p0] : List Value).toArray below meth c H locs 0 0 (MQ below (va_Qv (fun (_ : Unit) => True) (fun _ t => kE D ct ad G A y t) A) ([.ref (ad a), .int p0] : List Value).toArray s 0 0 A) (F0 m 162 ls []) := by
        intro H locs ls hP hD hS hl
        obtain ⟨x44, ex44, hF⟩ := ltt_some hF
        refine lv_iinc (v := x44) (lv' := [(3, .int x44), (4, .int x42), (2, .int s27.1), (0, .ref (ad a)), (1, .int p0)]) hx hb dX9_endBlock_162 hl (k := 1) rfl (by rw [ex44]; rfl) (by decide) rfl (fun ls hl => ?_)
        refine lv_goto (tgt := 83) hx hb dX9_endBlock_165 (by decide) ?_
        obtain rfl := Option.some.inj hF
        exact hwz35 _ _ _ hP hD hS (lv_sub hl [0, 2, 3, 4] rfl)
      clear hF
      have hF := hy43
      clear hy43
      refine lv_if_lt (tgt := 162) hx hb dX9_endBlock_111 (by decide) (fun c45 => ?_) (fun c45 => ?_)
      · rw [if_pos c45] at hF
        obtain rfl := Option.some.inj hF
        exact J43 _ _ _ hP hD hS (lv_sub hl [0, 1, 2, 3, 4] rfl)
      · rw [if_neg c45] at hF
        refine lv_iload hx hb dX9_endBlock_114 (lv_at hl 0 rfl) ?_
        refine lv_bipush (v := (9 : Int32)) hx hb dX9_endBlock_116 (by decide) ?_
        obtain ⟨y46, hy46, hF⟩ := bnd_some hF
        have J46 : ∀ (H : Heap) (locs : List Loc) (ls : Array Slot), va_P D classes (wld ct ad G y46) H → va_D A (wld ct ad G y46) → va_S A s.heap H locs → lv_has ls 5 [(4, .int x42), (3, .int s32.1), (2, .int s27.1), (0, .ref (ad a)), (1, .int p0)] → W p l e (headSpec wuX9_endBlock ({ frames := 1, cells := 0, slots := 0, locals := 21 })).room s m ([.ref (ad a), .int p0] : List Value).toArray below meth c H locs 0 0 (MQ below (va_Qv (fun (_ : Unit) => True) (fun _ t => kE D ct ad G A y t) A) ([.ref (ad a), .int p0] : List Value).toArray s 0 0 A) (F0 m 162 ls []) := by
          intro H locs ls hP hD hS hl
          obtain rfl := Option.some.inj hF
          exact J43 _ _ _ hP hD hS (lv_sub hl [0, 1, 2, 3, 4] rfl)
        clear hF
        have hF := hy46
        clear hy46
        refine lv_icmp_ge (tgt := 162) hx hb dX9_endBlock_118 (by decide) (fun c47 => ?_) (fun c47 => ?_)
        · rw [if_pos c47] at hF
          obtain rfl := Option.some.inj hF
          exact J46 _ _ _ hP hD hS (lv_sub hl [0, 1, 2, 3, 4] rfl)
        · rw [if_neg c47] at hF
          refine lv_aload_n hx hb dX9_endBlock_121 rfl (lv_at hl 3 rfl) ?_
          refine va_get (D := D) (ci := 9) (v := va_re ad (y40.1.2 a 3)) (C := RX9) (T := TX9) (N := 20) hx hb hts (mus hf_X9) hown hK hP a (wld_o ct ad G y40.1 hc hk (by decide)) rfl 3 (by decide) (hts (.fieldLink RX9 11 "VideoSuite$Work" "lists" "[LVideoSuite$Picture;") (mu mw_435)) (fun _ h9 => h9) rfl dX9_endBlock_122 ?_
          refine lv_bipush (v := (9 : Int32)) hx hb dX9_endBlock_125 (by decide) ?_
          refine lv_iload_n hx hb dX9_endBlock_127 rfl (lv_at hl 2 rfl) ?_
          refine lv_imul hx hb dX9_endBlock_128 ?_
          obtain ⟨x48, ex48, hF⟩ := ltt_some hF
          refine lv_topi (fun zx48 ezx48 => ?_)
          obtain rfl : x48 = zx48 := ex48.trans ezx48.symm
          refine lv_iload hx hb dX9_endBlock_129 (lv_at hl 0 rfl) ?_
          refine lv_iadd hx hb dX9_endBlock_131 ?_
          obtain ⟨x49, ex49, hF⟩ := ltt_some hF
          refine lv_topi (fun zx49 ezx49 => ?_)
          obtain rfl : x49 = zx49 := ex49.trans ezx49.symm
          obtain ⟨b50, ho50, hc50, hk50, hF⟩ := dr_some hF
          refine W_st (st' := [.int x49, .ref (ad b50)]) (by rw [va_some ho50]) ?_
          obtain ⟨hvc, hF⟩ := chk_some hF
          refine ld_q hx hb hK hP hc50 hk50 hvc dX9_endBlock_132 ?_
          obtain ⟨y51, hy51, hF⟩ := bnd_some hF
          have J51 : ∀ (H : Heap) (locs : List Loc) (ls : Array Slot), va_P D classes (wld ct ad G y51) H → va_D A (wld ct ad G y51) → va_S A s.heap H locs → lv_has ls 5 [(4, .int x42), (3, .int s32.1), (2, .int s27.1), (0, .ref (ad a)), (1, .int p0)] → W p l e (headSpec wuX9_endBlock ({ frames := 1, cells := 0, slots := 0, locals := 21 })).room s m ([.ref (ad a), .int p0] : List Value).toArray below meth c H locs 0 0 (MQ below (va_Qv (fun (_ : Unit) => True) (fun _ t => kE D ct ad G A y t) A) ([.ref (ad a), .int p0] : List Value).toArray s 0 0 A) (F0 m 162 ls []) := by
            intro H locs ls hP hD hS hl
            obtain rfl := Option.some.inj hF
            exact J46 _ _ _ hP hD hS (lv_sub hl [0, 1, 2, 3, 4] rfl)
          clear hF
          have hF := hy51
          clear hy51
          refine lv_ifnullq (tgt := 162) hx hb dX9_endBlock_133 (by decide) (fun c52 => ?_) (fun c52 => ?_)
          · rw [if_pos c52] at hF
            obtain rfl := Option.some.inj hF
            exact J51 _ _ _ hP hD hS (lv_sub hl [0, 1, 2, 3, 4] rfl)
          · rw [if_neg c52] at hF
            refine lv_aload_n hx hb dX9_endBlock_136 rfl (lv_at hl 3 rfl) ?_
            refine va_get (D := D) (ci := 9) (v := va_re ad (y40.1.2 a 3)) (C := RX9) (T := TX9) (N := 20) hx hb hts (mus hf_X9) hown hK hP a (wld_o ct ad G y40.1 hc hk (by decide)) rfl 3 (by decide) (hts (.fieldLink RX9 11 "VideoSuite$Work" "lists" "[LVideoSuite$Picture;") (mu mw_435)) (fun _ h9 => h9) rfl dX9_endBlock_137 ?_
            refine lv_bipush (v := (9 : Int32)) hx hb dX9_endBlock_140 (by decide) ?_
            refine lv_iload_n hx hb dX9_endBlock_142 rfl (lv_at hl 2 rfl) ?_
            refine lv_imul hx hb dX9_endBlock_143 ?_
            obtain ⟨x53, ex53, hF⟩ := ltt_some hF
            refine lv_topi (fun zx53 ezx53 => ?_)
            obtain rfl : x53 = zx53 := ex53.trans ezx53.symm
            refine lv_iload hx hb dX9_endBlock_144 (lv_at hl 0 rfl) ?_
            refine lv_iadd hx hb dX9_endBlock_146 ?_
            obtain ⟨x54, ex54, hF⟩ := ltt_some hF
            refine lv_topi (fun zx54 ezx54 => ?_)
            obtain rfl : x54 = zx54 := ex54.trans ezx54.symm
            refine W_st (st' := [.int x54, .ref (ad b50)]) (by rw [va_some ho50]) ?_
            obtain ⟨hvc, hF⟩ := chk_some hF
            refine ld_q hx hb hK hP hc50 hk50 hvc dX9_endBlock_147 ?_
            obtain ⟨b55, ho55, hc55, hk55, hF⟩ := dr_some hF
            refine W_st (st' := [.ref (ad b55)]) (by rw [va_some ho55]) ?_
            refine va_get (D := D) (ci := 4) (v := .int (y40.1.1 b55 14)) (C := RX4) (T := TX4) (N := 18) hx hb hts (mus hf_X4) hown hK hP b55 (wld_o ct ad G y40.1 hc55 hk55 (by decide)) rfl 14 (by decide) (hts (.fieldLink RX9 101 "VideoSuite$Picture" "isTrusted" "Z") (mu mw_1470)) (fun _ h9 => h9) rfl dX9_endBlock_148 ?_
            obtain ⟨x56, ex56, hF⟩ := ltt_some hF
            refine lv_topi (fun zx56 ezx56 => ?_)
            obtain rfl : x56 = zx56 := ex56.trans ezx56.symm
            obtain ⟨y57, hy57, hF⟩ := bnd_some hF
            have J57 : ∀ (H : Heap) (locs : List Loc) (ls : Array Slot), va_P D classes (wld ct ad G y57) H → va_D A (wld ct ad G y57) → va_S A s.heap H locs → lv_has ls 5 [(4, .int x42), (3, .int s32.1), (2, .int s27.1), (0, .ref (ad a)), (1, .int p0)] → W p l e (headSpec wuX9_endBlock ({ frames := 1, cells := 0, slots := 0, locals := 21 })).room s m ([.ref (ad a), .int p0] : List Value).toArray below meth c H locs 0 0 (MQ below (va_Qv (fun (_ : Unit) => True) (fun _ t => kE D ct ad G A y t) A) ([.ref (ad a), .int p0] : List Value).toArray s 0 0 A) (F0 m 162 ls []) := by
              intro H locs ls hP hD hS hl
              obtain rfl := Option.some.inj hF
              exact J51 _ _ _ hP hD hS (lv_sub hl [0, 1, 2, 3, 4] rfl)
            clear hF
            have hF := hy57
            clear hy57
            refine lv_if_ne (tgt := 162) hx hb dX9_endBlock_151 (by decide) (fun c58 => ?_) (fun c58 => ?_)
            · rw [if_neg c58] at hF
              obtain rfl := Option.some.inj hF
              exact J57 _ _ _ hP hD hS (lv_sub hl [0, 1, 2, 3, 4] rfl)
            · rw [if_pos c58] at hF
              refine lv_aload_n hx hb dX9_endBlock_154 rfl (lv_at hl 3 rfl) ?_
              refine va_get (D := D) (ci := 9) (v := va_re ad (y40.1.2 a 0)) (C := RX9) (T := TX9) (N := 20) hx hb hts (mus hf_X9) hown hK hP a (wld_o ct ad G y40.1 hc hk (by decide)) rfl 0 (by decide) (hts (.fieldLink RX9 51 "VideoSuite$Work" "pic" "LVideoSuite$Picture;") (mu mw_422)) (fun _ h9 => h9) rfl dX9_endBlock_155 ?_
              refine lv_iconst (v := (0 : Int32)) hx hb dX9_endBlock_158 (by decide) ?_
              obtain ⟨b59, ho59, hc59, hk59, hF⟩ := dr_some hF
              refine W_st (st' := [.int (0 : Int32), .ref (ad b59)]) (by rw [va_some ho59]) ?_
              obtain ⟨hz9, hF⟩ := chk_some hF
              refine va_put (D := D) (ci := 4) (v := .int (0 : Int32)) (ty := .boolean) (C := RX4) (T := TX4) (N := 18) hx hb hts (mus hf_X4) tyX4 tyX4_ok nmX4 hown hK hP hD hS b59 (wld_o ct ad G y40.1 hc59 hk59 (by decide)) rfl 14 (by decide) (hts (.fieldLink RX9 101 "VideoSuite$Picture" "isTrusted" "Z") (mu mw_1470)) (fun _ h9 => h9) rfl (by decide +kernel) (nar_z hz9).1 (nar_z hz9).2 (Nat.le_of_ble_eq_true rfl) dX9_endBlock_159 (fun H locs hP hD hS => ?_)
              obtain ⟨M60, eM60, hF⟩ := ltt_some hF
              rw [set_oI ct ad G y40.1 hc59 hk59 (by decide) (by rfl), ← eM60] at hP hD
              obtain rfl := Option.some.inj hF
              exact J57 _ _ _ hP hD hS (lv_sub hl [0, 1, 2, 3, 4] rfl)
