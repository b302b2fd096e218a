theorem dX9_referenceAt_0 : decode cX9_referenceAt 0 = .ok (.iload_n 2, 1) := by decide +kernel
theorem dX9_referenceAt_1 : decode cX9_referenceAt 1 = .ok (.ifCond .ge 7, 3) := by decide +kernel
theorem dX9_referenceAt_4 : decode cX9_referenceAt 4 = .ok (.iconst (-1), 1) := by decide +kernel
theorem dX9_referenceAt_5 : decode cX9_referenceAt 5 = .ok (.goto 18, 3) := by decide +kernel
theorem dX9_referenceAt_8 : decode cX9_referenceAt 8 = .ok (.aload_n 0, 1) := by decide +kernel
theorem dX9_referenceAt_9 : decode cX9_referenceAt 9 = .ok (.getfield 51, 3) := by decide +kernel
theorem dX9_referenceAt_12 : decode cX9_referenceAt 12 = .ok (.getfield 83, 3) := by decide +kernel
theorem dX9_referenceAt_15 : decode cX9_referenceAt 15 = .ok (.sipush 512, 3) := by decide +kernel
theorem dX9_referenceAt_18 : decode cX9_referenceAt 18 = .ok (.iload_n 1, 1) := by decide +kernel
theorem dX9_referenceAt_19 : decode cX9_referenceAt 19 = .ok (.imul, 1) := by decide +kernel
theorem dX9_referenceAt_20 : decode cX9_referenceAt 20 = .ok (.iload_n 2, 1) := by decide +kernel
theorem dX9_referenceAt_21 : decode cX9_referenceAt 21 = .ok (.iadd, 1) := by decide +kernel
theorem dX9_referenceAt_22 : decode cX9_referenceAt 22 = .ok (.iaload, 1) := by decide +kernel
theorem dX9_referenceAt_23 : decode cX9_referenceAt 23 = .ok (.ireturn, 1) := by decide +kernel
def FX9_referenceAt (G : GG) (M : DD) (a : Nat) (p0 : Int32) (p1 : Int32) : Option (DD × Int32) :=
  bnd (if ((0 : Int32)) ≤ p1 then (dr G 4 ((M.2 a 0)) fun b3 =>
  ltt ((((512 : Int32)) * p0)) fun x4 =>
  ltt ((x4 + p1)) fun x5 =>
  dr G 13 ((M.2 b3 5)) fun b6 =>
  chk (¬ (x5 < 0 ∨ G.2.2 b6 ≤ x5.toNatClampNeg)) <|
  ltt (M.1 b6 x5.toNatClampNeg) fun x7 =>
  some (x7)) else
  (some ((-1 : Int32)))) fun (y1 : Int32) =>
  some (M, y1)
set_option maxHeartbeats 4000000 in
set_option maxRecDepth 100000 in
theorem kX9_referenceAt (l : Launch) (D : va_G) (ct : CT) (ad : Nat → Nat) (Z : Nat → Nat) (G : GG) (M : DD) (sz : Nat) (a : Nat) (p0 : Int32) (p1 : Int32) (y : DD × Int32) (hc : a < G.1) (hk : G.2.1 a = 9) (hF : FX9_referenceAt G M a p0 p1 = some y) : Met l yX9_referenceAt wsX9_referenceAt ({ frames := 0, cells := 0, slots := 0, locals := 0 }) (va_Pc [.ref (ad a), .int p0, .int p1] (kB D ct ad Z G M sz)) (va_Qi (fun (q : Int32) (_ : Unit) => q = y.2) (fun _ t => kE D ct ad G (wA ad G sz) y.1 t) (wA ad G sz)) 0 0 (wA ad G sz) := by
  refine Met.ofW (cc := cX9_referenceAt) (maxL := 3) (ret := (some .int)) (by decide) rfl ?_
  intro p e s m args below meth c s₁ B hml hv
  obtain ⟨rfl, hsz, hP, hK, hD0, hZ, hN⟩ := hv
  have hx := B.exec
  have hb := B.bytes
  have hr := B.returns
  have hts := atoms_spec (ws := wsX9_referenceAt) B.pre
  have hown : s.vm.findClass RX9 = some m.cls := findClass_of_methodNamed B.named
  have hlocks := B.notSynchronized
  subst hsz
  have hD := wD_self (sz := s.heap.size) hD0
  have hA9 : ∀ q, s.heap.size ≤ q → wA ad G s.heap.size q := fun q h => Or.inr h
  generalize hAe : wA ad G s.heap.size = A at hD hA9 hZ ⊢
  have hS : va_S A s.heap s.heap [] := va_S.rf
  have hl := lv_entry ([.ref (ad a), .int p0, .int p1]) (n := 3) (Nat.le_of_ble_eq_true rfl)
  rw [lg_entry_eq]
  generalize (lg_sl ([.ref (ad a), .int p0, .int p1]) ++ List.replicate (3 - (lg_sl ([.ref (ad a), .int p0, .int p1])).length) Slot.unset).toArray = ls at hl ⊢
  have hl : lv_has ls 3 [(0, .ref (ad a)), (1, .int p0), (2, .int p1)] := hl
  unfold FX9_referenceAt at hF
  refine lv_iload_n hx hb dX9_referenceAt_0 rfl (lv_at hl 2 rfl) ?_
  obtain ⟨y1, hy1, hF⟩ := bnd_some hF
  have J1 : ∀ (H : Heap) (locs : List Loc) (ls : Array Slot), va_P D classes (wld ct ad G M) H → va_D A (wld ct ad G M) → va_S A s.heap H locs → lv_has ls 3 [(0, .ref (ad a)), (1, .int p0), (2, .int p1)] → W p l e (headSpec wsX9_referenceAt ({ frames := 0, cells := 0, slots := 0, locals := 0 })).room s m ([.ref (ad a), .int p0, .int p1] : List Value).toArray below meth c H locs 0 0 (MQ below (va_Qi (fun (q : Int32) (_ : Unit) => q = y.2) (fun _ t => kE D ct ad G A y.1 t) A) ([.ref (ad a), .int p0, .int p1] : List Value).toArray s 0 0 A) (F0 m 23 ls [.int y1]) := by
    intro H locs ls hP hD hS hl
    obtain rfl := Option.some.inj hF
    exact W.iret (v := y1) hx hb hr (fun t ht hW => ⟨⟨_, (), rfl, rfl, ⟨by rw [ht]; exact hP, va_K.moved hW.alike hK, hD⟩⟩, hS.F ht⟩) hS.2.2 dX9_referenceAt_23
  clear hF
  have hF := hy1
  clear hy1
  refine lv_if_ge (tgt := 8) hx hb dX9_referenceAt_1 (by decide) (fun c2 => ?_) (fun c2 => ?_)
  · rw [if_pos c2] at hF
    refine lv_aload_n hx hb dX9_referenceAt_8 rfl (lv_at hl 0 rfl) ?_
    refine va_get (D := D) (ci := 9) (v := va_re ad (M.2 a 0)) (C := RX9) (T := TX9) (N := 20) hx hb hts (by decide +kernel) hown hK hP a (wld_o ct ad G M hc hk (by decide)) rfl 0 (by decide) (hts (.fieldLink RX9 51 "VideoSuite$Work" "pic" "LVideoSuite$Picture;") (by decide +kernel)) (fun _ h9 => h9) rfl dX9_referenceAt_9 ?_
    obtain ⟨b3, ho3, hc3, hk3, hF⟩ := dr_some hF
    refine W_st (st' := [.ref (ad b3)]) (by rw [va_some ho3]) ?_
    refine va_get (D := D) (ci := 4) (v := va_re ad (M.2 b3 5)) (C := RX4) (T := TX4) (N := 18) hx hb hts (by decide +kernel) hown hK hP b3 (wld_o ct ad G M hc3 hk3 (by decide)) rfl 5 (by decide) (hts (.fieldLink RX9 83 "VideoSuite$Picture" "reference" "[I") (by decide +kernel)) (fun _ h9 => h9) rfl dX9_referenceAt_12 ?_
    refine lv_sipush (v := (512 : Int32)) hx hb dX9_referenceAt_15 (by decide) ?_
    refine lv_iload_n hx hb dX9_referenceAt_18 rfl (lv_at hl 1 rfl) ?_
    refine lv_imul hx hb dX9_referenceAt_19 ?_
    obtain ⟨x4, ex4, hF⟩ := ltt_some hF
    refine lv_topi (fun zx4 ezx4 => ?_)
    obtain rfl : x4 = zx4 := ex4.trans ezx4.symm
    refine lv_iload_n hx hb dX9_referenceAt_20 rfl (lv_at hl 2 rfl) ?_
    refine lv_iadd hx hb dX9_referenceAt_21 ?_
    obtain ⟨x5, ex5, hF⟩ := ltt_some hF
    refine lv_topi (fun zx5 ezx5 => ?_)
    obtain rfl : x5 = zx5 := ex5.trans ezx5.symm
    obtain ⟨b6, ho6, hc6, hk6, hF⟩ := dr_some hF
    refine W_st (st' := [.int x5, .ref (ad b6)]) (by rw [va_some ho6]) ?_
    obtain ⟨hvc, hF⟩ := chk_some hF
    refine va_iald hx hb hK hP b6 1 (wld_i ct ad G M hc6 hk6) rfl hvc dX9_referenceAt_22 ?_
    obtain ⟨x7, ex7, hF⟩ := ltt_some hF
    refine lv_topi (fun zx7 ezx7 => ?_)
    obtain rfl : x7 = zx7 := ex7.trans ezx7.symm
    obtain rfl := Option.some.inj hF
    exact J1 _ _ _ hP hD hS (lv_sub hl [0, 1, 2] rfl)
  · rw [if_neg c2] at hF
    refine lv_iconst (v := (-1 : Int32)) hx hb dX9_referenceAt_4 (by decide) ?_
    refine lv_goto (tgt := 23) hx hb dX9_referenceAt_5 (by decide) ?_
    obtain rfl := Option.some.inj hF
    exact J1 _ _ _ hP hD hS (lv_sub hl [0, 1, 2] rfl)
theorem dX9_scaleBy_0 : decode cX9_scaleBy 0 = .ok (.iload_n 1, 1) := by decide +kernel
theorem dX9_scaleBy_1 : decode cX9_scaleBy 1 = .ok (.ifCond .ne 7, 3) := by decide +kernel
theorem dX9_scaleBy_4 : decode cX9_scaleBy 4 = .ok (.iconst 0, 1) := by decide +kernel
theorem dX9_scaleBy_5 : decode cX9_scaleBy 5 = .ok (.goto 15, 3) := by decide +kernel
theorem dX9_scaleBy_8 : decode cX9_scaleBy 8 = .ok (.sipush 16384, 3) := by decide +kernel
theorem dX9_scaleBy_11 : decode cX9_scaleBy 11 = .ok (.iload_n 1, 1) := by decide +kernel
theorem dX9_scaleBy_12 : decode cX9_scaleBy 12 = .ok (.iconst 2, 1) := by decide +kernel
theorem dX9_scaleBy_13 : decode cX9_scaleBy 13 = .ok (.idiv, 1) := by decide +kernel
theorem dX9_scaleBy_14 : decode cX9_scaleBy 14 = .ok (.invokestatic 228, 3) := by decide +kernel
theorem dX9_scaleBy_17 : decode cX9_scaleBy 17 = .ok (.iadd, 1) := by decide +kernel
theorem dX9_scaleBy_18 : decode cX9_scaleBy 18 = .ok (.iload_n 1, 1) := by decide +kernel
theorem dX9_scaleBy_19 : decode cX9_scaleBy 19 = .ok (.idiv, 1) := by decide +kernel
theorem dX9_scaleBy_20 : decode cX9_scaleBy 20 = .ok (.istore_n 2, 1) := by decide +kernel
theorem dX9_scaleBy_21 : decode cX9_scaleBy 21 = .ok (.iload_n 0, 1) := by decide +kernel
theorem dX9_scaleBy_22 : decode cX9_scaleBy 22 = .ok (.iload_n 2, 1) := by decide +kernel
theorem dX9_scaleBy_23 : decode cX9_scaleBy 23 = .ok (.imul, 1) := by decide +kernel
theorem dX9_scaleBy_24 : decode cX9_scaleBy 24 = .ok (.bipush 32, 2) := by decide +kernel
theorem dX9_scaleBy_26 : decode cX9_scaleBy 26 = .ok (.iadd, 1) := by decide +kernel
theorem dX9_scaleBy_27 : decode cX9_scaleBy 27 = .ok (.bipush 6, 2) := by decide +kernel
theorem dX9_scaleBy_29 : decode cX9_scaleBy 29 = .ok (.ishr, 1) := by decide +kernel
theorem dX9_scaleBy_30 : decode cX9_scaleBy 30 = .ok (.istore_n 3, 1) := by decide +kernel
theorem dX9_scaleBy_31 : decode cX9_scaleBy 31 = .ok (.iload_n 3, 1) := by decide +kernel
theorem dX9_scaleBy_32 : decode cX9_scaleBy 32 = .ok (.sipush (-1024), 3) := by decide +kernel
theorem dX9_scaleBy_35 : decode cX9_scaleBy 35 = .ok (.if_icmp .ge 9, 3) := by decide +kernel
theorem dX9_scaleBy_38 : decode cX9_scaleBy 38 = .ok (.sipush (-1024), 3) := by decide +kernel
theorem dX9_scaleBy_41 : decode cX9_scaleBy 41 = .ok (.goto 17, 3) := by decide +kernel
theorem dX9_scaleBy_44 : decode cX9_scaleBy 44 = .ok (.iload_n 3, 1) := by decide +kernel
theorem dX9_scaleBy_45 : decode cX9_scaleBy 45 = .ok (.sipush 1023, 3) := by decide +kernel
theorem dX9_scaleBy_48 : decode cX9_scaleBy 48 = .ok (.if_icmp .le 9, 3) := by decide +kernel
theorem dX9_scaleBy_51 : decode cX9_scaleBy 51 = .ok (.sipush 1023, 3) := by decide +kernel
theorem dX9_scaleBy_54 : decode cX9_scaleBy 54 = .ok (.goto 4, 3) := by decide +kernel
theorem dX9_scaleBy_57 : decode cX9_scaleBy 57 = .ok (.iload_n 3, 1) := by decide +kernel
theorem dX9_scaleBy_58 : decode cX9_scaleBy 58 = .ok (.ireturn, 1) := by decide +kernel
def FX9_scaleBy (G : GG) (M : DD) (p0 : Int32) (p1 : Int32) : Option (DD × Int32) :=
  bnd (if p1 = ((0 : Int32)) then (some ((0 : Int32), M)) else
  (ltt (p1 / ((2 : Int32))) fun x10 =>
  ltt (if (0 : Int32) ≤ x10 then x10 else 0 - x10) fun x11 =>
  ltt ((((16384 : Int32)) + x11)) fun x12 =>
  chk (¬ p1 = 0) <|
  ltt (x12 / p1) fun x13 =>
  some (x13, M))) fun (y1 : Int32 × DD) =>
  ltt ((p0 * y1.1)) fun x2 =>
  ltt ((x2 + ((32 : Int32)))) fun x3 =>
  ltt ((x3 >>> (((6 : Int32)) &&& 31))) fun x4 =>
  bnd (if ((-1024 : Int32)) ≤ x4 then (bnd (if x4 ≤ ((1023 : Int32)) then (some (x4)) else
  (some ((1023 : Int32)))) fun (y7 : Int32) =>
  some (y7)) else
  (some ((-1024 : Int32)))) fun (y5 : Int32) =>
  some (y1.2, y5)
set_option maxHeartbeats 4000000 in
set_option maxRecDepth 100000 in
theorem kX9_scaleBy (l : Launch) (D : va_G) (ct : CT) (ad : Nat → Nat) (Z : Nat → Nat) (G : GG) (M : DD) (sz : Nat) (p0 : Int32) (p1 : Int32) (y : DD × Int32) (hF : FX9_scaleBy G M p0 p1 = some y) : Met l yX9_scaleBy wsX9_scaleBy ({ frames := 1, cells := 0, slots := 0, locals := 21 }) (va_Pc [.int p0, .int p1] (kB D ct ad Z G M sz)) (va_Qi (fun (q : Int32) (_ : Unit) => q = y.2) (fun _ t => kE D ct ad G (wA ad G sz) y.1 t) (wA ad G sz)) 0 0 (wA ad G sz) := by
  refine Met.ofW (cc := cX9_scaleBy) (maxL := 4) (ret := (some .int)) (by decide) rfl ?_
  intro p e s m args below meth c s₁ B hml hv
  obtain ⟨rfl, hsz, hP, hK, hD0, hZ, hN⟩ := hv
  have hx := B.exec
  have hb := B.bytes
  have hr := B.returns
  have hts := atoms_spec (ws := wsX9_scaleBy) B.pre
  have hown : s.vm.findClass RX9 = some m.cls := findClass_of_methodNamed B.named
  have hlocks := B.notSynchronized
  subst hsz
  have hD := wD_self (sz := s.heap.size) hD0
  have hA9 : ∀ q, s.heap.size ≤ q → wA ad G s.heap.size q := fun q h => Or.inr h
  generalize hAe : wA ad G s.heap.size = A at hD hA9 hZ ⊢
  have hS : va_S A s.heap s.heap [] := va_S.rf
  have hl := lv_entry ([.int p0, .int p1]) (n := 4) (Nat.le_of_ble_eq_true rfl)
  rw [lg_entry_eq]
  generalize (lg_sl ([.int p0, .int p1]) ++ List.replicate (4 - (lg_sl ([.int p0, .int p1])).length) Slot.unset).toArray = ls at hl ⊢
  have hl : lv_has ls 4 [(0, .int p0), (1, .int p1)] := hl
  unfold FX9_scaleBy at hF
  refine lv_iload_n hx hb dX9_scaleBy_0 rfl (lv_at hl 1 rfl) ?_
  obtain ⟨y1, hy1, hF⟩ := bnd_some hF
  have J1 : ∀ (H : Heap) (locs : List Loc) (ls : Array Slot), va_P D classes (wld ct ad G y1.2) H → va_D A (wld ct ad G y1.2) → va_S A s.heap H locs → lv_has ls 4 [(0, .int p0), (1, .int p1)] → W p l e (headSpec wsX9_scaleBy ({ frames := 1, cells := 0, slots := 0, locals := 21 })).room s m ([.int p0, .int p1] : List Value).toArray below meth c H locs 0 0 (MQ below (va_Qi (fun (q : Int32) (_ : Unit) => q = y.2) (fun _ t => kE D ct ad G A y.1 t) A) ([.int p0, .int p1] : List Value).toArray s 0 0 A) (F0 m 20 ls [.int y1.1]) := by
    intro H locs ls hP hD hS hl
    refine lv_istore_n (lv' := [(2, .int y1.1), (0, .int p0), (1, .int p1)]) hx hb dX9_scaleBy_20 rfl hl (by decide) rfl (fun ls hl => ?_)
    refine lv_iload_n hx hb dX9_scaleBy_21 rfl (lv_at hl 1 rfl) ?_
    refine lv_iload_n hx hb dX9_scaleBy_22 rfl (lv_at hl 0 rfl) ?_
    refine lv_imul hx hb dX9_scaleBy_23 ?_
    obtain ⟨x2, ex2, hF⟩ := ltt_some hF
    refine lv_topi (fun zx2 ezx2 => ?_)
    obtain rfl : x2 = zx2 := ex2.trans ezx2.symm
    refine lv_bipush (v := (32 : Int32)) hx hb dX9_scaleBy_24 (by decide) ?_
    refine lv_iadd hx hb dX9_scaleBy_26 ?_
    obtain ⟨x3, ex3, hF⟩ := ltt_some hF
    refine lv_topi (fun zx3 ezx3 => ?_)
    obtain rfl : x3 = zx3 := ex3.trans ezx3.symm
    refine lv_bipush (v := (6 : Int32)) hx hb dX9_scaleBy_27 (by decide) ?_
    refine lv_ishr hx hb dX9_scaleBy_29 ?_
    obtain ⟨x4, ex4, hF⟩ := ltt_some hF
    refine lv_topi (fun zx4 ezx4 => ?_)
    obtain rfl : x4 = zx4 := ex4.trans ezx4.symm
    refine lv_istore_n (lv' := [(3, .int x4), (2, .int y1.1), (0, .int p0), (1, .int p1)]) hx hb dX9_scaleBy_30 rfl hl (by decide) rfl (fun ls hl => ?_)
    refine lv_iload_n hx hb dX9_scaleBy_31 rfl (lv_at hl 0 rfl) ?_
    refine lv_sipush (v := (-1024 : Int32)) hx hb dX9_scaleBy_32 (by decide) ?_
    obtain ⟨y5, hy5, hF⟩ := bnd_some hF
    have J5 : ∀ (H : Heap) (locs : List Loc) (ls : Array Slot), va_P D classes (wld ct ad G y1.2) H → va_D A (wld ct ad G y1.2) → va_S A s.heap H locs → lv_has ls 4 [(3, .int x4), (2, .int y1.1), (0, .int p0), (1, .int p1)] → W p l e (headSpec wsX9_scaleBy ({ frames := 1, cells := 0, slots := 0, locals := 21 })).room s m ([.int p0, .int p1] : List Value).toArray below meth c H locs 0 0 (MQ below (va_Qi (fun (q : Int32) (_ : Unit) => q = y.2) (fun _ t => kE D ct ad G A y.1 t) A) ([.int p0, .int p1] : List Value).toArray s 0 0 A) (F0 m 58 ls [.int y5]) := by
      intro H locs ls hP hD hS hl
      obtain rfl := Option.some.inj hF
      exact W.iret (v := y5) hx hb hr (fun t ht hW => ⟨⟨_, (), rfl, rfl, ⟨by rw [ht]; exact hP, va_K.moved hW.alike hK, hD⟩⟩, hS.F ht⟩) hS.2.2 dX9_scaleBy_58
    clear hF
    have hF := hy5
    clear hy5
    refine lv_icmp_ge (tgt := 44) hx hb dX9_scaleBy_35 (by decide) (fun c6 => ?_) (fun c6 => ?_)
    · rw [if_pos c6] at hF
      refine lv_iload_n hx hb dX9_scaleBy_44 rfl (lv_at hl 0 rfl) ?_
      refine lv_sipush (v := (1023 : Int32)) hx hb dX9_scaleBy_45 (by decide) ?_
      obtain ⟨y7, hy7, hF⟩ := bnd_some hF
      have J7 : ∀ (H : Heap) (locs : List Loc) (ls : Array Slot), va_P D classes (wld ct ad G y1.2) H → va_D A (wld ct ad G y1.2) → va_S A s.heap H locs → lv_has ls 4 [(3, .int x4), (2, .int y1.1), (0, .int p0), (1, .int p1)] → W p l e (headSpec wsX9_scaleBy ({ frames := 1, cells := 0, slots := 0, locals := 21 })).room s m ([.int p0, .int p1] : List Value).toArray below meth c H locs 0 0 (MQ below (va_Qi (fun (q : Int32) (_ : Unit) => q = y.2) (fun _ t => kE D ct ad G A y.1 t) A) ([.int p0, .int p1] : List Value).toArray s 0 0 A) (F0 m 58 ls [.int y7]) := by
        intro H locs ls hP hD hS hl
        obtain rfl := Option.some.inj hF
        exact J5 _ _ _ hP hD hS (lv_sub hl [0, 1, 2, 3] rfl)
      clear hF
      have hF := hy7
      clear hy7
      refine lv_icmp_le (tgt := 57) hx hb dX9_scaleBy_48 (by decide) (fun c8 => ?_) (fun c8 => ?_)
      · rw [if_pos c8] at hF
        refine lv_iload_n hx hb dX9_scaleBy_57 rfl (lv_at hl 0 rfl) ?_
        obtain rfl := Option.some.inj hF
        exact J7 _ _ _ hP hD hS (lv_sub hl [0, 1, 2, 3] rfl)
      · rw [if_neg c8] at hF
        refine lv_sipush (v := (1023 : Int32)) hx hb dX9_scaleBy_51 (by decide) ?_
        refine lv_goto (tgt := 58) hx hb dX9_scaleBy_54 (by decide) ?_
        obtain rfl := Option.some.inj hF
        exact J7 _ _ _ hP hD hS (lv_sub hl [0, 1, 2, 3] rfl)
    · rw [if_neg c6] at hF
      refine lv_sipush (v := (-1024 : Int32)) hx hb dX9_scaleBy_38 (by decide) ?_
      refine lv_goto (tgt := 58) hx hb dX9_scaleBy_41 (by decide) ?_
      obtain rfl := Option.some.inj hF
      exact J5 _ _ _ hP hD hS (lv_sub hl [0, 1, 2, 3] rfl)
  clear hF
  have hF := hy1
  clear hy1
  refine lv_if_ne (tgt := 8) hx hb dX9_scaleBy_1 (by decide) (fun c9 => ?_) (fun c9 => ?_)
  · rw [if_neg c9] at hF
    refine lv_sipush (v := (16384 : Int32)) hx hb dX9_scaleBy_8 (by decide) ?_
    refine lv_iload_n hx hb dX9_scaleBy_11 rfl (lv_at hl 1 rfl) ?_
    refine lv_iconst (v := (2 : Int32)) hx hb dX9_scaleBy_12 (by decide) ?_
    refine lv_idiv hx hb dX9_scaleBy_13 (by decide) ?_
    obtain ⟨x10, ex10, hF⟩ := ltt_some hF
    refine lv_topi (fun zx10 ezx10 => ?_)
    obtain rfl : x10 = zx10 := ex10.trans ezx10.symm
    refine va_mabs hx hb (hml.trans hl.1.symm) hown (hts (.methodLink RX9 228 Lib.Math.abs.name) (by decide +kernel)) (hts (.static Lib.Math.abs.name) (by decide +kernel)) (hts (.initialized "java/lang/Math") (by decide +kernel)) (hts (.code Lib.Math.abs.name Lib.Math.abs.code 1 (some .int)) (by decide +kernel)) (Nat.le_of_ble_eq_true rfl) (Nat.le_of_ble_eq_true rfl) (Nat.zero_le _) (Nat.zero_le _) dX9_scaleBy_14 ?_
    obtain ⟨x11, ex11, hF⟩ := ltt_some hF
    refine lv_topi (fun zx11 ezx11 => ?_)
    obtain rfl : x11 = zx11 := ex11.trans ezx11.symm
    refine lv_iadd hx hb dX9_scaleBy_17 ?_
    obtain ⟨x12, ex12, hF⟩ := ltt_some hF
    refine lv_topi (fun zx12 ezx12 => ?_)
    obtain rfl : x12 = zx12 := ex12.trans ezx12.symm
    refine lv_iload_n hx hb dX9_scaleBy_18 rfl (lv_at hl 1 rfl) ?_
    obtain ⟨hne, hF⟩ := chk_some hF
    refine lv_idiv hx hb dX9_scaleBy_19 hne ?_
    obtain ⟨x13, ex13, hF⟩ := ltt_some hF
    refine lv_topi (fun zx13 ezx13 => ?_)
    obtain rfl : x13 = zx13 := ex13.trans ezx13.symm
    obtain rfl := Option.some.inj hF
    exact J1 _ _ _ hP hD hS (lv_sub hl [0, 1] rfl)
  · rw [if_pos c9] at hF
    refine lv_iconst (v := (0 : Int32)) hx hb dX9_scaleBy_4 (by decide) ?_
    refine lv_goto (tgt := 20) hx hb dX9_scaleBy_5 (by decide) ?_
    obtain rfl := Option.some.inj hF
    exact J1 _ _ _ hP hD hS (lv_sub hl [0, 1] rfl)
theorem ggX9_setMove_X9_pieceX : GoodIn wsX9_setMove wsX9_pieceX := goodIn_r _ [7] (by decide +kernel) (by decide +kernel)
set_option maxRecDepth 20000 in
theorem gX9_setMove_X9_pieceX : GoodIn wsX9_setMove (va_wsS RX9 122 yX9_pieceX wsX9_pieceX) := goodIn_app (goodIn_of _ (by decide +kernel)) ggX9_setMove_X9_pieceX
set_option maxRecDepth 20000 in
theorem ggX9_setMove_X9_pieceY : GoodIn wsX9_setMove wsX9_pieceY := goodIn_r _ [10] (by decide +kernel) (by decide +kernel)
set_option maxRecDepth 20000 in
theorem gX9_setMove_X9_pieceY : GoodIn wsX9_setMove (va_wsS RX9 126 yX9_pieceY wsX9_pieceY) := goodIn_app (goodIn_of _ (by decide +kernel)) ggX9_setMove_X9_pieceY
set_option maxRecDepth 20000 in
theorem ggX9_setMove_X4_at : GoodIn wsX9_setMove wsX4_at := goodIn_r _ [14] (by decide +kernel) (by decide +kernel)
set_option maxRecDepth 20000 in
theorem gX9_setMove_X4_at : GoodIn wsX9_setMove (va_wsS RX9 80 yX4_at wsX4_at) := goodIn_app (goodIn_of _ (by decide +kernel)) ggX9_setMove_X4_at
theorem dX9_setMove_0 : decode cX9_setMove 0 = .ok (.aload_n 0, 1) := by decide +kernel
theorem dX9_setMove_1 : decode cX9_setMove 1 = .ok (.getfield 42, 3) := by decide +kernel
theorem dX9_setMove_4 : decode cX9_setMove 4 = .ok (.iconst 5, 1) := by decide +kernel
theorem dX9_setMove_5 : decode cX9_setMove 5 = .ok (.iload_n 3, 1) := by decide +kernel
theorem dX9_setMove_6 : decode cX9_setMove 6 = .ok (.imul, 1) := by decide +kernel
theorem dX9_setMove_7 : decode cX9_setMove 7 = .ok (.iaload, 1) := by decide +kernel
theorem dX9_setMove_8 : decode cX9_setMove 8 = .ok (.invokestatic 122, 3) := by decide +kernel
theorem dX9_setMove_11 : decode cX9_setMove 11 = .ok (.istore 6, 2) := by decide +kernel
theorem dX9_setMove_13 : decode cX9_setMove 13 = .ok (.aload_n 0, 1) := by decide +kernel
theorem dX9_setMove_14 : decode cX9_setMove 14 = .ok (.getfield 42, 3) := by decide +kernel
theorem dX9_setMove_17 : decode cX9_setMove 17 = .ok (.iconst 5, 1) := by decide +kernel
theorem dX9_setMove_18 : decode cX9_setMove 18 = .ok (.iload_n 3, 1) := by decide +kernel
theorem dX9_setMove_19 : decode cX9_setMove 19 = .ok (.imul, 1) := by decide +kernel
theorem dX9_setMove_20 : decode cX9_setMove 20 = .ok (.iaload, 1) := by decide +kernel
theorem dX9_setMove_21 : decode cX9_setMove 21 = .ok (.invokestatic 126, 3) := by decide +kernel
theorem dX9_setMove_24 : decode cX9_setMove 24 = .ok (.istore 7, 2) := by decide +kernel
theorem dX9_setMove_26 : decode cX9_setMove 26 = .ok (.iconst 0, 1) := by decide +kernel
theorem dX9_setMove_27 : decode cX9_setMove 27 = .ok (.istore 8, 2) := by decide +kernel
theorem dX9_setMove_29 : decode cX9_setMove 29 = .ok (.iload 8, 2) := by decide +kernel
theorem dX9_setMove_31 : decode cX9_setMove 31 = .ok (.bipush 16, 2) := by decide +kernel
theorem dX9_setMove_33 : decode cX9_setMove 33 = .ok (.if_icmp .ge 110, 3) := by decide +kernel
theorem dX9_setMove_36 : decode cX9_setMove 36 = .ok (.iload 8, 2) := by decide +kernel
theorem dX9_setMove_38 : decode cX9_setMove 38 = .ok (.invokestatic 122, 3) := by decide +kernel
theorem dX9_setMove_41 : decode cX9_setMove 41 = .ok (.iload 6, 2) := by decide +kernel
theorem dX9_setMove_43 : decode cX9_setMove 43 = .ok (.isub, 1) := by decide +kernel
theorem dX9_setMove_44 : decode cX9_setMove 44 = .ok (.istore 9, 2) := by decide +kernel
theorem dX9_setMove_46 : decode cX9_setMove 46 = .ok (.iload 8, 2) := by decide +kernel
theorem dX9_setMove_48 : decode cX9_setMove 48 = .ok (.invokestatic 126, 3) := by decide +kernel
theorem dX9_setMove_51 : decode cX9_setMove 51 = .ok (.iload 7, 2) := by decide +kernel
theorem dX9_setMove_53 : decode cX9_setMove 53 = .ok (.isub, 1) := by decide +kernel
theorem dX9_setMove_54 : decode cX9_setMove 54 = .ok (.istore 10, 2) := by decide +kernel
theorem dX9_setMove_56 : decode cX9_setMove 56 = .ok (.iload 9, 2) := by decide +kernel
theorem dX9_setMove_58 : decode cX9_setMove 58 = .ok (.ifCond .lt 79, 3) := by decide +kernel
theorem dX9_setMove_61 : decode cX9_setMove 61 = .ok (.iload 9, 2) := by decide +kernel
theorem dX9_setMove_63 : decode cX9_setMove 63 = .ok (.aload_n 0, 1) := by decide +kernel
theorem dX9_setMove_64 : decode cX9_setMove 64 = .ok (.getfield 42, 3) := by decide +kernel
theorem dX9_setMove_67 : decode cX9_setMove 67 = .ok (.iconst 5, 1) := by decide +kernel
theorem dX9_setMove_68 : decode cX9_setMove 68 = .ok (.iload_n 3, 1) := by decide +kernel
theorem dX9_setMove_69 : decode cX9_setMove 69 = .ok (.imul, 1) := by decide +kernel
theorem dX9_setMove_70 : decode cX9_setMove 70 = .ok (.iconst 1, 1) := by decide +kernel
theorem dX9_setMove_71 : decode cX9_setMove 71 = .ok (.iadd, 1) := by decide +kernel
theorem dX9_setMove_72 : decode cX9_setMove 72 = .ok (.iaload, 1) := by decide +kernel
theorem dX9_setMove_73 : decode cX9_setMove 73 = .ok (.if_icmp .ge 64, 3) := by decide +kernel
theorem dX9_setMove_76 : decode cX9_setMove 76 = .ok (.iload 10, 2) := by decide +kernel
theorem dX9_setMove_78 : decode cX9_setMove 78 = .ok (.ifCond .lt 59, 3) := by decide +kernel
theorem dX9_setMove_81 : decode cX9_setMove 81 = .ok (.iload 10, 2) := by decide +kernel
theorem dX9_setMove_83 : decode cX9_setMove 83 = .ok (.aload_n 0, 1) := by decide +kernel
theorem dX9_setMove_84 : decode cX9_setMove 84 = .ok (.getfield 42, 3) := by decide +kernel
theorem dX9_setMove_87 : decode cX9_setMove 87 = .ok (.iconst 5, 1) := by decide +kernel
theorem dX9_setMove_88 : decode cX9_setMove 88 = .ok (.iload_n 3, 1) := by decide +kernel
theorem dX9_setMove_89 : decode cX9_setMove 89 = .ok (.imul, 1) := by decide +kernel
theorem dX9_setMove_90 : decode cX9_setMove 90 = .ok (.iconst 2, 1) := by decide +kernel
theorem dX9_setMove_91 : decode cX9_setMove 91 = .ok (.iadd, 1) := by decide +kernel
theorem dX9_setMove_92 : decode cX9_setMove 92 = .ok (.iaload, 1) := by decide +kernel
theorem dX9_setMove_93 : decode cX9_setMove 93 = .ok (.if_icmp .ge 44, 3) := by decide +kernel
theorem dX9_setMove_96 : decode cX9_setMove 96 = .ok (.iconst 2, 1) := by decide +kernel
theorem dX9_setMove_97 : decode cX9_setMove 97 = .ok (.iload_n 2, 1) := by decide +kernel
theorem dX9_setMove_98 : decode cX9_setMove 98 = .ok (.bipush 16, 2) := by decide +kernel
theorem dX9_setMove_100 : decode cX9_setMove 100 = .ok (.iload_n 1, 1) := by decide +kernel
theorem dX9_setMove_101 : decode cX9_setMove 101 = .ok (.imul, 1) := by decide +kernel
theorem dX9_setMove_102 : decode cX9_setMove 102 = .ok (.iload 8, 2) := by decide +kernel
theorem dX9_setMove_104 : decode cX9_setMove 104 = .ok (.iadd, 1) := by decide +kernel
theorem dX9_setMove_105 : decode cX9_setMove 105 = .ok (.invokestatic 80, 3) := by decide +kernel
theorem dX9_setMove_108 : decode cX9_setMove 108 = .ok (.imul, 1) := by decide +kernel
theorem dX9_setMove_109 : decode cX9_setMove 109 = .ok (.istore 11, 2) := by decide +kernel
theorem dX9_setMove_111 : decode cX9_setMove 111 = .ok (.aload_n 0, 1) := by decide +kernel
theorem dX9_setMove_112 : decode cX9_setMove 112 = .ok (.getfield 51, 3) := by decide +kernel
theorem dX9_setMove_115 : decode cX9_setMove 115 = .ok (.getfield 89, 3) := by decide +kernel
theorem dX9_setMove_118 : decode cX9_setMove 118 = .ok (.iload 11, 2) := by decide +kernel
theorem dX9_setMove_120 : decode cX9_setMove 120 = .ok (.iload 4, 2) := by decide +kernel
theorem dX9_setMove_122 : decode cX9_setMove 122 = .ok (.iastore, 1) := by decide +kernel
theorem dX9_setMove_123 : decode cX9_setMove 123 = .ok (.aload_n 0, 1) := by decide +kernel
theorem dX9_setMove_124 : decode cX9_setMove 124 = .ok (.getfield 51, 3) := by decide +kernel
theorem dX9_setMove_127 : decode cX9_setMove 127 = .ok (.getfield 89, 3) := by decide +kernel
theorem dX9_setMove_130 : decode cX9_setMove 130 = .ok (.iload 11, 2) := by decide +kernel
theorem dX9_setMove_132 : decode cX9_setMove 132 = .ok (.iconst 1, 1) := by decide +kernel
theorem dX9_setMove_133 : decode cX9_setMove 133 = .ok (.iadd, 1) := by decide +kernel
theorem dX9_setMove_134 : decode cX9_setMove 134 = .ok (.iload 5, 2) := by decide +kernel
theorem dX9_setMove_136 : decode cX9_setMove 136 = .ok (.iastore, 1) := by decide +kernel
theorem dX9_setMove_137 : decode cX9_setMove 137 = .ok (.iinc 8 1, 3) := by decide +kernel
theorem dX9_setMove_140 : decode cX9_setMove 140 = .ok (.goto (-111), 3) := by decide +kernel
theorem dX9_setMove_143 : decode cX9_setMove 143 = .ok (.return_, 1) := by decide +kernel
def FX9_setMove (G : GG) (M : DD) (a : Nat) (p0 : Int32) (p1 : Int32) (p2 : Int32) (p3 : Int32) (p4 : Int32) : Option (DD) :=
  ltt ((((5 : Int32)) * p2)) fun x1 =>
  dr G 13 ((M.2 a 13)) fun b2 =>
  chk (¬ (x1 < 0 ∨ G.2.2 b2 ≤ x1.toNatClampNeg)) <|
  ltt (M.1 b2 x1.toNatClampNeg) fun x3 =>
  bnd (FX9_pieceX G M x3) fun y4 =>
  ltt ((((5 : Int32)) * p2)) fun x5 =>
  dr G 13 ((y4.1.2 a 13)) fun b6 =>
  chk (¬ (x5 < 0 ∨ G.2.2 b6 ≤ x5.toNatClampNeg)) <|
  ltt (y4.1.1 b6 x5.toNatClampNeg) fun x7 =>
  bnd (FX9_pieceY G y4.1 x7) fun y8 =>
  bnd (itr (fun (s10 : Int32 × DD) => ((if ((16 : Int32)) ≤ s10.1 then (some (.inr (s10.1, s10.2))) else
  (bnd (FX9_pieceX G s10.2 s10.1) fun y14 =>
  ltt ((y14.2 - y4.2)) fun x15 =>
  bnd (FX9_pieceY G y14.1 s10.1) fun y16 =>
  ltt ((y16.2 - y8.2)) fun x17 =>
  bnd (if x15 < ((0 : Int32)) then (some (y16.1)) else
  (ltt ((((5 : Int32)) * p2)) fun x21 =>
  ltt ((x21 + ((1 : Int32)))) fun x22 =>
  dr G 13 ((y16.1.2 a 13)) fun b23 =>
  chk (¬ (x22 < 0 ∨ G.2.2 b23 ≤ x22.toNatClampNeg)) <|
  ltt (y16.1.1 b23 x22.toNatClampNeg) fun x24 =>
  bnd (if x24 ≤ x15 then (some (y16.1)) else
  (bnd (if x17 < ((0 : Int32)) then (some (y16.1)) else
  (ltt ((((5 : Int32)) * p2)) fun x29 =>
  ltt ((x29 + ((2 : Int32)))) fun x30 =>
  chk (¬ (x30 < 0 ∨ G.2.2 b23 ≤ x30.toNatClampNeg)) <|
  ltt (y16.1.1 b23 x30.toNatClampNeg) fun x31 =>
  bnd (if x31 ≤ x17 then (some (y16.1)) else
  (ltt ((((16 : Int32)) * p0)) fun x34 =>
  ltt ((x34 + s10.1)) fun x35 =>
  bnd (FX4_at G y16.1 p1 x35) fun y36 =>
  ltt ((((2 : Int32)) * y36.2)) fun x37 =>
  dr G 4 ((y36.1.2 a 0)) fun b38 =>
  dr G 13 ((y36.1.2 b38 7)) fun b39 =>
  chk (¬ (x37 < 0 ∨ G.2.2 b39 ≤ x37.toNatClampNeg)) <|
  ltt (uI y36.1 b39 x37.toNatClampNeg p3) fun M40 =>
  dr G 4 ((M40.2 a 0)) fun b41 =>
  ltt ((x37 + ((1 : Int32)))) fun x42 =>
  dr G 13 ((M40.2 b41 7)) fun b43 =>
  chk (¬ (x42 < 0 ∨ G.2.2 b43 ≤ x42.toNatClampNeg)) <|
  ltt (uI M40 b43 x42.toNatClampNeg p4) fun M44 =>
  some (M44))) fun (y32 : DD) =>
  some (y32))) fun (y27 : DD) =>
  some (y27))) fun (y25 : DD) =>
  some (y25))) fun (y18 : DD) =>
  ltt (s10.1 + (1 : Int32)) fun x19 =>
  some (.inl (x19, y18)))) : Option ((Int32 × DD) ⊕ (Int32 × DD)))) 1000000 ((0 : Int32), y8.1)) fun (y9 : Int32 × DD) =>
  some y9.2
set_option maxHeartbeats 4000000 in
set_option maxRecDepth 100000 in
theorem kX9_setMove (l : Launch) (D : va_G) (ct : CT) (ad : Nat → Nat) (Z : Nat → Nat) (G : GG) (M : DD) (sz : Nat) (a : Nat) (p0 : Int32) (p1 : Int32) (p2 : Int32) (p3 : Int32) (p4 : Int32) (y : DD) (hc : a < G.1) (hk : G.2.1 a = 9) (hF : FX9_setMove G M a p0 p1 p2 p3 p4 = some y) : Met l yX9_setMove wsX9_setMove ({ frames := 1, cells := 0, slots := 0, locals := 21 }) (va_Pc [.ref (ad a), .int p0, .int p1, .int p2, .int p3, .int p4] (kB D ct ad Z G M sz)) (va_Qv (fun (_ : Unit) => True) (fun _ t => kE D ct ad G (wA ad G sz) y t) (wA ad G sz)) 0 0 (wA ad G sz) := by
  refine Met.ofW (cc := cX9_setMove) (maxL := 12) (ret := none) (by decide) rfl ?_
  intro p e s m args below meth c s₁ B hml hv
  obtain ⟨rfl, hsz, hP, hK, hD0, hZ, hN⟩ := hv
  have hx := B.exec
  have hb := B.bytes
  have hr := B.returns
  have hts := atoms_spec (ws := wsX9_setMove) B.pre
  have hown : s.vm.findClass RX9 = some m.cls := findClass_of_methodNamed B.named
  have hlocks := B.notSynchronized
  subst hsz
  have hD := wD_self (sz := s.heap.size) hD0
  have hA9 : ∀ q, s.heap.size ≤ q → wA ad G s.heap.size q := fun q h => Or.inr h
  generalize hAe : wA ad G s.heap.size = A at hD hA9 hZ ⊢
  have hS : va_S A s.heap s.heap [] := va_S.rf
  have hl := lv_entry ([.ref (ad a), .int p0, .int p1, .int p2, .int p3, .int p4]) (n := 12) (Nat.le_of_ble_eq_true rfl)
  rw [lg_entry_eq]
  generalize (lg_sl ([.ref (ad a), .int p0, .int p1, .int p2, .int p3, .int p4]) ++ List.replicate (12 - (lg_sl ([.ref (ad a), .int p0, .int p1, .int p2, .int p3, .int p4])).length) Slot.unset).toArray = ls at hl ⊢
  have hl : lv_has ls 12 [(0, .ref (ad a)), (1, .int p0), (2, .int p1), (3, .int p2), (4, .int p3), (5, .int p4)] := hl
  unfold FX9_setMove at hF
  refine lv_aload_n hx hb dX9_setMove_0 rfl (lv_at hl 0 rfl) ?_
  refine va_get (D := D) (ci := 9) (v := va_re ad (M.2 a 13)) (C := RX9) (T := TX9) (N := 20) hx hb hts (by decide +kernel) hown hK hP a (wld_o ct ad G M hc hk (by decide)) rfl 13 (by decide) (hts (.fieldLink RX9 42 "VideoSuite$Work" "part" "[I") (by decide +kernel)) (fun _ h9 => h9) rfl dX9_setMove_1 ?_
  refine lv_iconst (v := (5 : Int32)) hx hb dX9_setMove_4 (by decide) ?_
  refine lv_iload_n hx hb dX9_setMove_5 rfl (lv_at hl 3 rfl) ?_
  refine lv_imul hx hb dX9_setMove_6 ?_
  obtain ⟨x1, ex1, hF⟩ := ltt_some hF
  refine lv_topi (fun zx1 ezx1 => ?_)
  obtain rfl : x1 = zx1 := ex1.trans ezx1.symm
  obtain ⟨b2, ho2, hc2, hk2, hF⟩ := dr_some hF
  refine W_st (st' := [.int x1, .ref (ad b2)]) (by rw [va_some ho2]) ?_
  obtain ⟨hvc, hF⟩ := chk_some hF
  refine va_iald hx hb hK hP b2 1 (wld_i ct ad G M hc2 hk2) rfl hvc dX9_setMove_7 ?_
  obtain ⟨x3, ex3, hF⟩ := ltt_some hF
  refine lv_topi (fun zx3 ezx3 => ?_)
  obtain rfl : x3 = zx3 := ex3.trans ezx3.symm
  obtain ⟨y4, hy4, hF⟩ := bnd_some hF
  have hf9 := wA_in hD hA9 hS
  refine va_calli (va_runS (As := [.int x3]) (rest := []) ⟨hx, hb, hml, hown, hts⟩ (kX9_pieceX l D ct ad Z G M s.heap.size x3 y4 hy4) (va_cwS 1 hts gX9_setMove_X9_pieceX rfl rfl rfl (by decide +kernel) ⟨Nat.le_of_ble_eq_true rfl, Nat.le_of_ble_eq_true rfl⟩) ⟨fun a U g mk q => by obtain ⟨q0, q1, qP, qK, qD, qZ, qN⟩ := q; exact ⟨q0, q1, qP, va_K.moved (u := U) (U := U.calling g mk a) (Vm.Alike.refl U.vm) qK, qD, sF.moved (u := U) (U := U.calling g mk a) (Vm.Alike.refl U.vm) qZ, nF.same rfl qN⟩, fun U hU hW => ⟨rfl, by rw [hU], by rw [hU]; exact hP, va_K.moved hW.alike hK, hD.weaken (fun _ _ _ _ => trivial), by rw [hU]; exact ((hZ.kept hS.2.1).narrow hf9).moved hW.alike, hN.warm hW⟩⟩ rfl rfl hl.1 rfl (lv_room (Nat.le_of_ble_eq_true rfl)) dX9_setMove_8 ⟨(Nat.zero_le _), (Nat.zero_le _)⟩) hS (fun q _ h => hf9 q h) hf9 (fun r u t H locs ht hvm hw hB hz1 hk1 hS => ?_)
  obtain ⟨hP, hK9, hD9⟩ := hB
  rw [ht] at hP
  try dsimp only at hw
  subst hw
  have hD := hD9.weaken (fun _ q _ h => hf9 q.1 h)
  refine lv_istore (lv' := [(6, .int y4.2), (0, .ref (ad a)), (1, .int p0), (2, .int p1), (3, .int p2), (4, .int p3), (5, .int p4)]) hx hb dX9_setMove_11 hl (by decide) rfl (fun ls hl => ?_)
  refine lv_aload_n hx hb dX9_setMove_13 rfl (lv_at hl 1 rfl) ?_
  refine va_get (D := D) (ci := 9) (v := va_re ad (y4.1.2 a 13)) (C := RX9) (T := TX9) (N := 20) hx hb hts (by decide +kernel) hown hK hP a (wld_o ct ad G y4.1 hc hk (by decide)) rfl 13 (by decide) (hts (.fieldLink RX9 42 "VideoSuite$Work" "part" "[I") (by decide +kernel)) (fun _ h9 => h9) rfl dX9_setMove_14 ?_
  refine lv_iconst (v := (5 : Int32)) hx hb dX9_setMove_17 (by decide) ?_
  refine lv_iload_n hx hb dX9_setMove_18 rfl (lv_at hl 4 rfl) ?_
  refine lv_imul hx hb dX9_setMove_19 ?_
  obtain ⟨x5, ex5, hF⟩ := ltt_some hF
  refine lv_topi (fun zx5 ezx5 => ?_)
  obtain rfl : x5 = zx5 := ex5.trans ezx5.symm
  obtain ⟨b6, ho6, hc6, hk6, hF⟩ := dr_some hF
  refine W_st (st' := [.int x5, .ref (ad b6)]) (by rw [va_some ho6]) ?_
  obtain ⟨hvc, hF⟩ := chk_some hF
  refine va_iald hx hb hK hP b6 1 (wld_i ct ad G y4.1 hc6 hk6) rfl hvc dX9_setMove_20 ?_
  obtain ⟨x7, ex7, hF⟩ := ltt_some hF
  refine lv_topi (fun zx7 ezx7 => ?_)
  obtain rfl : x7 = zx7 := ex7.trans ezx7.symm
  obtain ⟨y8, hy8, hF⟩ := bnd_some hF
  have hf9 := wA_in hD hA9 hS
  refine va_calli (va_runS (As := [.int x7]) (rest := []) ⟨hx, hb, hml, hown, hts⟩ (kX9_pieceY l D ct ad Z G y4.1 H.size x7 y8 hy8) (va_cwS 1 hts gX9_setMove_X9_pieceY rfl rfl rfl (by decide +kernel) ⟨Nat.le_of_ble_eq_true rfl, Nat.le_of_ble_eq_true rfl⟩) ⟨fun a U g mk q => by obtain ⟨q0, q1, qP, qK, qD, qZ, qN⟩ := q; exact ⟨q0, q1, qP, va_K.moved (u := U) (U := U.calling g mk a) (Vm.Alike.refl U.vm) qK, qD, sF.moved (u := U) (U := U.calling g mk a) (Vm.Alike.refl U.vm) qZ, nF.same rfl qN⟩, fun U hU hW => ⟨rfl, by rw [hU], by rw [hU]; exact hP, va_K.moved hW.alike hK, hD.weaken (fun _ _ _ _ => trivial), by rw [hU]; exact ((hZ.kept hS.2.1).narrow hf9).moved hW.alike, hN.warm hW⟩⟩ rfl rfl hl.1 rfl (lv_room (Nat.le_of_ble_eq_true rfl)) dX9_setMove_21 ⟨(Nat.zero_le _), (Nat.zero_le _)⟩) hS (fun q _ h => hf9 q h) hf9 (fun r u t H locs ht hvm hw hB hz1 hk1 hS => ?_)
  obtain ⟨hP, hK9, hD9⟩ := hB
  rw [ht] at hP
  try dsimp only at hw
  subst hw
  have hD := hD9.weaken (fun _ q _ h => hf9 q.1 h)
  refine lv_istore (lv' := [(7, .int y8.2), (6, .int y4.2), (0, .ref (ad a)), (1, .int p0), (2, .int p1), (3, .int p2), (4, .int p3), (5, .int p4)]) hx hb dX9_setMove_24 hl (by decide) rfl (fun ls hl => ?_)
  refine lv_iconst (v := (0 : Int32)) hx hb dX9_setMove_26 (by decide) ?_
  refine lv_istore (lv' := [(8, .int (0 : Int32)), (7, .int y8.2), (6, .int y4.2), (0, .ref (ad a)), (1, .int p0), (2, .int p1), (3, .int p2), (4, .int p3), (5, .int p4)]) hx hb dX9_setMove_27 hl (by decide) rfl (fun ls hl => ?_)
  obtain ⟨y9, hy9, hF⟩ := bnd_some hF
  have K9 : ∀ (H : Heap) (locs : List Loc) (ls : Array Slot), va_P D classes (wld ct ad G y9.2) H → va_D A (wld ct ad G y9.2) → va_S A s.heap H locs → lv_has ls 12 [(8, .int y9.1), (7, .int y8.2), (6, .int y4.2), (0, .ref (ad a)), (1, .int p0), (2, .int p1), (3, .int p2), (4, .int p3), (5, .int p4)] → W p l e (headSpec wsX9_setMove ({ frames := 1, cells := 0, slots := 0, locals := 21 })).room s m ([.ref (ad a), .int p0, .int p1, .int p2, .int p3, .int p4] : List Value).toArray below meth c H locs 0 0 (MQ below (va_Qv (fun (_ : Unit) => True) (fun _ t => kE D ct ad G A y t) A) ([.ref (ad a), .int p0, .int p1, .int p2, .int p3, .int p4] : List Value).toArray s 0 0 A) (F0 m 143 ls []) := by
    intro H locs ls hP hD hS hl
    obtain rfl := Option.some.inj hF
    exact W.vret hx hb hr (fun t ht hW => ⟨⟨(), rfl, trivial, ⟨by rw [ht]; exact hP, va_K.moved hW.alike hK, hD⟩⟩, hS.F ht⟩) hS.2.2 dX9_setMove_143
  clear hF
  refine itr_rule (fun (s10 : Int32 × DD) => ∀ (H : Heap) (locs : List Loc) (ls : Array Slot), va_P D classes (wld ct ad G s10.2) H → va_D A (wld ct ad G s10.2) → va_S A s.heap H locs → lv_has ls 12 [(8, .int s10.1), (7, .int y8.2), (6, .int y4.2), (0, .ref (ad a)), (1, .int p0), (2, .int p1), (3, .int p2), (4, .int p3), (5, .int p4)] → W p l e (headSpec wsX9_setMove ({ frames := 1, cells := 0, slots := 0, locals := 21 })).room s m ([.ref (ad a), .int p0, .int p1, .int p2, .int p3, .int p4] : List Value).toArray below meth c H locs 0 0 (MQ below (va_Qv (fun (_ : Unit) => True) (fun _ t => kE D ct ad G A y t) A) ([.ref (ad a), .int p0, .int p1, .int p2, .int p3, .int p4] : List Value).toArray s 0 0 A) (F0 m 29 ls [])) ?_ _ _ hy9 _ _ _ hP hD hS (lv_sub hl [0, 1, 2, 3, 4, 5, 6, 7, 8] rfl)
  rintro s10 ⟨z12, hF, hwz12⟩ H locs ls hP hD hS hl
  try dsimp only at hF
  refine lv_iload hx hb dX9_setMove_29 (lv_at hl 0 rfl) ?_
  refine lv_bipush (v := (16 : Int32)) hx hb dX9_setMove_31 (by decide) ?_
  refine lv_icmp_ge (tgt := 143) hx hb dX9_setMove_33 (by decide) (fun c13 => ?_) (fun c13 => ?_)
  · rw [if_pos c13] at hF
    obtain rfl := Option.some.inj hF
    subst hwz12
    exact K9 _ _ _ hP hD hS (lv_sub hl [0, 1, 2, 3, 4, 5, 6, 7, 8] rfl)
  · rw [if_neg c13] at hF
    refine lv_iload hx hb dX9_setMove_36 (lv_at hl 0 rfl) ?_
    obtain ⟨y14, hy14, hF⟩ := bnd_some hF
    have hf9 := wA_in hD hA9 hS
    refine va_calli (va_runS (As := [.int s10.1]) (rest := []) ⟨hx, hb, hml, hown, hts⟩ (kX9_pieceX l D ct ad Z G s10.2 H.size s10.1 y14 hy14) (va_cwS 1 hts gX9_setMove_X9_pieceX rfl rfl rfl (by decide +kernel) ⟨Nat.le_of_ble_eq_true rfl, Nat.le_of_ble_eq_true rfl⟩) ⟨fun a U g mk q => by obtain ⟨q0, q1, qP, qK, qD, qZ, qN⟩ := q; exact ⟨q0, q1, qP, va_K.moved (u := U) (U := U.calling g mk a) (Vm.Alike.refl U.vm) qK, qD, sF.moved (u := U) (U := U.calling g mk a) (Vm.Alike.refl U.vm) qZ, nF.same rfl qN⟩, fun U hU hW => ⟨rfl, by rw [hU], by rw [hU]; exact hP, va_K.moved hW.alike hK, hD.weaken (fun _ _ _ _ => trivial), by rw [hU]; exact ((hZ.kept hS.2.1).narrow hf9).moved hW.alike, hN.warm hW⟩⟩ rfl rfl hl.1 rfl (lv_room (Nat.le_of_ble_eq_true rfl)) dX9_setMove_38 ⟨(Nat.zero_le _), (Nat.zero_le _)⟩) hS (fun q _ h => hf9 q h) hf9 (fun r u t H locs ht hvm hw hB hz1 hk1 hS => ?_)
    obtain ⟨hP, hK9, hD9⟩ := hB
    rw [ht] at hP
    try dsimp only at hw
    subst hw
    have hD := hD9.weaken (fun _ q _ h => hf9 q.1 h)
    refine lv_iload hx hb dX9_setMove_41 (lv_at hl 2 rfl) ?_
    refine lv_isub hx hb dX9_setMove_43 ?_
    obtain ⟨x15, ex15, hF⟩ := ltt_some hF
    refine lv_topi (fun zx15 ezx15 => ?_)
    obtain rfl : x15 = zx15 := ex15.trans ezx15.symm
    refine lv_istore (lv' := [(9, .int x15), (8, .int s10.1), (7, .int y8.2), (6, .int y4.2), (0, .ref (ad a)), (1, .int p0), (2, .int p1), (3, .int p2), (4, .int p3), (5, .int p4)]) hx hb dX9_setMove_44 hl (by decide) rfl (fun ls hl => ?_)
    refine lv_iload hx hb dX9_setMove_46 (lv_at hl 1 rfl) ?_
    obtain ⟨y16, hy16, hF⟩ := bnd_some hF
    have hf9 := wA_in hD hA9 hS
    refine va_calli (va_runS (As := [.int s10.1]) (rest := []) ⟨hx, hb, hml, hown, hts⟩ (kX9_pieceY l D ct ad Z G y14.1 H.size s10.1 y16 hy16) (va_cwS 1 hts gX9_setMove_X9_pieceY rfl rfl rfl (by decide +kernel) ⟨Nat.le_of_ble_eq_true rfl, Nat.le_of_ble_eq_true rfl⟩) ⟨fun a U g mk q => by obtain ⟨q0, q1, qP, qK, qD, qZ, qN⟩ := q; exact ⟨q0, q1, qP, va_K.moved (u := U) (U := U.calling g mk a) (Vm.Alike.refl U.vm) qK, qD, sF.moved (u := U) (U := U.calling g mk a) (Vm.Alike.refl U.vm) qZ, nF.same rfl qN⟩, fun U hU hW => ⟨rfl, by rw [hU], by rw [hU]; exact hP, va_K.moved hW.alike hK, hD.weaken (fun _ _ _ _ => trivial), by rw [hU]; exact ((hZ.kept hS.2.1).narrow hf9).moved hW.alike, hN.warm hW⟩⟩ rfl rfl hl.1 rfl (lv_room (Nat.le_of_ble_eq_true rfl)) dX9_setMove_48 ⟨(Nat.zero_le _), (Nat.zero_le _)⟩) hS (fun q _ h => hf9 q h) hf9 (fun r u t H locs ht hvm hw hB hz1 hk1 hS => ?_)
    obtain ⟨hP, hK9, hD9⟩ := hB
    rw [ht] at hP
    try dsimp only at hw
    subst hw
    have hD := hD9.weaken (fun _ q _ h => hf9 q.1 h)
    refine lv_iload hx hb dX9_setMove_51 (lv_at hl 2 rfl) ?_
    refine lv_isub hx hb dX9_setMove_53 ?_
    obtain ⟨x17, ex17, hF⟩ := ltt_some hF
    refine lv_topi (fun zx17 ezx17 => ?_)
    obtain rfl : x17 = zx17 := ex17.trans ezx17.symm
    refine lv_istore (lv' := [(10, .int x17), (9, .int x15), (8, .int s10.1), (7, .int y8.2), (6, .int y4.2), (0, .ref (ad a)), (1, .int p0), (2, .int p1), (3, .int p2), (4, .int p3), (5, .int p4)]) hx hb dX9_setMove_54 hl (by decide) rfl (fun ls hl => ?_)
    refine lv_iload hx hb dX9_setMove_56 (lv_at hl 1 rfl) ?_
    obtain ⟨y18, hy18, hF⟩ := bnd_some hF
    have J18 : ∀ (H : Heap) (locs : List Loc) (ls : Array Slot), va_P D classes (wld ct ad G y18) H → va_D A (wld ct ad G y18) → va_S A s.heap H locs → lv_has ls 12 [(10, .int x17), (9, .int x15), (8, .int s10.1), (7, .int y8.2), (6, .int y4.2), (0, .ref (ad a)), (1, .int p0), (2, .int p1), (3, .int p2), (4, .int p3), (5, .int p4)] → W p l e (headSpec wsX9_setMove ({ frames := 1, cells := 0, slots := 0, locals := 21 })).room s m ([.ref (ad a), .int p0, .int p1, .int p2, .int p3, .int p4] : List Value).toArray below meth c H locs 0 0 (MQ below (va_Qv (fun (_ : Unit) => True) (fun _ t => kE D ct ad G A y t) A) ([.ref (ad a), .int p0, .int p1, .int p2, .int p3, .int p4] : List Value).toArray s 0 0 A) (F0 m 137 ls []) := by
      intro H locs ls hP hD hS hl
      obtain ⟨x19, ex19, hF⟩ := ltt_some hF
      refine lv_iinc (v := x19) (lv' := [(8, .int x19), (10, .int x17), (9, .int x15), (7, .int y8.2), (6, .int y4.2), (0, .ref (ad a)), (1, .int p0), (2, .int p1), (3, .int p2), (4, .int p3), (5, .int p4)]) hx hb dX9_setMove_137 hl (k := 2) rfl (by rw [ex19]; rfl) (by decide) rfl (fun ls hl => ?_)
      refine lv_goto (tgt := 29) hx hb dX9_setMove_140 (by decide) ?_
      obtain rfl := Option.some.inj hF
      exact hwz12 _ _ _ hP hD hS (lv_sub hl [0, 3, 4, 5, 6, 7, 8, 9, 10] rfl)
    clear hF
    have hF := hy18
    clear hy18
    refine lv_if_lt (tgt := 137) hx hb dX9_setMove_58 (by decide) (fun c20 => ?_) (fun c20 => ?_)
    · rw [if_pos c20] at hF
      obtain rfl := Option.some.inj hF
      exact J18 _ _ _ hP hD hS (lv_sub hl [0, 1, 2, 3, 4, 5, 6, 7, 8, 9, 10] rfl)
    · rw [if_neg c20] at hF
      refine lv_iload hx hb dX9_setMove_61 (lv_at hl 1 rfl) ?_
      refine lv_aload_n hx hb dX9_setMove_63 rfl (lv_at hl 5 rfl) ?_
      refine va_get (D := D) (ci := 9) (v := va_re ad (y16.1.2 a 13)) (C := RX9) (T := TX9) (N := 20) hx hb hts (by decide +kernel) hown hK hP a (wld_o ct ad G y16.1 hc hk (by decide)) rfl 13 (by decide) (hts (.fieldLink RX9 42 "VideoSuite$Work" "part" "[I") (by decide +kernel)) (fun _ h9 => h9) rfl dX9_setMove_64 ?_
      refine lv_iconst (v := (5 : Int32)) hx hb dX9_setMove_67 (by decide) ?_
      refine lv_iload_n hx hb dX9_setMove_68 rfl (lv_at hl 8 rfl) ?_
      refine lv_imul hx hb dX9_setMove_69 ?_
      obtain ⟨x21, ex21, hF⟩ := ltt_some hF
      refine lv_topi (fun zx21 ezx21 => ?_)
      obtain rfl : x21 = zx21 := ex21.trans ezx21.symm
      refine lv_iconst (v := (1 : Int32)) hx hb dX9_setMove_70 (by decide) ?_
      refine lv_iadd hx hb dX9_setMove_71 ?_
      obtain ⟨x22, ex22, hF⟩ := ltt_some hF
      refine lv_topi (fun zx22 ezx22 => ?_)
      obtain rfl : x22 = zx22 := ex22.trans ezx22.symm
      obtain ⟨b23, ho23, hc23, hk23, hF⟩ := dr_some hF
      refine W_st (st' := [.int x22, .ref (ad b23), .int x15]) (by rw [va_some ho23]) ?_
      obtain ⟨hvc, hF⟩ := chk_some hF
      refine va_iald hx hb hK hP b23 1 (wld_i ct ad G y16.1 hc23 hk23) rfl hvc dX9_setMove_72 ?_
      obtain ⟨x24, ex24, hF⟩ := ltt_some hF
      refine lv_topi (fun zx24 ezx24 => ?_)
      obtain rfl : x24 = zx24 := ex24.trans ezx24.symm
      obtain ⟨y25, hy25, hF⟩ := bnd_some hF
      have J25 : ∀ (H : Heap) (locs : List Loc) (ls : Array Slot), va_P D classes (wld ct ad G y25) H → va_D A (wld ct ad G y25) → va_S A s.heap H locs → lv_has ls 12 [(10, .int x17), (9, .int x15), (8, .int s10.1), (7, .int y8.2), (6, .int y4.2), (0, .ref (ad a)), (1, .int p0), (2, .int p1), (3, .int p2), (4, .int p3), (5, .int p4)] → W p l e (headSpec wsX9_setMove ({ frames := 1, cells := 0, slots := 0, locals := 21 })).room s m ([.ref (ad a), .int p0, .int p1, .int p2, .int p3, .int p4] : List Value).toArray below meth c H locs 0 0 (MQ below (va_Qv (fun (_ : Unit) => True) (fun _ t => kE D ct ad G A y t) A) ([.ref (ad a), .int p0, .int p1, .int p2, .int p3, .int p4] : List Value).toArray s 0 0 A) (F0 m 137 ls []) := by
        intro H locs ls hP hD hS hl
        obtain rfl := Option.some.inj hF
        exact J18 _ _ _ hP hD hS (lv_sub hl [0, 1, 2, 3, 4, 5, 6, 7, 8, 9, 10] rfl)
      clear hF
      have hF := hy25
      clear hy25
      refine lv_icmp_ge (tgt := 137) hx hb dX9_setMove_73 (by decide) (fun c26 => ?_) (fun c26 => ?_)
      · rw [if_pos c26] at hF
        obtain rfl := Option.some.inj hF
        exact J25 _ _ _ hP hD hS (lv_sub hl [0, 1, 2, 3, 4, 5, 6, 7, 8, 9, 10] rfl)
      · rw [if_neg c26] at hF
        refine lv_iload hx hb dX9_setMove_76 (lv_at hl 0 rfl) ?_
        obtain ⟨y27, hy27, hF⟩ := bnd_some hF
        have J27 : ∀ (H : Heap) (locs : List Loc) (ls : Array Slot), va_P D classes (wld ct ad G y27) H → va_D A (wld ct ad G y27) → va_S A s.heap H locs → lv_has ls 12 [(10, .int x17), (9, .int x15), (8, .int s10.1), (7, .int y8.2), (6, .int y4.2), (0, .ref (ad a)), (1, .int p0), (2, .int p1), (3, .int p2), (4, .int p3), (5, .int p4)] → W p l e (headSpec wsX9_setMove ({ frames := 1, cells := 0, slots := 0, locals := 21 })).room s m ([.ref (ad a), .int p0, .int p1, .int p2, .int p3, .int p4] : List Value).toArray below meth c H locs 0 0 (MQ below (va_Qv (fun (_ : Unit) => True) (fun _ t => kE D ct ad G A y t) A) ([.ref (ad a), .int p0, .int p1, .int p2, .int p3, .int p4] : List Value).toArray s 0 0 A) (F0 m 137 ls []) := by
          intro H locs ls hP hD hS hl
          obtain rfl := Option.some.inj hF
          exact J25 _ _ _ hP hD hS (lv_sub hl [0, 1, 2, 3, 4, 5, 6, 7, 8, 9, 10] rfl)
        clear hF
        have hF := hy27
        clear hy27
        refine lv_if_lt (tgt := 137) hx hb dX9_setMove_78 (by decide) (fun c28 => ?_) (fun c28 => ?_)
        · rw [if_pos c28] at hF
          obtain rfl := Option.some.inj hF
          exact J27 _ _ _ hP hD hS (lv_sub hl [0, 1, 2, 3, 4, 5, 6, 7, 8, 9, 10] rfl)
        · rw [if_neg c28] at hF
          refine lv_iload hx hb dX9_setMove_81 (lv_at hl 0 rfl) ?_
          refine lv_aload_n hx hb dX9_setMove_83 rfl (lv_at hl 5 rfl) ?_
          refine va_get (D := D) (ci := 9) (v := va_re ad (y16.1.2 a 13)) (C := RX9) (T := TX9) (N := 20) hx hb hts (by decide +kernel) hown hK hP a (wld_o ct ad G y16.1 hc hk (by decide)) rfl 13 (by decide) (hts (.fieldLink RX9 42 "VideoSuite$Work" "part" "[I") (by decide +kernel)) (fun _ h9 => h9) rfl dX9_setMove_84 ?_
          refine lv_iconst (v := (5 : Int32)) hx hb dX9_setMove_87 (by decide) ?_
          refine lv_iload_n hx hb dX9_setMove_88 rfl (lv_at hl 8 rfl) ?_
          refine lv_imul hx hb dX9_setMove_89 ?_
          obtain ⟨x29, ex29, hF⟩ := ltt_some hF
          refine lv_topi (fun zx29 ezx29 => ?_)
          obtain rfl : x29 = zx29 := ex29.trans ezx29.symm
          refine lv_iconst (v := (2 : Int32)) hx hb dX9_setMove_90 (by decide) ?_
          refine lv_iadd hx hb dX9_setMove_91 ?_
          obtain ⟨x30, ex30, hF⟩ := ltt_some hF
          refine lv_topi (fun zx30 ezx30 => ?_)
          obtain rfl : x30 = zx30 := ex30.trans ezx30.symm
          refine W_st (st' := [.int x30, .ref (ad b23), .int x17]) (by rw [va_some ho23]) ?_
          obtain ⟨hvc, hF⟩ := chk_some hF
          refine va_iald hx hb hK hP b23 1 (wld_i ct ad G y16.1 hc23 hk23) rfl hvc dX9_setMove_92 ?_
          obtain ⟨x31, ex31, hF⟩ := ltt_some hF
          refine lv_topi (fun zx31 ezx31 => ?_)
          obtain rfl : x31 = zx31 := ex31.trans ezx31.symm
          obtain ⟨y32, hy32, hF⟩ := bnd_some hF
          have J32 : ∀ (H : Heap) (locs : List Loc) (ls : Array Slot), va_P D classes (wld ct ad G y32) H → va_D A (wld ct ad G y32) → va_S A s.heap H locs → lv_has ls 12 [(10, .int x17), (9, .int x15), (8, .int s10.1), (7, .int y8.2), (6, .int y4.2), (0, .ref (ad a)), (1, .int p0), (2, .int p1), (3, .int p2), (4, .int p3), (5, .int p4)] → W p l e (headSpec wsX9_setMove ({ frames := 1, cells := 0, slots := 0, locals := 21 })).room s m ([.ref (ad a), .int p0, .int p1, .int p2, .int p3, .int p4] : List Value).toArray below meth c H locs 0 0 (MQ below (va_Qv (fun (_ : Unit) => True) (fun _ t => kE D ct ad G A y t) A) ([.ref (ad a), .int p0, .int p1, .int p2, .int p3, .int p4] : List Value).toArray s 0 0 A) (F0 m 137 ls []) := by
            intro H locs ls hP hD hS hl
            obtain rfl := Option.some.inj hF
            exact J27 _ _ _ hP hD hS (lv_sub hl [0, 1, 2, 3, 4, 5, 6, 7, 8, 9, 10] rfl)
          clear hF
          have hF := hy32
          clear hy32
          refine lv_icmp_ge (tgt := 137) hx hb dX9_setMove_93 (by decide) (fun c33 => ?_) (fun c33 => ?_)
          · rw [if_pos c33] at hF
            obtain rfl := Option.some.inj hF
            exact J32 _ _ _ hP hD hS (lv_sub hl [0, 1, 2, 3, 4, 5, 6, 7, 8, 9, 10] rfl)
          · rw [if_neg c33] at hF
            refine lv_iconst (v := (2 : Int32)) hx hb dX9_setMove_96 (by decide) ?_
            refine lv_iload_n hx hb dX9_setMove_97 rfl (lv_at hl 7 rfl) ?_
            refine lv_bipush (v := (16 : Int32)) hx hb dX9_setMove_98 (by decide) ?_
            refine lv_iload_n hx hb dX9_setMove_100 rfl (lv_at hl 6 rfl) ?_
            refine lv_imul hx hb dX9_setMove_101 ?_
            obtain ⟨x34, ex34, hF⟩ := ltt_some hF
            refine lv_topi (fun zx34 ezx34 => ?_)
            obtain rfl : x34 = zx34 := ex34.trans ezx34.symm
            refine lv_iload hx hb dX9_setMove_102 (lv_at hl 2 rfl) ?_
            refine lv_iadd hx hb dX9_setMove_104 ?_
            obtain ⟨x35, ex35, hF⟩ := ltt_some hF
            refine lv_topi (fun zx35 ezx35 => ?_)
            obtain rfl : x35 = zx35 := ex35.trans ezx35.symm
            obtain ⟨y36, hy36, hF⟩ := bnd_some hF
            have hf9 := wA_in hD hA9 hS
            refine va_calli (va_runS (As := [.int p1, .int x35]) (rest := [.int (2 : Int32)]) ⟨hx, hb, hml, hown, hts⟩ (kX4_at l D ct ad Z G y16.1 H.size p1 x35 y36 hy36) (va_cwS 2 hts gX9_setMove_X4_at rfl rfl rfl (by decide +kernel) ⟨Nat.le_of_ble_eq_true rfl, Nat.le_of_ble_eq_true rfl⟩) ⟨fun a U g mk q => by obtain ⟨q0, q1, qP, qK, qD, qZ, qN⟩ := q; exact ⟨q0, q1, qP, va_K.moved (u := U) (U := U.calling g mk a) (Vm.Alike.refl U.vm) qK, qD, sF.moved (u := U) (U := U.calling g mk a) (Vm.Alike.refl U.vm) qZ, nF.same rfl qN⟩, fun U hU hW => ⟨rfl, by rw [hU], by rw [hU]; exact hP, va_K.moved hW.alike hK, hD.weaken (fun _ _ _ _ => trivial), by rw [hU]; exact ((hZ.kept hS.2.1).narrow hf9).moved hW.alike, hN.warm hW⟩⟩ rfl rfl hl.1 rfl (lv_room (Nat.le_of_ble_eq_true rfl)) dX9_setMove_105 ⟨(Nat.zero_le _), (Nat.zero_le _)⟩) hS (fun q _ h => hf9 q h) hf9 (fun r u t H locs ht hvm hw hB hz1 hk1 hS => ?_)
            obtain ⟨hP, hK9, hD9⟩ := hB
            rw [ht] at hP
            try dsimp only at hw
            subst hw
            have hD := hD9.weaken (fun _ q _ h => hf9 q.1 h)
            refine lv_imul hx hb dX9_setMove_108 ?_
            obtain ⟨x37, ex37, hF⟩ := ltt_some hF
            refine lv_topi (fun zx37 ezx37 => ?_)
            obtain rfl : x37 = zx37 := ex37.trans ezx37.symm
            refine lv_istore (lv' := [(11, .int x37), (10, .int x17), (9, .int x15), (8, .int s10.1), (7, .int y8.2), (6, .int y4.2), (0, .ref (ad a)), (1, .int p0), (2, .int p1), (3, .int p2), (4, .int p3), (5, .int p4)]) hx hb dX9_setMove_109 hl (by decide) rfl (fun ls hl => ?_)
            refine lv_aload_n hx hb dX9_setMove_111 rfl (lv_at hl 6 rfl) ?_
            refine va_get (D := D) (ci := 9) (v := va_re ad (y36.1.2 a 0)) (C := RX9) (T := TX9) (N := 20) hx hb hts (by decide +kernel) hown hK hP a (wld_o ct ad G y36.1 hc hk (by decide)) rfl 0 (by decide) (hts (.fieldLink RX9 51 "VideoSuite$Work" "pic" "LVideoSuite$Picture;") (by decide +kernel)) (fun _ h9 => h9) rfl dX9_setMove_112 ?_
            obtain ⟨b38, ho38, hc38, hk38, hF⟩ := dr_some hF
            refine W_st (st' := [.ref (ad b38)]) (by rw [va_some ho38]) ?_
            refine va_get (D := D) (ci := 4) (v := va_re ad (y36.1.2 b38 7)) (C := RX4) (T := TX4) (N := 18) hx hb hts (by decide +kernel) hown hK hP b38 (wld_o ct ad G y36.1 hc38 hk38 (by decide)) rfl 7 (by decide) (hts (.fieldLink RX9 89 "VideoSuite$Picture" "move" "[I") (by decide +kernel)) (fun _ h9 => h9) rfl dX9_setMove_115 ?_
            refine lv_iload hx hb dX9_setMove_118 (lv_at hl 0 rfl) ?_
            refine lv_iload hx hb dX9_setMove_120 (lv_at hl 10 rfl) ?_
            obtain ⟨b39, ho39, hc39, hk39, hF⟩ := dr_some hF
            refine W_st (st' := [.int p3, .int x37, .ref (ad b39)]) (by rw [va_some ho39]) ?_
            obtain ⟨hvc, hF⟩ := chk_some hF
            refine va_iast hx hb hK hP hD hS b39 1 (wld_i ct ad G y36.1 hc39 hk39) rfl hvc dX9_setMove_122 (fun H locs hP hD hS => ?_)
            obtain ⟨M40, eM40, hF⟩ := ltt_some hF
            rw [set_i ct ad G y36.1 hc39 hk39, ← eM40] at hP hD
            refine lv_aload_n hx hb dX9_setMove_123 rfl (lv_at hl 6 rfl) ?_
            refine va_get (D := D) (ci := 9) (v := va_re ad (M40.2 a 0)) (C := RX9) (T := TX9) (N := 20) hx hb hts (by decide +kernel) hown hK hP a (wld_o ct ad G M40 hc hk (by decide)) rfl 0 (by decide) (hts (.fieldLink RX9 51 "VideoSuite$Work" "pic" "LVideoSuite$Picture;") (by decide +kernel)) (fun _ h9 => h9) rfl dX9_setMove_124 ?_
            obtain ⟨b41, ho41, hc41, hk41, hF⟩ := dr_some hF
            refine W_st (st' := [.ref (ad b41)]) (by rw [va_some ho41]) ?_
            refine va_get (D := D) (ci := 4) (v := va_re ad (M40.2 b41 7)) (C := RX4) (T := TX4) (N := 18) hx hb hts (by decide +kernel) hown hK hP b41 (wld_o ct ad G M40 hc41 hk41 (by decide)) rfl 7 (by decide) (hts (.fieldLink RX9 89 "VideoSuite$Picture" "move" "[I") (by decide +kernel)) (fun _ h9 => h9) rfl dX9_setMove_127 ?_
            refine lv_iload hx hb dX9_setMove_130 (lv_at hl 0 rfl) ?_
            refine lv_iconst (v := (1 : Int32)) hx hb dX9_setMove_132 (by decide) ?_
            refine lv_iadd hx hb dX9_setMove_133 ?_
            obtain ⟨x42, ex42, hF⟩ := ltt_some hF
            refine lv_topi (fun zx42 ezx42 => ?_)
            obtain rfl : x42 = zx42 := ex42.trans ezx42.symm
            refine lv_iload hx hb dX9_setMove_134 (lv_at hl 11 rfl) ?_
            obtain ⟨b43, ho43, hc43, hk43, hF⟩ := dr_some hF
            refine W_st (st' := [.int p4, .int x42, .ref (ad b43)]) (by rw [va_some ho43]) ?_
            obtain ⟨hvc, hF⟩ := chk_some hF
            refine va_iast hx hb hK hP hD hS b43 1 (wld_i ct ad G M40 hc43 hk43) rfl hvc dX9_setMove_136 (fun H locs hP hD hS => ?_)
            obtain ⟨M44, eM44, hF⟩ := ltt_some hF
            rw [set_i ct ad G M40 hc43 hk43, ← eM44] at hP hD
            obtain rfl := Option.some.inj hF
            exact J32 _ _ _ hP hD hS (lv_sub hl [1, 2, 3, 4, 5, 6, 7, 8, 9, 10, 11] rfl)
theorem dX9_setQuarter_0 : decode cX9_setQuarter 0 = .ok (.iload 4, 2) := by decide +kernel
theorem dX9_setQuarter_2 : decode cX9_setQuarter 2 = .ok (.ifCond .ge 7, 3) := by decide +kernel
theorem dX9_setQuarter_5 : decode cX9_setQuarter 5 = .ok (.aconst_null, 1) := by decide +kernel
theorem dX9_setQuarter_6 : decode cX9_setQuarter 6 = .ok (.goto 15, 3) := by decide +kernel
theorem dX9_setQuarter_9 : decode cX9_setQuarter 9 = .ok (.aload_n 0, 1) := by decide +kernel
theorem dX9_setQuarter_10 : decode cX9_setQuarter 10 = .ok (.getfield 11, 3) := by decide +kernel
theorem dX9_setQuarter_13 : decode cX9_setQuarter 13 = .ok (.bipush 9, 2) := by decide +kernel
theorem dX9_setQuarter_15 : decode cX9_setQuarter 15 = .ok (.iload_n 2, 1) := by decide +kernel
theorem dX9_setQuarter_16 : decode cX9_setQuarter 16 = .ok (.imul, 1) := by decide +kernel
theorem dX9_setQuarter_17 : decode cX9_setQuarter 17 = .ok (.iload 4, 2) := by decide +kernel
theorem dX9_setQuarter_19 : decode cX9_setQuarter 19 = .ok (.iadd, 1) := by decide +kernel
theorem dX9_setQuarter_20 : decode cX9_setQuarter 20 = .ok (.aaload, 1) := by decide +kernel
theorem dX9_setQuarter_21 : decode cX9_setQuarter 21 = .ok (.astore 7, 2) := by decide +kernel
theorem dX9_setQuarter_23 : decode cX9_setQuarter 23 = .ok (.iconst 0, 1) := by decide +kernel
theorem dX9_setQuarter_24 : decode cX9_setQuarter 24 = .ok (.istore 8, 2) := by decide +kernel
theorem dX9_setQuarter_26 : decode cX9_setQuarter 26 = .ok (.iload 8, 2) := by decide +kernel
theorem dX9_setQuarter_28 : decode cX9_setQuarter 28 = .ok (.iconst 4, 1) := by decide +kernel
theorem dX9_setQuarter_29 : decode cX9_setQuarter 29 = .ok (.if_icmp .ge 94, 3) := by decide +kernel
theorem dX9_setQuarter_32 : decode cX9_setQuarter 32 = .ok (.sipush 512, 3) := by decide +kernel
theorem dX9_setQuarter_35 : decode cX9_setQuarter 35 = .ok (.iload_n 2, 1) := by decide +kernel
theorem dX9_setQuarter_36 : decode cX9_setQuarter 36 = .ok (.imul, 1) := by decide +kernel
theorem dX9_setQuarter_37 : decode cX9_setQuarter 37 = .ok (.bipush 16, 2) := by decide +kernel
theorem dX9_setQuarter_39 : decode cX9_setQuarter 39 = .ok (.iload_n 1, 1) := by decide +kernel
theorem dX9_setQuarter_40 : decode cX9_setQuarter 40 = .ok (.imul, 1) := by decide +kernel
theorem dX9_setQuarter_41 : decode cX9_setQuarter 41 = .ok (.iadd, 1) := by decide +kernel
theorem dX9_setQuarter_42 : decode cX9_setQuarter 42 = .ok (.iconst 4, 1) := by decide +kernel
theorem dX9_setQuarter_43 : decode cX9_setQuarter 43 = .ok (.iload_n 3, 1) := by decide +kernel
theorem dX9_setQuarter_44 : decode cX9_setQuarter 44 = .ok (.imul, 1) := by decide +kernel
theorem dX9_setQuarter_45 : decode cX9_setQuarter 45 = .ok (.iadd, 1) := by decide +kernel
theorem dX9_setQuarter_46 : decode cX9_setQuarter 46 = .ok (.iload 8, 2) := by decide +kernel
theorem dX9_setQuarter_48 : decode cX9_setQuarter 48 = .ok (.iadd, 1) := by decide +kernel
theorem dX9_setQuarter_49 : decode cX9_setQuarter 49 = .ok (.istore 9, 2) := by decide +kernel
theorem dX9_setQuarter_51 : decode cX9_setQuarter 51 = .ok (.aload_n 0, 1) := by decide +kernel
theorem dX9_setQuarter_52 : decode cX9_setQuarter 52 = .ok (.getfield 51, 3) := by decide +kernel
theorem dX9_setQuarter_55 : decode cX9_setQuarter 55 = .ok (.getfield 83, 3) := by decide +kernel
theorem dX9_setQuarter_58 : decode cX9_setQuarter 58 = .ok (.iload 9, 2) := by decide +kernel
theorem dX9_setQuarter_60 : decode cX9_setQuarter 60 = .ok (.iload 4, 2) := by decide +kernel
theorem dX9_setQuarter_62 : decode cX9_setQuarter 62 = .ok (.iastore, 1) := by decide +kernel
theorem dX9_setQuarter_63 : decode cX9_setQuarter 63 = .ok (.aload_n 0, 1) := by decide +kernel
theorem dX9_setQuarter_64 : decode cX9_setQuarter 64 = .ok (.getfield 51, 3) := by decide +kernel
theorem dX9_setQuarter_67 : decode cX9_setQuarter 67 = .ok (.getfield 86, 3) := by decide +kernel
theorem dX9_setQuarter_70 : decode cX9_setQuarter 70 = .ok (.iload 9, 2) := by decide +kernel
theorem dX9_setQuarter_72 : decode cX9_setQuarter 72 = .ok (.aload 7, 2) := by decide +kernel
theorem dX9_setQuarter_74 : decode cX9_setQuarter 74 = .ok (.ifnonnull 7, 3) := by decide +kernel
theorem dX9_setQuarter_77 : decode cX9_setQuarter 77 = .ok (.iconst 0, 1) := by decide +kernel
theorem dX9_setQuarter_78 : decode cX9_setQuarter 78 = .ok (.goto 8, 3) := by decide +kernel
theorem dX9_setQuarter_81 : decode cX9_setQuarter 81 = .ok (.aload 7, 2) := by decide +kernel
theorem dX9_setQuarter_83 : decode cX9_setQuarter 83 = .ok (.getfield 161, 3) := by decide +kernel
theorem dX9_setQuarter_86 : decode cX9_setQuarter 86 = .ok (.iastore, 1) := by decide +kernel
theorem dX9_setQuarter_87 : decode cX9_setQuarter 87 = .ok (.aload_n 0, 1) := by decide +kernel
theorem dX9_setQuarter_88 : decode cX9_setQuarter 88 = .ok (.getfield 51, 3) := by decide +kernel
theorem dX9_setQuarter_91 : decode cX9_setQuarter 91 = .ok (.getfield 89, 3) := by decide +kernel
theorem dX9_setQuarter_94 : decode cX9_setQuarter 94 = .ok (.iconst 2, 1) := by decide +kernel
theorem dX9_setQuarter_95 : decode cX9_setQuarter 95 = .ok (.iload 9, 2) := by decide +kernel
theorem dX9_setQuarter_97 : decode cX9_setQuarter 97 = .ok (.imul, 1) := by decide +kernel
theorem dX9_setQuarter_98 : decode cX9_setQuarter 98 = .ok (.iload 5, 2) := by decide +kernel
theorem dX9_setQuarter_100 : decode cX9_setQuarter 100 = .ok (.iastore, 1) := by decide +kernel
theorem dX9_setQuarter_101 : decode cX9_setQuarter 101 = .ok (.aload_n 0, 1) := by decide +kernel
theorem dX9_setQuarter_102 : decode cX9_setQuarter 102 = .ok (.getfield 51, 3) := by decide +kernel
theorem dX9_setQuarter_105 : decode cX9_setQuarter 105 = .ok (.getfield 89, 3) := by decide +kernel
theorem dX9_setQuarter_108 : decode cX9_setQuarter 108 = .ok (.iconst 2, 1) := by decide +kernel
theorem dX9_setQuarter_109 : decode cX9_setQuarter 109 = .ok (.iload 9, 2) := by decide +kernel
theorem dX9_setQuarter_111 : decode cX9_setQuarter 111 = .ok (.imul, 1) := by decide +kernel
theorem dX9_setQuarter_112 : decode cX9_setQuarter 112 = .ok (.iconst 1, 1) := by decide +kernel
theorem dX9_setQuarter_113 : decode cX9_setQuarter 113 = .ok (.iadd, 1) := by decide +kernel
theorem dX9_setQuarter_114 : decode cX9_setQuarter 114 = .ok (.iload 6, 2) := by decide +kernel
theorem dX9_setQuarter_116 : decode cX9_setQuarter 116 = .ok (.iastore, 1) := by decide +kernel
theorem dX9_setQuarter_117 : decode cX9_setQuarter 117 = .ok (.iinc 8 1, 3) := by decide +kernel
theorem dX9_setQuarter_120 : decode cX9_setQuarter 120 = .ok (.goto (-94), 3) := by decide +kernel
theorem dX9_setQuarter_123 : decode cX9_setQuarter 123 = .ok (.return_, 1) := by decide +kernel
def FX9_setQuarter (G : GG) (M : DD) (a : Nat) (p0 : Int32) (p1 : Int32) (p2 : Int32) (p3 : Int32) (p4 : Int32) (p5 : Int32) : Option (DD) :=
  bnd (if ((0 : Int32)) ≤ p3 then (ltt ((((9 : Int32)) * p1)) fun x34 =>
  ltt ((x34 + p3)) fun x35 =>
  dr G 14 ((M.2 a 3)) fun b36 =>
  chk (¬ (x35 < 0 ∨ G.2.2 b36 ≤ x35.toNatClampNeg)) <|
  some ((M.2 b36 x35.toNatClampNeg))) else
  (some (none))) fun (y1 : Option Nat) =>
  bnd (itr (fun (s3 : Int32 × DD) => ((if ((4 : Int32)) ≤ s3.1 then (some (.inr (s3.1, s3.2))) else
  (ltt ((((512 : Int32)) * p1)) fun x7 =>
  ltt ((((16 : Int32)) * p0)) fun x8 =>
  ltt ((x7 + x8)) fun x9 =>
  ltt ((((4 : Int32)) * p2)) fun x10 =>
  ltt ((x9 + x10)) fun x11 =>
  ltt ((x11 + s3.1)) fun x12 =>
  dr G 4 ((s3.2.2 a 0)) fun b13 =>
  dr G 13 ((s3.2.2 b13 5)) fun b14 =>
  chk (¬ (x12 < 0 ∨ G.2.2 b14 ≤ x12.toNatClampNeg)) <|
  ltt (uI s3.2 b14 x12.toNatClampNeg p3) fun M15 =>
  dr G 4 ((M15.2 a 0)) fun b16 =>
  bnd (if y1 = none then (some ((0 : Int32))) else
  (dr G 4 y1 fun b31 =>
  ltt (M15.1 b31 0) fun x32 =>
  some (x32))) fun (y17 : Int32) =>
  dr G 13 ((M15.2 b16 6)) fun b18 =>
  chk (¬ (x12 < 0 ∨ G.2.2 b18 ≤ x12.toNatClampNeg)) <|
  ltt (uI M15 b18 x12.toNatClampNeg y17) fun M19 =>
  dr G 4 ((M19.2 a 0)) fun b20 =>
  ltt ((((2 : Int32)) * x12)) fun x21 =>
  dr G 13 ((M19.2 b20 7)) fun b22 =>
  chk (¬ (x21 < 0 ∨ G.2.2 b22 ≤ x21.toNatClampNeg)) <|
  ltt (uI M19 b22 x21.toNatClampNeg p4) fun M23 =>
  dr G 4 ((M23.2 a 0)) fun b24 =>
  ltt ((((2 : Int32)) * x12)) fun x25 =>
  ltt ((x25 + ((1 : Int32)))) fun x26 =>
  dr G 13 ((M23.2 b24 7)) fun b27 =>
  chk (¬ (x26 < 0 ∨ G.2.2 b27 ≤ x26.toNatClampNeg)) <|
  ltt (uI M23 b27 x26.toNatClampNeg p5) fun M28 =>
  ltt (s3.1 + (1 : Int32)) fun x29 =>
  some (.inl (x29, M28)))) : Option ((Int32 × DD) ⊕ (Int32 × DD)))) 1000000 ((0 : Int32), M)) fun (y2 : Int32 × DD) =>
  some y2.2
set_option maxHeartbeats 4000000 in
set_option maxRecDepth 100000 in
theorem kX9_setQuarter (l : Launch) (D : va_G) (ct : CT) (ad : Nat → Nat) (Z : Nat → Nat) (G : GG) (M : DD) (sz : Nat) (a : Nat) (p0 : Int32) (p1 : Int32) (p2 : Int32) (p3 : Int32) (p4 : Int32) (p5 : Int32) (y : DD) (hc : a < G.1) (hk : G.2.1 a = 9) (hF : FX9_setQuarter G M a p0 p1 p2 p3 p4 p5 = some y) : Met l yX9_setQuarter wsX9_setQuarter ({ frames := 0, cells := 0, slots := 0, locals := 0 }) (va_Pc [.ref (ad a), .int p0, .int p1, .int p2, .int p3, .int p4, .int p5] (kB D ct ad Z G M sz)) (va_Qv (fun (_ : Unit) => True) (fun _ t => kE D ct ad G (wA ad G sz) y t) (wA ad G sz)) 0 0 (wA ad G sz) := by
  refine Met.ofW (cc := cX9_setQuarter) (maxL := 10) (ret := none) (by decide) rfl ?_
  intro p e s m args below meth c s₁ B hml hv
  obtain ⟨rfl, hsz, hP, hK, hD0, hZ, hN⟩ := hv
  have hx := B.exec
  have hb := B.bytes
  have hr := B.returns
  have hts := atoms_spec (ws := wsX9_setQuarter) B.pre
  have hown : s.vm.findClass RX9 = some m.cls := findClass_of_methodNamed B.named
  have hlocks := B.notSynchronized
  subst hsz
  have hD := wD_self (sz := s.heap.size) hD0
  have hA9 : ∀ q, s.heap.size ≤ q → wA ad G s.heap.size q := fun q h => Or.inr h
  generalize hAe : wA ad G s.heap.size = A at hD hA9 hZ ⊢
  have hS : va_S A s.heap s.heap [] := va_S.rf
  have hl := lv_entry ([.ref (ad a), .int p0, .int p1, .int p2, .int p3, .int p4, .int p5]) (n := 10) (Nat.le_of_ble_eq_true rfl)
  rw [lg_entry_eq]
  generalize (lg_sl ([.ref (ad a), .int p0, .int p1, .int p2, .int p3, .int p4, .int p5]) ++ List.replicate (10 - (lg_sl ([.ref (ad a), .int p0, .int p1, .int p2, .int p3, .int p4, .int p5])).length) Slot.unset).toArray = ls at hl ⊢
  have hl : lv_has ls 10 [(0, .ref (ad a)), (1, .int p0), (2, .int p1), (3, .int p2), (4, .int p3), (5, .int p4), (6, .int p5)] := hl
  unfold FX9_setQuarter at hF
  refine lv_iload hx hb dX9_setQuarter_0 (lv_at hl 4 rfl) ?_
  obtain ⟨y1, hy1, hF⟩ := bnd_some hF
  have J1 : ∀ (H : Heap) (locs : List Loc) (ls : Array Slot), va_P D classes (wld ct ad G M) H → va_D A (wld ct ad G M) → va_S A s.heap H locs → lv_has ls 10 [(0, .ref (ad a)), (1, .int p0), (2, .int p1), (3, .int p2), (4, .int p3), (5, .int p4), (6, .int p5)] → W p l e (headSpec wsX9_setQuarter ({ frames := 0, cells := 0, slots := 0, locals := 0 })).room s m ([.ref (ad a), .int p0, .int p1, .int p2, .int p3, .int p4, .int p5] : List Value).toArray below meth c H locs 0 0 (MQ below (va_Qv (fun (_ : Unit) => True) (fun _ t => kE D ct ad G A y t) A) ([.ref (ad a), .int p0, .int p1, .int p2, .int p3, .int p4, .int p5] : List Value).toArray s 0 0 A) (F0 m 21 ls [va_re ad y1]) := by
    intro H locs ls hP hD hS hl
    refine lv_astoreq (lv' := [(7, va_re ad y1), (0, .ref (ad a)), (1, .int p0), (2, .int p1), (3, .int p2), (4, .int p3), (5, .int p4), (6, .int p5)]) hx hb dX9_setQuarter_21 hl (by decide) rfl (fun ls hl => ?_)
    refine lv_iconst (v := (0 : Int32)) hx hb dX9_setQuarter_23 (by decide) ?_
    refine lv_istore (lv' := [(8, .int (0 : Int32)), (7, va_re ad y1), (0, .ref (ad a)), (1, .int p0), (2, .int p1), (3, .int p2), (4, .int p3), (5, .int p4), (6, .int p5)]) hx hb dX9_setQuarter_24 hl (by decide) (by generalize y1 = o9; cases o9 <;> rfl) (fun ls hl => ?_)
    obtain ⟨y2, hy2, hF⟩ := bnd_some hF
    have K2 : ∀ (H : Heap) (locs : List Loc) (ls : Array Slot), va_P D classes (wld ct ad G y2.2) H → va_D A (wld ct ad G y2.2) → va_S A s.heap H locs → lv_has ls 10 [(8, .int y2.1), (7, va_re ad y1), (0, .ref (ad a)), (1, .int p0), (2, .int p1), (3, .int p2), (4, .int p3), (5, .int p4), (6, .int p5)] → W p l e (headSpec wsX9_setQuarter ({ frames := 0, cells := 0, slots := 0, locals := 0 })).room s m ([.ref (ad a), .int p0, .int p1, .int p2, .int p3, .int p4, .int p5] : List Value).toArray below meth c H locs 0 0 (MQ below (va_Qv (fun (_ : Unit) => True) (fun _ t => kE D ct ad G A y t) A) ([.ref (ad a), .int p0, .int p1, .int p2, .int p3, .int p4, .int p5] : List Value).toArray s 0 0 A) (F0 m 123 ls []) := by
      intro H locs ls hP hD hS hl
      obtain rfl := Option.some.inj hF
      exact W.vret hx hb hr (fun t ht hW => ⟨⟨(), rfl, trivial, ⟨by rw [ht]; exact hP, va_K.moved hW.alike hK, hD⟩⟩, hS.F ht⟩) hS.2.2 dX9_setQuarter_123
    clear hF
    refine itr_rule (fun (s3 : Int32 × DD) => ∀ (H : Heap) (locs : List Loc) (ls : Array Slot), va_P D classes (wld ct ad G s3.2) H → va_D A (wld ct ad G s3.2) → va_S A s.heap H locs → lv_has ls 10 [(8, .int s3.1), (7, va_re ad y1), (0, .ref (ad a)), (1, .int p0), (2, .int p1), (3, .int p2), (4, .int p3), (5, .int p4), (6, .int p5)] → W p l e (headSpec wsX9_setQuarter ({ frames := 0, cells := 0, slots := 0, locals := 0 })).room s m ([.ref (ad a), .int p0, .int p1, .int p2, .int p3, .int p4, .int p5] : List Value).toArray below meth c H locs 0 0 (MQ below (va_Qv (fun (_ : Unit) => True) (fun _ t => kE D ct ad G A y t) A) ([.ref (ad a), .int p0, .int p1, .int p2, .int p3, .int p4, .int p5] : List Value).toArray s 0 0 A) (F0 m 26 ls [])) ?_ _ _ hy2 _ _ _ hP hD hS (lv_sub hl [0, 1, 2, 3, 4, 5, 6, 7, 8] rfl)
    rintro s3 ⟨z5, hF, hwz5⟩ H locs ls hP hD hS hl
    try dsimp only at hF
    refine lv_iload hx hb dX9_setQuarter_26 (lv_at hl 0 rfl) ?_
    refine lv_iconst (v := (4 : Int32)) hx hb dX9_setQuarter_28 (by decide) ?_
    refine lv_icmp_ge (tgt := 123) hx hb dX9_setQuarter_29 (by decide) (fun c6 => ?_) (fun c6 => ?_)
    · rw [if_pos c6] at hF
      obtain rfl := Option.some.inj hF
      subst hwz5
      exact K2 _ _ _ hP hD hS (lv_sub hl [0, 1, 2, 3, 4, 5, 6, 7, 8] rfl)
    · rw [if_neg c6] at hF
      refine lv_sipush (v := (512 : Int32)) hx hb dX9_setQuarter_32 (by decide) ?_
      refine lv_iload_n hx hb dX9_setQuarter_35 rfl (lv_at hl 4 rfl) ?_
      refine lv_imul hx hb dX9_setQuarter_36 ?_
      obtain ⟨x7, ex7, hF⟩ := ltt_some hF
      refine lv_topi (fun zx7 ezx7 => ?_)
      obtain rfl : x7 = zx7 := ex7.trans ezx7.symm
      refine lv_bipush (v := (16 : Int32)) hx hb dX9_setQuarter_37 (by decide) ?_
      refine lv_iload_n hx hb dX9_setQuarter_39 rfl (lv_at hl 3 rfl) ?_
      refine lv_imul hx hb dX9_setQuarter_40 ?_
      obtain ⟨x8, ex8, hF⟩ := ltt_some hF
      refine lv_topi (fun zx8 ezx8 => ?_)
      obtain rfl : x8 = zx8 := ex8.trans ezx8.symm
      refine lv_iadd hx hb dX9_setQuarter_41 ?_
      obtain ⟨x9, ex9, hF⟩ := ltt_some hF
      refine lv_topi (fun zx9 ezx9 => ?_)
      obtain rfl : x9 = zx9 := ex9.trans ezx9.symm
      refine lv_iconst (v := (4 : Int32)) hx hb dX9_setQuarter_42 (by decide) ?_
      refine lv_iload_n hx hb dX9_setQuarter_43 rfl (lv_at hl 5 rfl) ?_
      refine lv_imul hx hb dX9_setQuarter_44 ?_
      obtain ⟨x10, ex10, hF⟩ := ltt_some hF
      refine lv_topi (fun zx10 ezx10 => ?_)
      obtain rfl : x10 = zx10 := ex10.trans ezx10.symm
      refine lv_iadd hx hb dX9_setQuarter_45 ?_
      obtain ⟨x11, ex11, hF⟩ := ltt_some hF
      refine lv_topi (fun zx11 ezx11 => ?_)
      obtain rfl : x11 = zx11 := ex11.trans ezx11.symm
      refine lv_iload hx hb dX9_setQuarter_46 (lv_at hl 0 rfl) ?_
      refine lv_iadd hx hb dX9_setQuarter_48 ?_
      obtain ⟨x12, ex12, hF⟩ := ltt_some hF
      refine lv_topi (fun zx12 ezx12 => ?_)
      obtain rfl : x12 = zx12 := ex12.trans ezx12.symm
      refine lv_istore (lv' := [(9, .int x12), (8, .int s3.1), (7, va_re ad y1), (0, .ref (ad a)), (1, .int p0), (2, .int p1), (3, .int p2), (4, .int p3), (5, .int p4), (6, .int p5)]) hx hb dX9_setQuarter_49 hl (by decide) rfl (fun ls hl => ?_)
      refine lv_aload_n hx hb dX9_setQuarter_51 rfl (lv_at hl 3 rfl) ?_
      refine va_get (D := D) (ci := 9) (v := va_re ad (s3.2.2 a 0)) (C := RX9) (T := TX9) (N := 20) hx hb hts (by decide +kernel) hown hK hP a (wld_o ct ad G s3.2 hc hk (by decide)) rfl 0 (by decide) (hts (.fieldLink RX9 51 "VideoSuite$Work" "pic" "LVideoSuite$Picture;") (by decide +kernel)) (fun _ h9 => h9) rfl dX9_setQuarter_52 ?_
      obtain ⟨b13, ho13, hc13, hk13, hF⟩ := dr_some hF
      refine W_st (st' := [.ref (ad b13)]) (by rw [va_some ho13]) ?_
      refine va_get (D := D) (ci := 4) (v := va_re ad (s3.2.2 b13 5)) (C := RX4) (T := TX4) (N := 18) hx hb hts (by decide +kernel) hown hK hP b13 (wld_o ct ad G s3.2 hc13 hk13 (by decide)) rfl 5 (by decide) (hts (.fieldLink RX9 83 "VideoSuite$Picture" "reference" "[I") (by decide +kernel)) (fun _ h9 => h9) rfl dX9_setQuarter_55 ?_
      refine lv_iload hx hb dX9_setQuarter_58 (lv_at hl 0 rfl) ?_
      refine lv_iload hx hb dX9_setQuarter_60 (lv_at hl 7 rfl) ?_
      obtain ⟨b14, ho14, hc14, hk14, hF⟩ := dr_some hF
      refine W_st (st' := [.int p3, .int x12, .ref (ad b14)]) (by rw [va_some ho14]) ?_
      obtain ⟨hvc, hF⟩ := chk_some hF
      refine va_iast hx hb hK hP hD hS b14 1 (wld_i ct ad G s3.2 hc14 hk14) rfl hvc dX9_setQuarter_62 (fun H locs hP hD hS => ?_)
      obtain ⟨M15, eM15, hF⟩ := ltt_some hF
      rw [set_i ct ad G s3.2 hc14 hk14, ← eM15] at hP hD
      refine lv_aload_n hx hb dX9_setQuarter_63 rfl (lv_at hl 3 rfl) ?_
      refine va_get (D := D) (ci := 9) (v := va_re ad (M15.2 a 0)) (C := RX9) (T := TX9) (N := 20) hx hb hts (by decide +kernel) hown hK hP a (wld_o ct ad G M15 hc hk (by decide)) rfl 0 (by decide) (hts (.fieldLink RX9 51 "VideoSuite$Work" "pic" "LVideoSuite$Picture;") (by decide +kernel)) (fun _ h9 => h9) rfl dX9_setQuarter_64 ?_
      obtain ⟨b16, ho16, hc16, hk16, hF⟩ := dr_some hF
      refine W_st (st' := [.ref (ad b16)]) (by rw [va_some ho16]) ?_
      refine va_get (D := D) (ci := 4) (v := va_re ad (M15.2 b16 6)) (C := RX4) (T := TX4) (N := 18) hx hb hts (by decide +kernel) hown hK hP b16 (wld_o ct ad G M15 hc16 hk16 (by decide)) rfl 6 (by decide) (hts (.fieldLink RX9 86 "VideoSuite$Picture" "referenceId" "[I") (by decide +kernel)) (fun _ h9 => h9) rfl dX9_setQuarter_67 ?_
      refine lv_iload hx hb dX9_setQuarter_70 (lv_at hl 0 rfl) ?_
      refine lv_aloadq hx hb dX9_setQuarter_72 (lv_at hl 2 rfl) ?_
      obtain ⟨y17, hy17, hF⟩ := bnd_some hF
      have J17 : ∀ (H : Heap) (locs : List Loc) (ls : Array Slot), va_P D classes (wld ct ad G M15) H → va_D A (wld ct ad G M15) → va_S A s.heap H locs → lv_has ls 10 [(9, .int x12), (8, .int s3.1), (7, va_re ad y1), (0, .ref (ad a)), (1, .int p0), (2, .int p1), (3, .int p2), (4, .int p3), (5, .int p4), (6, .int p5)] → W p l e (headSpec wsX9_setQuarter ({ frames := 0, cells := 0, slots := 0, locals := 0 })).room s m ([.ref (ad a), .int p0, .int p1, .int p2, .int p3, .int p4, .int p5] : List Value).toArray below meth c H locs 0 0 (MQ below (va_Qv (fun (_ : Unit) => True) (fun _ t => kE D ct ad G A y t) A) ([.ref (ad a), .int p0, .int p1, .int p2, .int p3, .int p4, .int p5] : List Value).toArray s 0 0 A) (F0 m 86 ls [.int y17, .int x12, va_re ad (M15.2 b16 6)]) := by
        intro H locs ls hP hD hS hl
        obtain ⟨b18, ho18, hc18, hk18, hF⟩ := dr_some hF
        refine W_st (st' := [.int y17, .int x12, .ref (ad b18)]) (by rw [va_some ho18]) ?_
        obtain ⟨hvc, hF⟩ := chk_some hF
        refine va_iast hx hb hK hP hD hS b18 1 (wld_i ct ad G M15 hc18 hk18) rfl hvc dX9_setQuarter_86 (fun H locs hP hD hS => ?_)
        obtain ⟨M19, eM19, hF⟩ := ltt_some hF
        rw [set_i ct ad G M15 hc18 hk18, ← eM19] at hP hD
        refine lv_aload_n hx hb dX9_setQuarter_87 rfl (lv_at hl 3 rfl) ?_
        refine va_get (D := D) (ci := 9) (v := va_re ad (M19.2 a 0)) (C := RX9) (T := TX9) (N := 20) hx hb hts (by decide +kernel) hown hK hP a (wld_o ct ad G M19 hc hk (by decide)) rfl 0 (by decide) (hts (.fieldLink RX9 51 "VideoSuite$Work" "pic" "LVideoSuite$Picture;") (by decide +kernel)) (fun _ h9 => h9) rfl dX9_setQuarter_88 ?_
        obtain ⟨b20, ho20, hc20, hk20, hF⟩ := dr_some hF
        refine W_st (st' := [.ref (ad b20)]) (by rw [va_some ho20]) ?_
        refine va_get (D := D) (ci := 4) (v := va_re ad (M19.2 b20 7)) (C := RX4) (T := TX4) (N := 18) hx hb hts (by decide +kernel) hown hK hP b20 (wld_o ct ad G M19 hc20 hk20 (by decide)) rfl 7 (by decide) (hts (.fieldLink RX9 89 "VideoSuite$Picture" "move" "[I") (by decide +kernel)) (fun _ h9 => h9) rfl dX9_setQuarter_91 ?_
        refine lv_iconst (v := (2 : Int32)) hx hb dX9_setQuarter_94 (by decide) ?_
        refine lv_iload hx hb dX9_setQuarter_95 (lv_at hl 0 rfl) ?_
        refine lv_imul hx hb dX9_setQuarter_97 ?_
        obtain ⟨x21, ex21, hF⟩ := ltt_some hF
        refine lv_topi (fun zx21 ezx21 => ?_)
        obtain rfl : x21 = zx21 := ex21.trans ezx21.symm
        refine lv_iload hx hb dX9_setQuarter_98 (lv_at hl 8 rfl) ?_
        obtain ⟨b22, ho22, hc22, hk22, hF⟩ := dr_some hF
        refine W_st (st' := [.int p4, .int x21, .ref (ad b22)]) (by rw [va_some ho22]) ?_
        obtain ⟨hvc, hF⟩ := chk_some hF
        refine va_iast hx hb hK hP hD hS b22 1 (wld_i ct ad G M19 hc22 hk22) rfl hvc dX9_setQuarter_100 (fun H locs hP hD hS => ?_)
        obtain ⟨M23, eM23, hF⟩ := ltt_some hF
        rw [set_i ct ad G M19 hc22 hk22, ← eM23] at hP hD
        refine lv_aload_n hx hb dX9_setQuarter_101 rfl (lv_at hl 3 rfl) ?_
        refine va_get (D := D) (ci := 9) (v := va_re ad (M23.2 a 0)) (C := RX9) (T := TX9) (N := 20) hx hb hts (by decide +kernel) hown hK hP a (wld_o ct ad G M23 hc hk (by decide)) rfl 0 (by decide) (hts (.fieldLink RX9 51 "VideoSuite$Work" "pic" "LVideoSuite$Picture;") (by decide +kernel)) (fun _ h9 => h9) rfl dX9_setQuarter_102 ?_
        obtain ⟨b24, ho24, hc24, hk24, hF⟩ := dr_some hF
        refine W_st (st' := [.ref (ad b24)]) (by rw [va_some ho24]) ?_
        refine va_get (D := D) (ci := 4) (v := va_re ad (M23.2 b24 7)) (C := RX4) (T := TX4) (N := 18) hx hb hts (by decide +kernel) hown hK hP b24 (wld_o ct ad G M23 hc24 hk24 (by decide)) rfl 7 (by decide) (hts (.fieldLink RX9 89 "VideoSuite$Picture" "move" "[I") (by decide +kernel)) (fun _ h9 => h9) rfl dX9_setQuarter_105 ?_
        refine lv_iconst (v := (2 : Int32)) hx hb dX9_setQuarter_108 (by decide) ?_
        refine lv_iload hx hb dX9_setQuarter_109 (lv_at hl 0 rfl) ?_
        refine lv_imul hx hb dX9_setQuarter_111 ?_
        obtain ⟨x25, ex25, hF⟩ := ltt_some hF
        refine lv_topi (fun zx25 ezx25 => ?_)
        obtain rfl : x25 = zx25 := ex25.trans ezx25.symm
        refine lv_iconst (v := (1 : Int32)) hx hb dX9_setQuarter_112 (by decide) ?_
        refine lv_iadd hx hb dX9_setQuarter_113 ?_
        obtain ⟨x26, ex26, hF⟩ := ltt_some hF
        refine lv_topi (fun zx26 ezx26 => ?_)
        obtain rfl : x26 = zx26 := ex26.trans ezx26.symm
        refine lv_iload hx hb dX9_setQuarter_114 (lv_at hl 9 rfl) ?_
        obtain ⟨b27, ho27, hc27, hk27, hF⟩ := dr_some hF
        refine W_st (st' := [.int p5, .int x26, .ref (ad b27)]) (by rw [va_some ho27]) ?_
        obtain ⟨hvc, hF⟩ := chk_some hF
        refine va_iast hx hb hK hP hD hS b27 1 (wld_i ct ad G M23 hc27 hk27) rfl hvc dX9_setQuarter_116 (fun H locs hP hD hS => ?_)
        obtain ⟨M28, eM28, hF⟩ := ltt_some hF
        rw [set_i ct ad G M23 hc27 hk27, ← eM28] at hP hD
        obtain ⟨x29, ex29, hF⟩ := ltt_some hF
        refine lv_iinc (v := x29) (lv' := [(8, .int x29), (9, .int x12), (7, va_re ad y1), (0, .ref (ad a)), (1, .int p0), (2, .int p1), (3, .int p2), (4, .int p3), (5, .int p4), (6, .int p5)]) hx hb dX9_setQuarter_117 hl (k := 1) rfl (by rw [ex29]; rfl) (by decide) (by generalize y1 = o9; cases o9 <;> rfl) (fun ls hl => ?_)
        refine lv_goto (tgt := 26) hx hb dX9_setQuarter_120 (by decide) ?_
        obtain rfl := Option.some.inj hF
        exact hwz5 _ _ _ hP hD hS (lv_sub hl [0, 2, 3, 4, 5, 6, 7, 8, 9] rfl)
      clear hF
      have hF := hy17
      clear hy17
      refine lv_ifnonnullq (tgt := 81) hx hb dX9_setQuarter_74 (by decide) (fun c30 => ?_) (fun c30 => ?_)
      · rw [if_neg c30] at hF
        refine lv_aloadq hx hb dX9_setQuarter_81 (lv_at hl 2 rfl) ?_
        obtain ⟨b31, ho31, hc31, hk31, hF⟩ := dr_some hF
        refine W_st (st' := [.ref (ad b31), .int x12, va_re ad (M15.2 b16 6)]) (by rw [va_some ho31]) ?_
        refine va_get (D := D) (ci := 4) (v := .int (M15.1 b31 0)) (C := RX4) (T := TX4) (N := 18) hx hb hts (by decide +kernel) hown hK hP b31 (wld_o ct ad G M15 hc31 hk31 (by decide)) rfl 0 (by decide) (hts (.fieldLink RX9 161 "VideoSuite$Picture" "id" "I") (by decide +kernel)) (fun _ h9 => h9) rfl dX9_setQuarter_83 ?_
        obtain ⟨x32, ex32, hF⟩ := ltt_some hF
        refine lv_topi (fun zx32 ezx32 => ?_)
        obtain rfl : x32 = zx32 := ex32.trans ezx32.symm
        obtain rfl := Option.some.inj hF
        exact J17 _ _ _ hP hD hS (lv_sub hl [0, 1, 2, 3, 4, 5, 6, 7, 8, 9] rfl)
      · rw [if_pos c30] at hF
        refine lv_iconst (v := (0 : Int32)) hx hb dX9_setQuarter_77 (by decide) ?_
        refine lv_goto (tgt := 86) hx hb dX9_setQuarter_78 (by decide) ?_
        obtain rfl := Option.some.inj hF
        exact J17 _ _ _ hP hD hS (lv_sub hl [0, 1, 2, 3, 4, 5, 6, 7, 8, 9] rfl)
  clear hF
  have hF := hy1
  clear hy1
  refine lv_if_ge (tgt := 9) hx hb dX9_setQuarter_2 (by decide) (fun c33 => ?_) (fun c33 => ?_)
  · rw [if_pos c33] at hF
    refine lv_aload_n hx hb dX9_setQuarter_9 rfl (lv_at hl 0 rfl) ?_
    refine va_get (D := D) (ci := 9) (v := va_re ad (M.2 a 3)) (C := RX9) (T := TX9) (N := 20) hx hb hts (by decide +kernel) hown hK hP a (wld_o ct ad G M hc hk (by decide)) rfl 3 (by decide) (hts (.fieldLink RX9 11 "VideoSuite$Work" "lists" "[LVideoSuite$Picture;") (by decide +kernel)) (fun _ h9 => h9) rfl dX9_setQuarter_10 ?_
    refine lv_bipush (v := (9 : Int32)) hx hb dX9_setQuarter_13 (by decide) ?_
    refine lv_iload_n hx hb dX9_setQuarter_15 rfl (lv_at hl 2 rfl) ?_
    refine lv_imul hx hb dX9_setQuarter_16 ?_
    obtain ⟨x34, ex34, hF⟩ := ltt_some hF
    refine lv_topi (fun zx34 ezx34 => ?_)
    obtain rfl : x34 = zx34 := ex34.trans ezx34.symm
    refine lv_iload hx hb dX9_setQuarter_17 (lv_at hl 4 rfl) ?_
    refine lv_iadd hx hb dX9_setQuarter_19 ?_
    obtain ⟨x35, ex35, hF⟩ := ltt_some hF
    refine lv_topi (fun zx35 ezx35 => ?_)
    obtain rfl : x35 = zx35 := ex35.trans ezx35.symm
    obtain ⟨b36, ho36, hc36, hk36, hF⟩ := dr_some hF
    refine W_st (st' := [.int x35, .ref (ad b36)]) (by rw [va_some ho36]) ?_
    obtain ⟨hvc, hF⟩ := chk_some hF
    refine ld_q hx hb hK hP hc36 hk36 hvc dX9_setQuarter_20 ?_
    obtain rfl := Option.some.inj hF
    exact J1 _ _ _ hP hD hS (lv_sub hl [0, 1, 2, 3, 4, 5, 6] rfl)
  · rw [if_neg c33] at hF
    refine lv_nullq (ad := ad) hx hb dX9_setQuarter_5 ?_
    refine lv_goto (tgt := 21) hx hb dX9_setQuarter_6 (by decide) ?_
    obtain rfl := Option.some.inj hF
    exact J1 _ _ _ hP hD hS (lv_sub hl [0, 1, 2, 3, 4, 5, 6] rfl)
theorem ggX9_setReference_X9_pieceX : GoodIn wsX9_setReference wsX9_pieceX := goodIn_r _ [10] (by decide +kernel) (by decide +kernel)
set_option maxRecDepth 20000 in
theorem gX9_setReference_X9_pieceX : GoodIn wsX9_setReference (va_wsS RX9 122 yX9_pieceX wsX9_pieceX) := goodIn_app (goodIn_of _ (by decide +kernel)) ggX9_setReference_X9_pieceX
set_option maxRecDepth 20000 in
theorem ggX9_setReference_X9_pieceY : GoodIn wsX9_setReference wsX9_pieceY := goodIn_r _ [13] (by decide +kernel) (by decide +kernel)
set_option maxRecDepth 20000 in
theorem gX9_setReference_X9_pieceY : GoodIn wsX9_setReference (va_wsS RX9 126 yX9_pieceY wsX9_pieceY) := goodIn_app (goodIn_of _ (by decide +kernel)) ggX9_setReference_X9_pieceY
set_option maxRecDepth 20000 in
theorem ggX9_setReference_X4_at : GoodIn wsX9_setReference wsX4_at := goodIn_r _ [17] (by decide +kernel) (by decide +kernel)
set_option maxRecDepth 20000 in
theorem gX9_setReference_X4_at : GoodIn wsX9_setReference (va_wsS RX9 80 yX4_at wsX4_at) := goodIn_app (goodIn_of _ (by decide +kernel)) ggX9_setReference_X4_at
theorem dX9_setReference_0 : decode cX9_setReference 0 = .ok (.aload_n 0, 1) := by decide +kernel
theorem dX9_setReference_1 : decode cX9_setReference 1 = .ok (.getfield 11, 3) := by decide +kernel
theorem dX9_setReference_4 : decode cX9_setReference 4 = .ok (.bipush 9, 2) := by decide +kernel
theorem dX9_setReference_6 : decode cX9_setReference 6 = .ok (.iload_n 2, 1) := by decide +kernel
theorem dX9_setReference_7 : decode cX9_setReference 7 = .ok (.imul, 1) := by decide +kernel
theorem dX9_setReference_8 : decode cX9_setReference 8 = .ok (.iload 4, 2) := by decide +kernel
theorem dX9_setReference_10 : decode cX9_setReference 10 = .ok (.iadd, 1) := by decide +kernel
theorem dX9_setReference_11 : decode cX9_setReference 11 = .ok (.aaload, 1) := by decide +kernel
theorem dX9_setReference_12 : decode cX9_setReference 12 = .ok (.astore 5, 2) := by decide +kernel
theorem dX9_setReference_14 : decode cX9_setReference 14 = .ok (.aload_n 0, 1) := by decide +kernel
theorem dX9_setReference_15 : decode cX9_setReference 15 = .ok (.getfield 45, 3) := by decide +kernel
theorem dX9_setReference_18 : decode cX9_setReference 18 = .ok (.iconst 4, 1) := by decide +kernel
theorem dX9_setReference_19 : decode cX9_setReference 19 = .ok (.iload_n 3, 1) := by decide +kernel
theorem dX9_setReference_20 : decode cX9_setReference 20 = .ok (.imul, 1) := by decide +kernel
theorem dX9_setReference_21 : decode cX9_setReference 21 = .ok (.iaload, 1) := by decide +kernel
theorem dX9_setReference_22 : decode cX9_setReference 22 = .ok (.invokestatic 122, 3) := by decide +kernel
theorem dX9_setReference_25 : decode cX9_setReference 25 = .ok (.istore 6, 2) := by decide +kernel
theorem dX9_setReference_27 : decode cX9_setReference 27 = .ok (.aload_n 0, 1) := by decide +kernel
theorem dX9_setReference_28 : decode cX9_setReference 28 = .ok (.getfield 45, 3) := by decide +kernel
theorem dX9_setReference_31 : decode cX9_setReference 31 = .ok (.iconst 4, 1) := by decide +kernel
theorem dX9_setReference_32 : decode cX9_setReference 32 = .ok (.iload_n 3, 1) := by decide +kernel
theorem dX9_setReference_33 : decode cX9_setReference 33 = .ok (.imul, 1) := by decide +kernel
theorem dX9_setReference_34 : decode cX9_setReference 34 = .ok (.iaload, 1) := by decide +kernel
theorem dX9_setReference_35 : decode cX9_setReference 35 = .ok (.invokestatic 126, 3) := by decide +kernel
theorem dX9_setReference_38 : decode cX9_setReference 38 = .ok (.istore 7, 2) := by decide +kernel
theorem dX9_setReference_40 : decode cX9_setReference 40 = .ok (.iconst 0, 1) := by decide +kernel
theorem dX9_setReference_41 : decode cX9_setReference 41 = .ok (.istore 8, 2) := by decide +kernel
theorem dX9_setReference_43 : decode cX9_setReference 43 = .ok (.iload 8, 2) := by decide +kernel
theorem dX9_setReference_45 : decode cX9_setReference 45 = .ok (.bipush 16, 2) := by decide +kernel
theorem dX9_setReference_47 : decode cX9_setReference 47 = .ok (.if_icmp .ge 118, 3) := by decide +kernel
theorem dX9_setReference_50 : decode cX9_setReference 50 = .ok (.iload 8, 2) := by decide +kernel
theorem dX9_setReference_52 : decode cX9_setReference 52 = .ok (.invokestatic 122, 3) := by decide +kernel
theorem dX9_setReference_55 : decode cX9_setReference 55 = .ok (.iload 6, 2) := by decide +kernel
theorem dX9_setReference_57 : decode cX9_setReference 57 = .ok (.isub, 1) := by decide +kernel
theorem dX9_setReference_58 : decode cX9_setReference 58 = .ok (.istore 9, 2) := by decide +kernel
theorem dX9_setReference_60 : decode cX9_setReference 60 = .ok (.iload 8, 2) := by decide +kernel
theorem dX9_setReference_62 : decode cX9_setReference 62 = .ok (.invokestatic 126, 3) := by decide +kernel
theorem dX9_setReference_65 : decode cX9_setReference 65 = .ok (.iload 7, 2) := by decide +kernel
theorem dX9_setReference_67 : decode cX9_setReference 67 = .ok (.isub, 1) := by decide +kernel
theorem dX9_setReference_68 : decode cX9_setReference 68 = .ok (.istore 10, 2) := by decide +kernel
theorem dX9_setReference_70 : decode cX9_setReference 70 = .ok (.iload 9, 2) := by decide +kernel
theorem dX9_setReference_72 : decode cX9_setReference 72 = .ok (.ifCond .lt 87, 3) := by decide +kernel
theorem dX9_setReference_75 : decode cX9_setReference 75 = .ok (.iload 9, 2) := by decide +kernel
theorem dX9_setReference_77 : decode cX9_setReference 77 = .ok (.aload_n 0, 1) := by decide +kernel
theorem dX9_setReference_78 : decode cX9_setReference 78 = .ok (.getfield 45, 3) := by decide +kernel
theorem dX9_setReference_81 : decode cX9_setReference 81 = .ok (.iconst 4, 1) := by decide +kernel
theorem dX9_setReference_82 : decode cX9_setReference 82 = .ok (.iload_n 3, 1) := by decide +kernel
theorem dX9_setReference_83 : decode cX9_setReference 83 = .ok (.imul, 1) := by decide +kernel
theorem dX9_setReference_84 : decode cX9_setReference 84 = .ok (.iconst 1, 1) := by decide +kernel
theorem dX9_setReference_85 : decode cX9_setReference 85 = .ok (.iadd, 1) := by decide +kernel
theorem dX9_setReference_86 : decode cX9_setReference 86 = .ok (.iaload, 1) := by decide +kernel
theorem dX9_setReference_87 : decode cX9_setReference 87 = .ok (.if_icmp .ge 72, 3) := by decide +kernel
theorem dX9_setReference_90 : decode cX9_setReference 90 = .ok (.iload 10, 2) := by decide +kernel
theorem dX9_setReference_92 : decode cX9_setReference 92 = .ok (.ifCond .lt 67, 3) := by decide +kernel
theorem dX9_setReference_95 : decode cX9_setReference 95 = .ok (.iload 10, 2) := by decide +kernel
theorem dX9_setReference_97 : decode cX9_setReference 97 = .ok (.aload_n 0, 1) := by decide +kernel
theorem dX9_setReference_98 : decode cX9_setReference 98 = .ok (.getfield 45, 3) := by decide +kernel
theorem dX9_setReference_101 : decode cX9_setReference 101 = .ok (.iconst 4, 1) := by decide +kernel
theorem dX9_setReference_102 : decode cX9_setReference 102 = .ok (.iload_n 3, 1) := by decide +kernel
theorem dX9_setReference_103 : decode cX9_setReference 103 = .ok (.imul, 1) := by decide +kernel
theorem dX9_setReference_104 : decode cX9_setReference 104 = .ok (.iconst 2, 1) := by decide +kernel
theorem dX9_setReference_105 : decode cX9_setReference 105 = .ok (.iadd, 1) := by decide +kernel
theorem dX9_setReference_106 : decode cX9_setReference 106 = .ok (.iaload, 1) := by decide +kernel
theorem dX9_setReference_107 : decode cX9_setReference 107 = .ok (.if_icmp .ge 52, 3) := by decide +kernel
theorem dX9_setReference_110 : decode cX9_setReference 110 = .ok (.iload_n 2, 1) := by decide +kernel
theorem dX9_setReference_111 : decode cX9_setReference 111 = .ok (.bipush 16, 2) := by decide +kernel
theorem dX9_setReference_113 : decode cX9_setReference 113 = .ok (.iload_n 1, 1) := by decide +kernel
theorem dX9_setReference_114 : decode cX9_setReference 114 = .ok (.imul, 1) := by decide +kernel
theorem dX9_setReference_115 : decode cX9_setReference 115 = .ok (.iload 8, 2) := by decide +kernel
theorem dX9_setReference_117 : decode cX9_setReference 117 = .ok (.iadd, 1) := by decide +kernel
theorem dX9_setReference_118 : decode cX9_setReference 118 = .ok (.invokestatic 80, 3) := by decide +kernel
theorem dX9_setReference_121 : decode cX9_setReference 121 = .ok (.istore 11, 2) := by decide +kernel
theorem dX9_setReference_123 : decode cX9_setReference 123 = .ok (.aload_n 0, 1) := by decide +kernel
theorem dX9_setReference_124 : decode cX9_setReference 124 = .ok (.getfield 51, 3) := by decide +kernel
theorem dX9_setReference_127 : decode cX9_setReference 127 = .ok (.getfield 83, 3) := by decide +kernel
theorem dX9_setReference_130 : decode cX9_setReference 130 = .ok (.iload 11, 2) := by decide +kernel
theorem dX9_setReference_132 : decode cX9_setReference 132 = .ok (.iload 4, 2) := by decide +kernel
theorem dX9_setReference_134 : decode cX9_setReference 134 = .ok (.iastore, 1) := by decide +kernel
theorem dX9_setReference_135 : decode cX9_setReference 135 = .ok (.aload_n 0, 1) := by decide +kernel
theorem dX9_setReference_136 : decode cX9_setReference 136 = .ok (.getfield 51, 3) := by decide +kernel
theorem dX9_setReference_139 : decode cX9_setReference 139 = .ok (.getfield 86, 3) := by decide +kernel
theorem dX9_setReference_142 : decode cX9_setReference 142 = .ok (.iload 11, 2) := by decide +kernel
theorem dX9_setReference_144 : decode cX9_setReference 144 = .ok (.aload 5, 2) := by decide +kernel
theorem dX9_setReference_146 : decode cX9_setReference 146 = .ok (.ifnonnull 7, 3) := by decide +kernel
theorem dX9_setReference_149 : decode cX9_setReference 149 = .ok (.iconst 0, 1) := by decide +kernel
theorem dX9_setReference_150 : decode cX9_setReference 150 = .ok (.goto 8, 3) := by decide +kernel
theorem dX9_setReference_153 : decode cX9_setReference 153 = .ok (.aload 5, 2) := by decide +kernel
theorem dX9_setReference_155 : decode cX9_setReference 155 = .ok (.getfield 161, 3) := by decide +kernel
theorem dX9_setReference_158 : decode cX9_setReference 158 = .ok (.iastore, 1) := by decide +kernel
theorem dX9_setReference_159 : decode cX9_setReference 159 = .ok (.iinc 8 1, 3) := by decide +kernel
theorem dX9_setReference_162 : decode cX9_setReference 162 = .ok (.goto (-119), 3) := by decide +kernel
theorem dX9_setReference_165 : decode cX9_setReference 165 = .ok (.return_, 1) := by decide +kernel
def FX9_setReference (G : GG) (M : DD) (a : Nat) (p0 : Int32) (p1 : Int32) (p2 : Int32) (p3 : Int32) : Option (DD) :=
  ltt ((((9 : Int32)) * p1)) fun x1 =>
  ltt ((x1 + p3)) fun x2 =>
  dr G 14 ((M.2 a 3)) fun b3 =>
  chk (¬ (x2 < 0 ∨ G.2.2 b3 ≤ x2.toNatClampNeg)) <|
  ltt ((((4 : Int32)) * p2)) fun x4 =>
  dr G 13 ((M.2 a 15)) fun b5 =>
  chk (¬ (x4 < 0 ∨ G.2.2 b5 ≤ x4.toNatClampNeg)) <|
  ltt (M.1 b5 x4.toNatClampNeg) fun x6 =>
  bnd (FX9_pieceX G M x6) fun y7 =>
  ltt ((((4 : Int32)) * p2)) fun x8 =>
  dr G 13 ((y7.1.2 a 15)) fun b9 =>
  chk (¬ (x8 < 0 ∨ G.2.2 b9 ≤ x8.toNatClampNeg)) <|
  ltt (y7.1.1 b9 x8.toNatClampNeg) fun x10 =>
  bnd (FX9_pieceY G y7.1 x10) fun y11 =>
  bnd (itr (fun (s13 : Int32 × DD) => ((if ((16 : Int32)) ≤ s13.1 then (some (.inr (s13.1, s13.2))) else
  (bnd (FX9_pieceX G s13.2 s13.1) fun y17 =>
  ltt ((y17.2 - y7.2)) fun x18 =>
  bnd (FX9_pieceY G y17.1 s13.1) fun y19 =>
  ltt ((y19.2 - y11.2)) fun x20 =>
  bnd (if x18 < ((0 : Int32)) then (some (y19.1)) else
  (ltt ((((4 : Int32)) * p2)) fun x24 =>
  ltt ((x24 + ((1 : Int32)))) fun x25 =>
  dr G 13 ((y19.1.2 a 15)) fun b26 =>
  chk (¬ (x25 < 0 ∨ G.2.2 b26 ≤ x25.toNatClampNeg)) <|
  ltt (y19.1.1 b26 x25.toNatClampNeg) fun x27 =>
  bnd (if x27 ≤ x18 then (some (y19.1)) else
  (bnd (if x20 < ((0 : Int32)) then (some (y19.1)) else
  (ltt ((((4 : Int32)) * p2)) fun x32 =>
  ltt ((x32 + ((2 : Int32)))) fun x33 =>
  chk (¬ (x33 < 0 ∨ G.2.2 b26 ≤ x33.toNatClampNeg)) <|
  ltt (y19.1.1 b26 x33.toNatClampNeg) fun x34 =>
  bnd (if x34 ≤ x20 then (some (y19.1)) else
  (ltt ((((16 : Int32)) * p0)) fun x37 =>
  ltt ((x37 + s13.1)) fun x38 =>
  bnd (FX4_at G y19.1 p1 x38) fun y39 =>
  dr G 4 ((y39.1.2 a 0)) fun b40 =>
  dr G 13 ((y39.1.2 b40 5)) fun b41 =>
  chk (¬ (y39.2 < 0 ∨ G.2.2 b41 ≤ y39.2.toNatClampNeg)) <|
  ltt (uI y39.1 b41 y39.2.toNatClampNeg p3) fun M42 =>
  dr G 4 ((M42.2 a 0)) fun b43 =>
  bnd (if ((M.2 b3 x2.toNatClampNeg)) = none then (some ((0 : Int32))) else
  (dr G 4 ((M.2 b3 x2.toNatClampNeg)) fun b48 =>
  ltt (M42.1 b48 0) fun x49 =>
  some (x49))) fun (y44 : Int32) =>
  dr G 13 ((M42.2 b43 6)) fun b45 =>
  chk (¬ (y39.2 < 0 ∨ G.2.2 b45 ≤ y39.2.toNatClampNeg)) <|
  ltt (uI M42 b45 y39.2.toNatClampNeg y44) fun M46 =>
  some (M46))) fun (y35 : DD) =>
  some (y35))) fun (y30 : DD) =>
  some (y30))) fun (y28 : DD) =>
  some (y28))) fun (y21 : DD) =>
  ltt (s13.1 + (1 : Int32)) fun x22 =>
  some (.inl (x22, y21)))) : Option ((Int32 × DD) ⊕ (Int32 × DD)))) 1000000 ((0 : Int32), y11.1)) fun (y12 : Int32 × DD) =>
  some y12.2
set_option maxHeartbeats 4000000 in
set_option maxRecDepth 100000 in
theorem kX9_setReference (l : Launch) (D : va_G) (ct : CT) (ad : Nat → Nat) (Z : Nat → Nat) (G : GG) (M : DD) (sz : Nat) (a : Nat) (p0 : Int32) (p1 : Int32) (p2 : Int32) (p3 : Int32) (y : DD) (hc : a < G.1) (hk : G.2.1 a = 9) (hF : FX9_setReference G M a p0 p1 p2 p3 = some y) : Met l yX9_setReference wsX9_setReference ({ frames := 1, cells := 0, slots := 0, locals := 21 }) (va_Pc [.ref (ad a), .int p0, .int p1, .int p2, .int p3] (kB D ct ad Z G M sz)) (va_Qv (fun (_ : Unit) => True) (fun _ t => kE D ct ad G (wA ad G sz) y t) (wA ad G sz)) 0 0 (wA ad G sz) := by
  refine Met.ofW (cc := cX9_setReference) (maxL := 12) (ret := none) (by decide) rfl ?_
  intro p e s m args below meth c s₁ B hml hv
  obtain ⟨rfl, hsz, hP, hK, hD0, hZ, hN⟩ := hv
  have hx := B.exec
  have hb := B.bytes
  have hr := B.returns
  have hts := atoms_spec (ws := wsX9_setReference) B.pre
  have hown : s.vm.findClass RX9 = some m.cls := findClass_of_methodNamed B.named
  have hlocks := B.notSynchronized
  subst hsz
  have hD := wD_self (sz := s.heap.size) hD0
  have hA9 : ∀ q, s.heap.size ≤ q → wA ad G s.heap.size q := fun q h => Or.inr h
  generalize hAe : wA ad G s.heap.size = A at hD hA9 hZ ⊢
  have hS : va_S A s.heap s.heap [] := va_S.rf
  have hl := lv_entry ([.ref (ad a), .int p0, .int p1, .int p2, .int p3]) (n := 12) (Nat.le_of_ble_eq_true rfl)
  rw [lg_entry_eq]
  generalize (lg_sl ([.ref (ad a), .int p0, .int p1, .int p2, .int p3]) ++ List.replicate (12 - (lg_sl ([.ref (ad a), .int p0, .int p1, .int p2, .int p3])).length) Slot.unset).toArray = ls at hl ⊢
  have hl : lv_has ls 12 [(0, .ref (ad a)), (1, .int p0), (2, .int p1), (3, .int p2), (4, .int p3)] := hl
  unfold FX9_setReference at hF
  refine lv_aload_n hx hb dX9_setReference_0 rfl (lv_at hl 0 rfl) ?_
  refine va_get (D := D) (ci := 9) (v := va_re ad (M.2 a 3)) (C := RX9) (T := TX9) (N := 20) hx hb hts (by decide +kernel) hown hK hP a (wld_o ct ad G M hc hk (by decide)) rfl 3 (by decide) (hts (.fieldLink RX9 11 "VideoSuite$Work" "lists" "[LVideoSuite$Picture;") (by decide +kernel)) (fun _ h9 => h9) rfl dX9_setReference_1 ?_
  refine lv_bipush (v := (9 : Int32)) hx hb dX9_setReference_4 (by decide) ?_
  refine lv_iload_n hx hb dX9_setReference_6 rfl (lv_at hl 2 rfl) ?_
  refine lv_imul hx hb dX9_setReference_7 ?_
  obtain ⟨x1, ex1, hF⟩ := ltt_some hF
  refine lv_topi (fun zx1 ezx1 => ?_)
  obtain rfl : x1 = zx1 := ex1.trans ezx1.symm
  refine lv_iload hx hb dX9_setReference_8 (lv_at hl 4 rfl) ?_
  refine lv_iadd hx hb dX9_setReference_10 ?_
  obtain ⟨x2, ex2, hF⟩ := ltt_some hF
  refine lv_topi (fun zx2 ezx2 => ?_)
  obtain rfl : x2 = zx2 := ex2.trans ezx2.symm
  obtain ⟨b3, ho3, hc3, hk3, hF⟩ := dr_some hF
  refine W_st (st' := [.int x2, .ref (ad b3)]) (by rw [va_some ho3]) ?_
  obtain ⟨hvc, hF⟩ := chk_some hF
  refine ld_q hx hb hK hP hc3 hk3 hvc dX9_setReference_11 ?_
  refine lv_astoreq (lv' := [(5, va_re ad (M.2 b3 x2.toNatClampNeg)), (0, .ref (ad a)), (1, .int p0), (2, .int p1), (3, .int p2), (4, .int p3)]) hx hb dX9_setReference_12 hl (by decide) rfl (fun ls hl => ?_)
  refine lv_aload_n hx hb dX9_setReference_14 rfl (lv_at hl 1 rfl) ?_
  refine va_get (D := D) (ci := 9) (v := va_re ad (M.2 a 15)) (C := RX9) (T := TX9) (N := 20) hx hb hts (by decide +kernel) hown hK hP a (wld_o ct ad G M hc hk (by decide)) rfl 15 (by decide) (hts (.fieldLink RX9 45 "VideoSuite$Work" "group" "[I") (by decide +kernel)) (fun _ h9 => h9) rfl dX9_setReference_15 ?_
  refine lv_iconst (v := (4 : Int32)) hx hb dX9_setReference_18 (by decide) ?_
  refine lv_iload_n hx hb dX9_setReference_19 rfl (lv_at hl 4 rfl) ?_
  refine lv_imul hx hb dX9_setReference_20 ?_
  obtain ⟨x4, ex4, hF⟩ := ltt_some hF
  refine lv_topi (fun zx4 ezx4 => ?_)
  obtain rfl : x4 = zx4 := ex4.trans ezx4.symm
  obtain ⟨b5, ho5, hc5, hk5, hF⟩ := dr_some hF
  refine W_st (st' := [.int x4, .ref (ad b5)]) (by rw [va_some ho5]) ?_
  obtain ⟨hvc, hF⟩ := chk_some hF
  refine va_iald hx hb hK hP b5 1 (wld_i ct ad G M hc5 hk5) rfl hvc dX9_setReference_21 ?_
  obtain ⟨x6, ex6, hF⟩ := ltt_some hF
  refine lv_topi (fun zx6 ezx6 => ?_)
  obtain rfl : x6 = zx6 := ex6.trans ezx6.symm
  obtain ⟨y7, hy7, hF⟩ := bnd_some hF
  have hf9 := wA_in hD hA9 hS
  refine va_calli (va_runS (As := [.int x6]) (rest := []) ⟨hx, hb, hml, hown, hts⟩ (kX9_pieceX l D ct ad Z G M s.heap.size x6 y7 hy7) (va_cwS 1 hts gX9_setReference_X9_pieceX rfl rfl rfl (by decide +kernel) ⟨Nat.le_of_ble_eq_true rfl, Nat.le_of_ble_eq_true rfl⟩) ⟨fun a U g mk q => by obtain ⟨q0, q1, qP, qK, qD, qZ, qN⟩ := q; exact ⟨q0, q1, qP, va_K.moved (u := U) (U := U.calling g mk a) (Vm.Alike.refl U.vm) qK, qD, sF.moved (u := U) (U := U.calling g mk a) (Vm.Alike.refl U.vm) qZ, nF.same rfl qN⟩, fun U hU hW => ⟨rfl, by rw [hU], by rw [hU]; exact hP, va_K.moved hW.alike hK, hD.weaken (fun _ _ _ _ => trivial), by rw [hU]; exact ((hZ.kept hS.2.1).narrow hf9).moved hW.alike, hN.warm hW⟩⟩ rfl rfl hl.1 rfl (lv_room (Nat.le_of_ble_eq_true rfl)) dX9_setReference_22 ⟨(Nat.zero_le _), (Nat.zero_le _)⟩) hS (fun q _ h => hf9 q h) hf9 (fun r u t H locs ht hvm hw hB hz1 hk1 hS => ?_)
  obtain ⟨hP, hK9, hD9⟩ := hB
  rw [ht] at hP
  try dsimp only at hw
  subst hw
  have hD := hD9.weaken (fun _ q _ h => hf9 q.1 h)
  refine lv_istore (lv' := [(6, .int y7.2), (5, va_re ad (M.2 b3 x2.toNatClampNeg)), (0, .ref (ad a)), (1, .int p0), (2, .int p1), (3, .int p2), (4, .int p3)]) hx hb dX9_setReference_25 hl (by decide) (by generalize ((M.2 b3 x2.toNatClampNeg)) = o9; cases o9 <;> rfl) (fun ls hl => ?_)
  refine lv_aload_n hx hb dX9_setReference_27 rfl (lv_at hl 2 rfl) ?_
  refine va_get (D := D) (ci := 9) (v := va_re ad (y7.1.2 a 15)) (C := RX9) (T := TX9) (N := 20) hx hb hts (by decide +kernel) hown hK hP a (wld_o ct ad G y7.1 hc hk (by decide)) rfl 15 (by decide) (hts (.fieldLink RX9 45 "VideoSuite$Work" "group" "[I") (by decide +kernel)) (fun _ h9 => h9) rfl dX9_setReference_28 ?_
  refine lv_iconst (v := (4 : Int32)) hx hb dX9_setReference_31 (by decide) ?_
  refine lv_iload_n hx hb dX9_setReference_32 rfl (lv_at hl 5 rfl) ?_
  refine lv_imul hx hb dX9_setReference_33 ?_
  obtain ⟨x8, ex8, hF⟩ := ltt_some hF
  refine lv_topi (fun zx8 ezx8 => ?_)
  obtain rfl : x8 = zx8 := ex8.trans ezx8.symm
  obtain ⟨b9, ho9, hc9, hk9, hF⟩ := dr_some hF
  refine W_st (st' := [.int x8, .ref (ad b9)]) (by rw [va_some ho9]) ?_
  obtain ⟨hvc, hF⟩ := chk_some hF
  refine va_iald hx hb hK hP b9 1 (wld_i ct ad G y7.1 hc9 hk9) rfl hvc dX9_setReference_34 ?_
  obtain ⟨x10, ex10, hF⟩ := ltt_some hF
  refine lv_topi (fun zx10 ezx10 => ?_)
  obtain rfl : x10 = zx10 := ex10.trans ezx10.symm
  obtain ⟨y11, hy11, hF⟩ := bnd_some hF
  have hf9 := wA_in hD hA9 hS
  refine va_calli (va_runS (As := [.int x10]) (rest := []) ⟨hx, hb, hml, hown, hts⟩ (kX9_pieceY l D ct ad Z G y7.1 H.size x10 y11 hy11) (va_cwS 1 hts gX9_setReference_X9_pieceY rfl rfl rfl (by decide +kernel) ⟨Nat.le_of_ble_eq_true rfl, Nat.le_of_ble_eq_true rfl⟩) ⟨fun a U g mk q => by obtain ⟨q0, q1, qP, qK, qD, qZ, qN⟩ := q; exact ⟨q0, q1, qP, va_K.moved (u := U) (U := U.calling g mk a) (Vm.Alike.refl U.vm) qK, qD, sF.moved (u := U) (U := U.calling g mk a) (Vm.Alike.refl U.vm) qZ, nF.same rfl qN⟩, fun U hU hW => ⟨rfl, by rw [hU], by rw [hU]; exact hP, va_K.moved hW.alike hK, hD.weaken (fun _ _ _ _ => trivial), by rw [hU]; exact ((hZ.kept hS.2.1).narrow hf9).moved hW.alike, hN.warm hW⟩⟩ rfl rfl hl.1 rfl (lv_room (Nat.le_of_ble_eq_true rfl)) dX9_setReference_35 ⟨(Nat.zero_le _), (Nat.zero_le _)⟩) hS (fun q _ h => hf9 q h) hf9 (fun r u t H locs ht hvm hw hB hz1 hk1 hS => ?_)
  obtain ⟨hP, hK9, hD9⟩ := hB
  rw [ht] at hP
  try dsimp only at hw
  subst hw
  have hD := hD9.weaken (fun _ q _ h => hf9 q.1 h)
  refine lv_istore (lv' := [(7, .int y11.2), (6, .int y7.2), (5, va_re ad (M.2 b3 x2.toNatClampNeg)), (0, .ref (ad a)), (1, .int p0), (2, .int p1), (3, .int p2), (4, .int p3)]) hx hb dX9_setReference_38 hl (by decide) rfl (fun ls hl => ?_)
  refine lv_iconst (v := (0 : Int32)) hx hb dX9_setReference_40 (by decide) ?_
  refine lv_istore (lv' := [(8, .int (0 : Int32)), (7, .int y11.2), (6, .int y7.2), (5, va_re ad (M.2 b3 x2.toNatClampNeg)), (0, .ref (ad a)), (1, .int p0), (2, .int p1), (3, .int p2), (4, .int p3)]) hx hb dX9_setReference_41 hl (by decide) rfl (fun ls hl => ?_)
  obtain ⟨y12, hy12, hF⟩ := bnd_some hF
  have K12 : ∀ (H : Heap) (locs : List Loc) (ls : Array Slot), va_P D classes (wld ct ad G y12.2) H → va_D A (wld ct ad G y12.2) → va_S A s.heap H locs → lv_has ls 12 [(8, .int y12.1), (7, .int y11.2), (6, .int y7.2), (5, va_re ad (M.2 b3 x2.toNatClampNeg)), (0, .ref (ad a)), (1, .int p0), (2, .int p1), (3, .int p2), (4, .int p3)] → W p l e (headSpec wsX9_setReference ({ frames := 1, cells := 0, slots := 0, locals := 21 })).room s m ([.ref (ad a), .int p0, .int p1, .int p2, .int p3] : List Value).toArray below meth c H locs 0 0 (MQ below (va_Qv (fun (_ : Unit) => True) (fun _ t => kE D ct ad G A y t) A) ([.ref (ad a), .int p0, .int p1, .int p2, .int p3] : List Value).toArray s 0 0 A) (F0 m 165 ls []) := by
    intro H locs ls hP hD hS hl
    obtain rfl := Option.some.inj hF
    exact W.vret hx hb hr (fun t ht hW => ⟨⟨(), rfl, trivial, ⟨by rw [ht]; exact hP, va_K.moved hW.alike hK, hD⟩⟩, hS.F ht⟩) hS.2.2 dX9_setReference_165
  clear hF
  refine itr_rule (fun (s13 : Int32 × DD) => ∀ (H : Heap) (locs : List Loc) (ls : Array Slot), va_P D classes (wld ct ad G s13.2) H → va_D A (wld ct ad G s13.2) → va_S A s.heap H locs → lv_has ls 12 [(8, .int s13.1), (7, .int y11.2), (6, .int y7.2), (5, va_re ad (M.2 b3 x2.toNatClampNeg)), (0, .ref (ad a)), (1, .int p0), (2, .int p1), (3, .int p2), (4, .int p3)] → W p l e (headSpec wsX9_setReference ({ frames := 1, cells := 0, slots := 0, locals := 21 })).room s m ([.ref (ad a), .int p0, .int p1, .int p2, .int p3] : List Value).toArray below meth c H locs 0 0 (MQ below (va_Qv (fun (_ : Unit) => True) (fun _ t => kE D ct ad G A y t) A) ([.ref (ad a), .int p0, .int p1, .int p2, .int p3] : List Value).toArray s 0 0 A) (F0 m 43 ls [])) ?_ _ _ hy12 _ _ _ hP hD hS (lv_sub hl [0, 1, 2, 3, 4, 5, 6, 7, 8] rfl)
  rintro s13 ⟨z15, hF, hwz15⟩ H locs ls hP hD hS hl
  try dsimp only at hF
  refine lv_iload hx hb dX9_setReference_43 (lv_at hl 0 rfl) ?_
  refine lv_bipush (v := (16 : Int32)) hx hb dX9_setReference_45 (by decide) ?_
  refine lv_icmp_ge (tgt := 165) hx hb dX9_setReference_47 (by decide) (fun c16 => ?_) (fun c16 => ?_)
  · rw [if_pos c16] at hF
    obtain rfl := Option.some.inj hF
    subst hwz15
    exact K12 _ _ _ hP hD hS (lv_sub hl [0, 1, 2, 3, 4, 5, 6, 7, 8] rfl)
  · rw [if_neg c16] at hF
    refine lv_iload hx hb dX9_setReference_50 (lv_at hl 0 rfl) ?_
    obtain ⟨y17, hy17, hF⟩ := bnd_some hF
    have hf9 := wA_in hD hA9 hS
    refine va_calli (va_runS (As := [.int s13.1]) (rest := []) ⟨hx, hb, hml, hown, hts⟩ (kX9_pieceX l D ct ad Z G s13.2 H.size s13.1 y17 hy17) (va_cwS 1 hts gX9_setReference_X9_pieceX rfl rfl rfl (by decide +kernel) ⟨Nat.le_of_ble_eq_true rfl, Nat.le_of_ble_eq_true rfl⟩) ⟨fun a U g mk q => by obtain ⟨q0, q1, qP, qK, qD, qZ, qN⟩ := q; exact ⟨q0, q1, qP, va_K.moved (u := U) (U := U.calling g mk a) (Vm.Alike.refl U.vm) qK, qD, sF.moved (u := U) (U := U.calling g mk a) (Vm.Alike.refl U.vm) qZ, nF.same rfl qN⟩, fun U hU hW => ⟨rfl, by rw [hU], by rw [hU]; exact hP, va_K.moved hW.alike hK, hD.weaken (fun _ _ _ _ => trivial), by rw [hU]; exact ((hZ.kept hS.2.1).narrow hf9).moved hW.alike, hN.warm hW⟩⟩ rfl rfl hl.1 rfl (lv_room (Nat.le_of_ble_eq_true rfl)) dX9_setReference_52 ⟨(Nat.zero_le _), (Nat.zero_le _)⟩) hS (fun q _ h => hf9 q h) hf9 (fun r u t H locs ht hvm hw hB hz1 hk1 hS => ?_)
    obtain ⟨hP, hK9, hD9⟩ := hB
    rw [ht] at hP
    try dsimp only at hw
    subst hw
    have hD := hD9.weaken (fun _ q _ h => hf9 q.1 h)
    refine lv_iload hx hb dX9_setReference_55 (lv_at hl 2 rfl) ?_
    refine lv_isub hx hb dX9_setReference_57 ?_
    obtain ⟨x18, ex18, hF⟩ := ltt_some hF
    refine lv_topi (fun zx18 ezx18 => ?_)
    obtain rfl : x18 = zx18 := ex18.trans ezx18.symm
    refine lv_istore (lv' := [(9, .int x18), (8, .int s13.1), (7, .int y11.2), (6, .int y7.2), (5, va_re ad (M.2 b3 x2.toNatClampNeg)), (0, .ref (ad a)), (1, .int p0), (2, .int p1), (3, .int p2), (4, .int p3)]) hx hb dX9_setReference_58 hl (by decide) rfl (fun ls hl => ?_)
    refine lv_iload hx hb dX9_setReference_60 (lv_at hl 1 rfl) ?_
    obtain ⟨y19, hy19, hF⟩ := bnd_some hF
    have hf9 := wA_in hD hA9 hS
    refine va_calli (va_runS (As := [.int s13.1]) (rest := []) ⟨hx, hb, hml, hown, hts⟩ (kX9_pieceY l D ct ad Z G y17.1 H.size s13.1 y19 hy19) (va_cwS 1 hts gX9_setReference_X9_pieceY rfl rfl rfl (by decide +kernel) ⟨Nat.le_of_ble_eq_true rfl, Nat.le_of_ble_eq_true rfl⟩) ⟨fun a U g mk q => by obtain ⟨q0, q1, qP, qK, qD, qZ, qN⟩ := q; exact ⟨q0, q1, qP, va_K.moved (u := U) (U := U.calling g mk a) (Vm.Alike.refl U.vm) qK, qD, sF.moved (u := U) (U := U.calling g mk a) (Vm.Alike.refl U.vm) qZ, nF.same rfl qN⟩, fun U hU hW => ⟨rfl, by rw [hU], by rw [hU]; exact hP, va_K.moved hW.alike hK, hD.weaken (fun _ _ _ _ => trivial), by rw [hU]; exact ((hZ.kept hS.2.1).narrow hf9).moved hW.alike, hN.warm hW⟩⟩ rfl rfl hl.1 rfl (lv_room (Nat.le_of_ble_eq_true rfl)) dX9_setReference_62 ⟨(Nat.zero_le _), (Nat.zero_le _)⟩) hS (fun q _ h => hf9 q h) hf9 (fun r u t H locs ht hvm hw hB hz1 hk1 hS => ?_)
    obtain ⟨hP, hK9, hD9⟩ := hB
    rw [ht] at hP
    try dsimp only at hw
    subst hw
    have hD := hD9.weaken (fun _ q _ h => hf9 q.1 h)
    refine lv_iload hx hb dX9_setReference_65 (lv_at hl 2 rfl) ?_
    refine lv_isub hx hb dX9_setReference_67 ?_
    obtain ⟨x20, ex20, hF⟩ := ltt_some hF
    refine lv_topi (fun zx20 ezx20 => ?_)
    obtain rfl : x20 = zx20 := ex20.trans ezx20.symm
    refine lv_istore (lv' := [(10, .int x20), (9, .int x18), (8, .int s13.1), (7, .int y11.2), (6, .int y7.2), (5, va_re ad (M.2 b3 x2.toNatClampNeg)), (0, .ref (ad a)), (1, .int p0), (2, .int p1), (3, .int p2), (4, .int p3)]) hx hb dX9_setReference_68 hl (by decide) rfl (fun ls hl => ?_)
    refine lv_iload hx hb dX9_setReference_70 (lv_at hl 1 rfl) ?_
    obtain ⟨y21, hy21, hF⟩ := bnd_some hF
    have J21 : ∀ (H : Heap) (locs : List Loc) (ls : Array Slot), va_P D classes (wld ct ad G y21) H → va_D A (wld ct ad G y21) → va_S A s.heap H locs → lv_has ls 12 [(10, .int x20), (9, .int x18), (8, .int s13.1), (7, .int y11.2), (6, .int y7.2), (5, va_re ad (M.2 b3 x2.toNatClampNeg)), (0, .ref (ad a)), (1, .int p0), (2, .int p1), (3, .int p2), (4, .int p3)] → W p l e (headSpec wsX9_setReference ({ frames := 1, cells := 0, slots := 0, locals := 21 })).room s m ([.ref (ad a), .int p0, .int p1, .int p2, .int p3] : List Value).toArray below meth c H locs 0 0 (MQ below (va_Qv (fun (_ : Unit) => True) (fun _ t => kE D ct ad G A y t) A) ([.ref (ad a), .int p0, .int p1, .int p2, .int p3] : List Value).toArray s 0 0 A) (F0 m 159 ls []) := by
      intro H locs ls hP hD hS hl
      obtain ⟨x22, ex22, hF⟩ := ltt_some hF
      refine lv_iinc (v := x22) (lv' := [(8, .int x22), (10, .int x20), (9, .int x18), (7, .int y11.2), (6, .int y7.2), (5, va_re ad (M.2 b3 x2.toNatClampNeg)), (0, .ref (ad a)), (1, .int p0), (2, .int p1), (3, .int p2), (4, .int p3)]) hx hb dX9_setReference_159 hl (k := 2) rfl (by rw [ex22]; rfl) (by decide) rfl (fun ls hl => ?_)
      refine lv_goto (tgt := 43) hx hb dX9_setReference_162 (by decide) ?_
      obtain rfl := Option.some.inj hF
      exact hwz15 _ _ _ hP hD hS (lv_sub hl [0, 3, 4, 5, 6, 7, 8, 9, 10] rfl)
    clear hF
    have hF := hy21
    clear hy21
    refine lv_if_lt (tgt := 159) hx hb dX9_setReference_72 (by decide) (fun c23 => ?_) (fun c23 => ?_)
    · rw [if_pos c23] at hF
      obtain rfl := Option.some.inj hF
      exact J21 _ _ _ hP hD hS (lv_sub hl [0, 1, 2, 3, 4, 5, 6, 7, 8, 9, 10] rfl)
    · rw [if_neg c23] at hF
      refine lv_iload hx hb dX9_setReference_75 (lv_at hl 1 rfl) ?_
      refine lv_aload_n hx hb dX9_setReference_77 rfl (lv_at hl 6 rfl) ?_
      refine va_get (D := D) (ci := 9) (v := va_re ad (y19.1.2 a 15)) (C := RX9) (T := TX9) (N := 20) hx hb hts (by decide +kernel) hown hK hP a (wld_o ct ad G y19.1 hc hk (by decide)) rfl 15 (by decide) (hts (.fieldLink RX9 45 "VideoSuite$Work" "group" "[I") (by decide +kernel)) (fun _ h9 => h9) rfl dX9_setReference_78 ?_
      refine lv_iconst (v := (4 : Int32)) hx hb dX9_setReference_81 (by decide) ?_
      refine lv_iload_n hx hb dX9_setReference_82 rfl (lv_at hl 9 rfl) ?_
      refine lv_imul hx hb dX9_setReference_83 ?_
      obtain ⟨x24, ex24, hF⟩ := ltt_some hF
      refine lv_topi (fun zx24 ezx24 => ?_)
      obtain rfl : x24 = zx24 := ex24.trans ezx24.symm
      refine lv_iconst (v := (1 : Int32)) hx hb dX9_setReference_84 (by decide) ?_
      refine lv_iadd hx hb dX9_setReference_85 ?_
      obtain ⟨x25, ex25, hF⟩ := ltt_some hF
      refine lv_topi (fun zx25 ezx25 => ?_)
      obtain rfl : x25 = zx25 := ex25.trans ezx25.symm
      obtain ⟨b26, ho26, hc26, hk26, hF⟩ := dr_some hF
      refine W_st (st' := [.int x25, .ref (ad b26), .int x18]) (by rw [va_some ho26]) ?_
      obtain ⟨hvc, hF⟩ := chk_some hF
      refine va_iald hx hb hK hP b26 1 (wld_i ct ad G y19.1 hc26 hk26) rfl hvc dX9_setReference_86 ?_
      obtain ⟨x27, ex27, hF⟩ := ltt_some hF
      refine lv_topi (fun zx27 ezx27 => ?_)
      obtain rfl : x27 = zx27 := ex27.trans ezx27.symm
      obtain ⟨y28, hy28, hF⟩ := bnd_some hF
      have J28 : ∀ (H : Heap) (locs : List Loc) (ls : Array Slot), va_P D classes (wld ct ad G y28) H → va_D A (wld ct ad G y28) → va_S A s.heap H locs → lv_has ls 12 [(10, .int x20), (9, .int x18), (8, .int s13.1), (7, .int y11.2), (6, .int y7.2), (5, va_re ad (M.2 b3 x2.toNatClampNeg)), (0, .ref (ad a)), (1, .int p0), (2, .int p1), (3, .int p2), (4, .int p3)] → W p l e (headSpec wsX9_setReference ({ frames := 1, cells := 0, slots := 0, locals := 21 })).room s m ([.ref (ad a), .int p0, .int p1, .int p2, .int p3] : List Value).toArray below meth c H locs 0 0 (MQ below (va_Qv (fun (_ : Unit) => True) (fun _ t => kE D ct ad G A y t) A) ([.ref (ad a), .int p0, .int p1, .int p2, .int p3] : List Value).toArray s 0 0 A) (F0 m 159 ls []) := by
        intro H locs ls hP hD hS hl
        obtain rfl := Option.some.inj hF
        exact J21 _ _ _ hP hD hS (lv_sub hl [0, 1, 2, 3, 4, 5, 6, 7, 8, 9, 10] rfl)
      clear hF
      have hF := hy28
      clear hy28
      refine lv_icmp_ge (tgt := 159) hx hb dX9_setReference_87 (by decide) (fun c29 => ?_) (fun c29 => ?_)
      · rw [if_pos c29] at hF
        obtain rfl := Option.some.inj hF
        exact J28 _ _ _ hP hD hS (lv_sub hl [0, 1, 2, 3, 4, 5, 6, 7, 8, 9, 10] rfl)
      · rw [if_neg c29] at hF
        refine lv_iload hx hb dX9_setReference_90 (lv_at hl 0 rfl) ?_
        obtain ⟨y30, hy30, hF⟩ := bnd_some hF
        have J30 : ∀ (H : Heap) (locs : List Loc) (ls : Array Slot), va_P D classes (wld ct ad G y30) H → va_D A (wld ct ad G y30) → va_S A s.heap H locs → lv_has ls 12 [(10, .int x20), (9, .int x18), (8, .int s13.1), (7, .int y11.2), (6, .int y7.2), (5, va_re ad (M.2 b3 x2.toNatClampNeg)), (0, .ref (ad a)), (1, .int p0), (2, .int p1), (3, .int p2), (4, .int p3)] → W p l e (headSpec wsX9_setReference ({ frames := 1, cells := 0, slots := 0, locals := 21 })).room s m ([.ref (ad a), .int p0, .int p1, .int p2, .int p3] : List Value).toArray below meth c H locs 0 0 (MQ below (va_Qv (fun (_ : Unit) => True) (fun _ t => kE D ct ad G A y t) A) ([.ref (ad a), .int p0, .int p1, .int p2, .int p3] : List Value).toArray s 0 0 A) (F0 m 159 ls []) := by
          intro H locs ls hP hD hS hl
          obtain rfl := Option.some.inj hF
          exact J28 _ _ _ hP hD hS (lv_sub hl [0, 1, 2, 3, 4, 5, 6, 7, 8, 9, 10] rfl)
        clear hF
        have hF := hy30
        clear hy30
        refine lv_if_lt (tgt := 159) hx hb dX9_setReference_92 (by decide) (fun c31 => ?_) (fun c31 => ?_)
        · rw [if_pos c31] at hF
          obtain rfl := Option.some.inj hF
          exact J30 _ _ _ hP hD hS (lv_sub hl [0, 1, 2, 3, 4, 5, 6, 7, 8, 9, 10] rfl)
        · rw [if_neg c31] at hF
          refine lv_iload hx hb dX9_setReference_95 (lv_at hl 0 rfl) ?_
          refine lv_aload_n hx hb dX9_setReference_97 rfl (lv_at hl 6 rfl) ?_
          refine va_get (D := D) (ci := 9) (v := va_re ad (y19.1.2 a 15)) (C := RX9) (T := TX9) (N := 20) hx hb hts (by decide +kernel) hown hK hP a (wld_o ct ad G y19.1 hc hk (by decide)) rfl 15 (by decide) (hts (.fieldLink RX9 45 "VideoSuite$Work" "group" "[I") (by decide +kernel)) (fun _ h9 => h9) rfl dX9_setReference_98 ?_
          refine lv_iconst (v := (4 : Int32)) hx hb dX9_setReference_101 (by decide) ?_
          refine lv_iload_n hx hb dX9_setReference_102 rfl (lv_at hl 9 rfl) ?_
          refine lv_imul hx hb dX9_setReference_103 ?_
          obtain ⟨x32, ex32, hF⟩ := ltt_some hF
          refine lv_topi (fun zx32 ezx32 => ?_)
          obtain rfl : x32 = zx32 := ex32.trans ezx32.symm
          refine lv_iconst (v := (2 : Int32)) hx hb dX9_setReference_104 (by decide) ?_
          refine lv_iadd hx hb dX9_setReference_105 ?_
          obtain ⟨x33, ex33, hF⟩ := ltt_some hF
          refine lv_topi (fun zx33 ezx33 => ?_)
          obtain rfl : x33 = zx33 := ex33.trans ezx33.symm
          refine W_st (st' := [.int x33, .ref (ad b26), .int x20]) (by rw [va_some ho26]) ?_
          obtain ⟨hvc, hF⟩ := chk_some hF
          refine va_iald hx hb hK hP b26 1 (wld_i ct ad G y19.1 hc26 hk26) rfl hvc dX9_setReference_106 ?_
          obtain ⟨x34, ex34, hF⟩ := ltt_some hF
          refine lv_topi (fun zx34 ezx34 => ?_)
          obtain rfl : x34 = zx34 := ex34.trans ezx34.symm
          obtain ⟨y35, hy35, hF⟩ := bnd_some hF
          have J35 : ∀ (H : Heap) (locs : List Loc) (ls : Array Slot), va_P D classes (wld ct ad G y35) H → va_D A (wld ct ad G y35) → va_S A s.heap H locs → lv_has ls 12 [(10, .int x20), (9, .int x18), (8, .int s13.1), (7, .int y11.2), (6, .int y7.2), (5, va_re ad (M.2 b3 x2.toNatClampNeg)), (0, .ref (ad a)), (1, .int p0), (2, .int p1), (3, .int p2), (4, .int p3)] → W p l e (headSpec wsX9_setReference ({ frames := 1, cells := 0, slots := 0, locals := 21 })).room s m ([.ref (ad a), .int p0, .int p1, .int p2, .int p3] : List Value).toArray below meth c H locs 0 0 (MQ below (va_Qv (fun (_ : Unit) => True) (fun _ t => kE D ct ad G A y t) A) ([.ref (ad a), .int p0, .int p1, .int p2, .int p3] : List Value).toArray s 0 0 A) (F0 m 159 ls []) := by
            intro H locs ls hP hD hS hl
            obtain rfl := Option.some.inj hF
            exact J30 _ _ _ hP hD hS (lv_sub hl [0, 1, 2, 3, 4, 5, 6, 7, 8, 9, 10] rfl)
          clear hF
          have hF := hy35
          clear hy35
          refine lv_icmp_ge (tgt := 159) hx hb dX9_setReference_107 (by decide) (fun c36 => ?_) (fun c36 => ?_)
          · rw [if_pos c36] at hF
            obtain rfl := Option.some.inj hF
            exact J35 _ _ _ hP hD hS (lv_sub hl [0, 1, 2, 3, 4, 5, 6, 7, 8, 9, 10] rfl)
          · rw [if_neg c36] at hF
            refine lv_iload_n hx hb dX9_setReference_110 rfl (lv_at hl 8 rfl) ?_
            refine lv_bipush (v := (16 : Int32)) hx hb dX9_setReference_111 (by decide) ?_
            refine lv_iload_n hx hb dX9_setReference_113 rfl (lv_at hl 7 rfl) ?_
            refine lv_imul hx hb dX9_setReference_114 ?_
            obtain ⟨x37, ex37, hF⟩ := ltt_some hF
            refine lv_topi (fun zx37 ezx37 => ?_)
            obtain rfl : x37 = zx37 := ex37.trans ezx37.symm
            refine lv_iload hx hb dX9_setReference_115 (lv_at hl 2 rfl) ?_
            refine lv_iadd hx hb dX9_setReference_117 ?_
            obtain ⟨x38, ex38, hF⟩ := ltt_some hF
            refine lv_topi (fun zx38 ezx38 => ?_)
            obtain rfl : x38 = zx38 := ex38.trans ezx38.symm
            obtain ⟨y39, hy39, hF⟩ := bnd_some hF
            have hf9 := wA_in hD hA9 hS
            refine va_calli (va_runS (As := [.int p1, .int x38]) (rest := []) ⟨hx, hb, hml, hown, hts⟩ (kX4_at l D ct ad Z G y19.1 H.size p1 x38 y39 hy39) (va_cwS 2 hts gX9_setReference_X4_at rfl rfl rfl (by decide +kernel) ⟨Nat.le_of_ble_eq_true rfl, Nat.le_of_ble_eq_true rfl⟩) ⟨fun a U g mk q => by obtain ⟨q0, q1, qP, qK, qD, qZ, qN⟩ := q; exact ⟨q0, q1, qP, va_K.moved (u := U) (U := U.calling g mk a) (Vm.Alike.refl U.vm) qK, qD, sF.moved (u := U) (U := U.calling g mk a) (Vm.Alike.refl U.vm) qZ, nF.same rfl qN⟩, fun U hU hW => ⟨rfl, by rw [hU], by rw [hU]; exact hP, va_K.moved hW.alike hK, hD.weaken (fun _ _ _ _ => trivial), by rw [hU]; exact ((hZ.kept hS.2.1).narrow hf9).moved hW.alike, hN.warm hW⟩⟩ rfl rfl hl.1 rfl (lv_room (Nat.le_of_ble_eq_true rfl)) dX9_setReference_118 ⟨(Nat.zero_le _), (Nat.zero_le _)⟩) hS (fun q _ h => hf9 q h) hf9 (fun r u t H locs ht hvm hw hB hz1 hk1 hS => ?_)
            obtain ⟨hP, hK9, hD9⟩ := hB
            rw [ht] at hP
            try dsimp only at hw
            subst hw
            have hD := hD9.weaken (fun _ q _ h => hf9 q.1 h)
            refine lv_istore (lv' := [(11, .int y39.2), (10, .int x20), (9, .int x18), (8, .int s13.1), (7, .int y11.2), (6, .int y7.2), (5, va_re ad (M.2 b3 x2.toNatClampNeg)), (0, .ref (ad a)), (1, .int p0), (2, .int p1), (3, .int p2), (4, .int p3)]) hx hb dX9_setReference_121 hl (by decide) rfl (fun ls hl => ?_)
            refine lv_aload_n hx hb dX9_setReference_123 rfl (lv_at hl 7 rfl) ?_
            refine va_get (D := D) (ci := 9) (v := va_re ad (y39.1.2 a 0)) (C := RX9) (T := TX9) (N := 20) hx hb hts (by decide +kernel) hown hK hP a (wld_o ct ad G y39.1 hc hk (by decide)) rfl 0 (by decide) (hts (.fieldLink RX9 51 "VideoSuite$Work" "pic" "LVideoSuite$Picture;") (by decide +kernel)) (fun _ h9 => h9) rfl dX9_setReference_124 ?_
            obtain ⟨b40, ho40, hc40, hk40, hF⟩ := dr_some hF
            refine W_st (st' := [.ref (ad b40)]) (by rw [va_some ho40]) ?_
            refine va_get (D := D) (ci := 4) (v := va_re ad (y39.1.2 b40 5)) (C := RX4) (T := TX4) (N := 18) hx hb hts (by decide +kernel) hown hK hP b40 (wld_o ct ad G y39.1 hc40 hk40 (by decide)) rfl 5 (by decide) (hts (.fieldLink RX9 83 "VideoSuite$Picture" "reference" "[I") (by decide +kernel)) (fun _ h9 => h9) rfl dX9_setReference_127 ?_
            refine lv_iload hx hb dX9_setReference_130 (lv_at hl 0 rfl) ?_
            refine lv_iload hx hb dX9_setReference_132 (lv_at hl 11 rfl) ?_
            obtain ⟨b41, ho41, hc41, hk41, hF⟩ := dr_some hF
            refine W_st (st' := [.int p3, .int y39.2, .ref (ad b41)]) (by rw [va_some ho41]) ?_
            obtain ⟨hvc, hF⟩ := chk_some hF
            refine va_iast hx hb hK hP hD hS b41 1 (wld_i ct ad G y39.1 hc41 hk41) rfl hvc dX9_setReference_134 (fun H locs hP hD hS => ?_)
            obtain ⟨M42, eM42, hF⟩ := ltt_some hF
            rw [set_i ct ad G y39.1 hc41 hk41, ← eM42] at hP hD
            refine lv_aload_n hx hb dX9_setReference_135 rfl (lv_at hl 7 rfl) ?_
            refine va_get (D := D) (ci := 9) (v := va_re ad (M42.2 a 0)) (C := RX9) (T := TX9) (N := 20) hx hb hts (by decide +kernel) hown hK hP a (wld_o ct ad G M42 hc hk (by decide)) rfl 0 (by decide) (hts (.fieldLink RX9 51 "VideoSuite$Work" "pic" "LVideoSuite$Picture;") (by decide +kernel)) (fun _ h9 => h9) rfl dX9_setReference_136 ?_
            obtain ⟨b43, ho43, hc43, hk43, hF⟩ := dr_some hF
            refine W_st (st' := [.ref (ad b43)]) (by rw [va_some ho43]) ?_
            refine va_get (D := D) (ci := 4) (v := va_re ad (M42.2 b43 6)) (C := RX4) (T := TX4) (N := 18) hx hb hts (by decide +kernel) hown hK hP b43 (wld_o ct ad G M42 hc43 hk43 (by decide)) rfl 6 (by decide) (hts (.fieldLink RX9 86 "VideoSuite$Picture" "referenceId" "[I") (by decide +kernel)) (fun _ h9 => h9) rfl dX9_setReference_139 ?_
            refine lv_iload hx hb dX9_setReference_142 (lv_at hl 0 rfl) ?_
            refine lv_aloadq hx hb dX9_setReference_144 (lv_at hl 6 rfl) ?_
            obtain ⟨y44, hy44, hF⟩ := bnd_some hF
            have J44 : ∀ (H : Heap) (locs : List Loc) (ls : Array Slot), va_P D classes (wld ct ad G M42) H → va_D A (wld ct ad G M42) → va_S A s.heap H locs → lv_has ls 12 [(11, .int y39.2), (10, .int x20), (9, .int x18), (8, .int s13.1), (7, .int y11.2), (6, .int y7.2), (5, va_re ad (M.2 b3 x2.toNatClampNeg)), (0, .ref (ad a)), (1, .int p0), (2, .int p1), (3, .int p2), (4, .int p3)] → W p l e (headSpec wsX9_setReference ({ frames := 1, cells := 0, slots := 0, locals := 21 })).room s m ([.ref (ad a), .int p0, .int p1, .int p2, .int p3] : List Value).toArray below meth c H locs 0 0 (MQ below (va_Qv (fun (_ : Unit) => True) (fun _ t => kE D ct ad G A y t) A) ([.ref (ad a), .int p0, .int p1, .int p2, .int p3] : List Value).toArray s 0 0 A) (F0 m 158 ls [.int y44, .int y39.2, va_re ad (M42.2 b43 6)]) := by
              intro H locs ls hP hD hS hl
              obtain ⟨b45, ho45, hc45, hk45, hF⟩ := dr_some hF
              refine W_st (st' := [.int y44, .int y39.2, .ref (ad b45)]) (by rw [va_some ho45]) ?_
              obtain ⟨hvc, hF⟩ := chk_some hF
              refine va_iast hx hb hK hP hD hS b45 1 (wld_i ct ad G M42 hc45 hk45) rfl hvc dX9_setReference_158 (fun H locs hP hD hS => ?_)
              obtain ⟨M46, eM46, hF⟩ := ltt_some hF
              rw [set_i ct ad G M42 hc45 hk45, ← eM46] at hP hD
              obtain rfl := Option.some.inj hF
              exact J35 _ _ _ hP hD hS (lv_sub hl [1, 2, 3, 4, 5, 6, 7, 8, 9, 10, 11] rfl)
            clear hF
            have hF := hy44
            clear hy44
            refine lv_ifnonnullq (tgt := 153) hx hb dX9_setReference_146 (by decide) (fun c47 => ?_) (fun c47 => ?_)
            · rw [if_neg c47] at hF
              refine lv_aloadq hx hb dX9_setReference_153 (lv_at hl 6 rfl) ?_
              obtain ⟨b48, ho48, hc48, hk48, hF⟩ := dr_some hF
              refine W_st (st' := [.ref (ad b48), .int y39.2, va_re ad (M42.2 b43 6)]) (by rw [va_some ho48]) ?_
              refine va_get (D := D) (ci := 4) (v := .int (M42.1 b48 0)) (C := RX4) (T := TX4) (N := 18) hx hb hts (by decide +kernel) hown hK hP b48 (wld_o ct ad G M42 hc48 hk48 (by decide)) rfl 0 (by decide) (hts (.fieldLink RX9 161 "VideoSuite$Picture" "id" "I") (by decide +kernel)) (fun _ h9 => h9) rfl dX9_setReference_155 ?_
              obtain ⟨x49, ex49, hF⟩ := ltt_some hF
              refine lv_topi (fun zx49 ezx49 => ?_)
              obtain rfl : x49 = zx49 := ex49.trans ezx49.symm
              obtain rfl := Option.some.inj hF
              exact J44 _ _ _ hP hD hS (lv_sub hl [0, 1, 2, 3, 4, 5, 6, 7, 8, 9, 10, 11] rfl)
            · rw [if_pos c47] at hF
              refine lv_iconst (v := (0 : Int32)) hx hb dX9_setReference_149 (by decide) ?_
              refine lv_goto (tgt := 158) hx hb dX9_setReference_150 (by decide) ?_
              obtain rfl := Option.some.inj hF
              exact J44 _ _ _ hP hD hS (lv_sub hl [0, 1, 2, 3, 4, 5, 6, 7, 8, 9, 10, 11] rfl)
theorem ggX9_sides_X9_pieceAt : GoodIn wsX9_sides wsX9_pieceAt := goodIn_r _ [5, 6, 7, 8, 9, 15, 16, 17, 18, 19, 20, 21, 22, 23, 24, 25, 26, 27, 28, 29, 30, 31, 32, 33, 34, 35, 36, 37, 38, 39, 40, 41, 42, 43, 44, 45, 46, 47, 48, 49, 50, 51, 52] (by decide +kernel) (by decide +kernel)
set_option maxRecDepth 20000 in
theorem gX9_sides_X9_pieceAt : GoodIn wsX9_sides (wsV RX9 111 RX9 yX9_pieceAt wsX9_pieceAt) := goodIn_app (goodIn_of _ (by decide +kernel)) ggX9_sides_X9_pieceAt
set_option maxRecDepth 20000 in
theorem ggX9_sides_X9_mayUse : GoodIn wsX9_sides wsX9_mayUse := goodIn_r _ [13, 14, 8, 15, 16, 17, 18, 19, 20, 21, 22, 23, 24, 25, 26, 27, 28, 29, 30, 31, 32, 33, 34] (by decide +kernel) (by decide +kernel)
set_option maxRecDepth 20000 in
theorem gX9_sides_X9_mayUse : GoodIn wsX9_sides (wsV RX9 115 RX9 yX9_mayUse wsX9_mayUse) := goodIn_app (goodIn_of _ (by decide +kernel)) ggX9_sides_X9_mayUse
theorem dX9_sides_0 : decode cX9_sides 0 = .ok (.aload_n 0, 1) := by decide +kernel
theorem dX9_sides_1 : decode cX9_sides 1 = .ok (.aload_n 0, 1) := by decide +kernel
theorem dX9_sides_2 : decode cX9_sides 2 = .ok (.iload_n 1, 1) := by decide +kernel
theorem dX9_sides_3 : decode cX9_sides 3 = .ok (.iconst (-1), 1) := by decide +kernel
theorem dX9_sides_4 : decode cX9_sides 4 = .ok (.iconst 0, 1) := by decide +kernel
theorem dX9_sides_5 : decode cX9_sides 5 = .ok (.iconst 0, 1) := by decide +kernel
theorem dX9_sides_6 : decode cX9_sides 6 = .ok (.invokevirtual 111, 3) := by decide +kernel
theorem dX9_sides_9 : decode cX9_sides 9 = .ok (.invokevirtual 115, 3) := by decide +kernel
theorem dX9_sides_12 : decode cX9_sides 12 = .ok (.ifCond .eq 7, 3) := by decide +kernel
theorem dX9_sides_15 : decode cX9_sides 15 = .ok (.iconst 1, 1) := by decide +kernel
theorem dX9_sides_16 : decode cX9_sides 16 = .ok (.goto 4, 3) := by decide +kernel
theorem dX9_sides_19 : decode cX9_sides 19 = .ok (.iconst 0, 1) := by decide +kernel
theorem dX9_sides_20 : decode cX9_sides 20 = .ok (.aload_n 0, 1) := by decide +kernel
theorem dX9_sides_21 : decode cX9_sides 21 = .ok (.aload_n 0, 1) := by decide +kernel
theorem dX9_sides_22 : decode cX9_sides 22 = .ok (.iload_n 1, 1) := by decide +kernel
theorem dX9_sides_23 : decode cX9_sides 23 = .ok (.iconst 0, 1) := by decide +kernel
theorem dX9_sides_24 : decode cX9_sides 24 = .ok (.iconst (-1), 1) := by decide +kernel
theorem dX9_sides_25 : decode cX9_sides 25 = .ok (.iconst 0, 1) := by decide +kernel
theorem dX9_sides_26 : decode cX9_sides 26 = .ok (.invokevirtual 111, 3) := by decide +kernel
theorem dX9_sides_29 : decode cX9_sides 29 = .ok (.invokevirtual 115, 3) := by decide +kernel
theorem dX9_sides_32 : decode cX9_sides 32 = .ok (.ifCond .eq 7, 3) := by decide +kernel
theorem dX9_sides_35 : decode cX9_sides 35 = .ok (.iconst 2, 1) := by decide +kernel
theorem dX9_sides_36 : decode cX9_sides 36 = .ok (.goto 4, 3) := by decide +kernel
theorem dX9_sides_39 : decode cX9_sides 39 = .ok (.iconst 0, 1) := by decide +kernel
theorem dX9_sides_40 : decode cX9_sides 40 = .ok (.ior, 1) := by decide +kernel
theorem dX9_sides_41 : decode cX9_sides 41 = .ok (.aload_n 0, 1) := by decide +kernel
theorem dX9_sides_42 : decode cX9_sides 42 = .ok (.aload_n 0, 1) := by decide +kernel
theorem dX9_sides_43 : decode cX9_sides 43 = .ok (.iload_n 1, 1) := by decide +kernel
theorem dX9_sides_44 : decode cX9_sides 44 = .ok (.iconst (-1), 1) := by decide +kernel
theorem dX9_sides_45 : decode cX9_sides 45 = .ok (.iconst (-1), 1) := by decide +kernel
theorem dX9_sides_46 : decode cX9_sides 46 = .ok (.iconst 0, 1) := by decide +kernel
theorem dX9_sides_47 : decode cX9_sides 47 = .ok (.invokevirtual 111, 3) := by decide +kernel
theorem dX9_sides_50 : decode cX9_sides 50 = .ok (.invokevirtual 115, 3) := by decide +kernel
theorem dX9_sides_53 : decode cX9_sides 53 = .ok (.ifCond .eq 7, 3) := by decide +kernel
theorem dX9_sides_56 : decode cX9_sides 56 = .ok (.iconst 4, 1) := by decide +kernel
theorem dX9_sides_57 : decode cX9_sides 57 = .ok (.goto 4, 3) := by decide +kernel
theorem dX9_sides_60 : decode cX9_sides 60 = .ok (.iconst 0, 1) := by decide +kernel
theorem dX9_sides_61 : decode cX9_sides 61 = .ok (.ior, 1) := by decide +kernel
theorem dX9_sides_62 : decode cX9_sides 62 = .ok (.aload_n 0, 1) := by decide +kernel
theorem dX9_sides_63 : decode cX9_sides 63 = .ok (.aload_n 0, 1) := by decide +kernel
theorem dX9_sides_64 : decode cX9_sides 64 = .ok (.iload_n 1, 1) := by decide +kernel
theorem dX9_sides_65 : decode cX9_sides 65 = .ok (.bipush 16, 2) := by decide +kernel
theorem dX9_sides_67 : decode cX9_sides 67 = .ok (.iconst (-1), 1) := by decide +kernel
theorem dX9_sides_68 : decode cX9_sides 68 = .ok (.iconst 0, 1) := by decide +kernel
theorem dX9_sides_69 : decode cX9_sides 69 = .ok (.invokevirtual 111, 3) := by decide +kernel
theorem dX9_sides_72 : decode cX9_sides 72 = .ok (.invokevirtual 115, 3) := by decide +kernel
theorem dX9_sides_75 : decode cX9_sides 75 = .ok (.ifCond .eq 8, 3) := by decide +kernel
theorem dX9_sides_78 : decode cX9_sides 78 = .ok (.bipush 8, 2) := by decide +kernel
theorem dX9_sides_80 : decode cX9_sides 80 = .ok (.goto 4, 3) := by decide +kernel
theorem dX9_sides_83 : decode cX9_sides 83 = .ok (.iconst 0, 1) := by decide +kernel
theorem dX9_sides_84 : decode cX9_sides 84 = .ok (.ior, 1) := by decide +kernel
theorem dX9_sides_85 : decode cX9_sides 85 = .ok (.ireturn, 1) := by decide +kernel
def FX9_sides (G : GG) (M : DD) (a : Nat) (p0 : Int32) : Option (DD × Int32) :=
  bnd (FX9_pieceAt G M a p0 ((-1 : Int32)) ((0 : Int32)) ((0 : Int32))) fun y1 =>
  bnd (FX9_mayUse G y1.1 a y1.2) fun y2 =>
  bnd (if y2.2 = ((0 : Int32)) then (some ((0 : Int32))) else
  (some ((1 : Int32)))) fun (y3 : Int32) =>
  bnd (FX9_pieceAt G y2.1 a p0 ((0 : Int32)) ((-1 : Int32)) ((0 : Int32))) fun y4 =>
  bnd (FX9_mayUse G y4.1 a y4.2) fun y5 =>
  bnd (if y5.2 = ((0 : Int32)) then (some ((0 : Int32))) else
  (some ((2 : Int32)))) fun (y6 : Int32) =>
  ltt ((y3 ||| y6)) fun x7 =>
  bnd (FX9_pieceAt G y5.1 a p0 ((-1 : Int32)) ((-1 : Int32)) ((0 : Int32))) fun y8 =>
  bnd (FX9_mayUse G y8.1 a y8.2) fun y9 =>
  bnd (if y9.2 = ((0 : Int32)) then (some ((0 : Int32))) else
  (some ((4 : Int32)))) fun (y10 : Int32) =>
  ltt ((x7 ||| y10)) fun x11 =>
  bnd (FX9_pieceAt G y9.1 a p0 ((16 : Int32)) ((-1 : Int32)) ((0 : Int32))) fun y12 =>
  bnd (FX9_mayUse G y12.1 a y12.2) fun y13 =>
  bnd (if y13.2 = ((0 : Int32)) then (some ((0 : Int32))) else
  (some ((8 : Int32)))) fun (y14 : Int32) =>
  ltt ((x11 ||| y14)) fun x15 =>
  some (y13.1, x15)
set_option maxHeartbeats 4000000 in
set_option maxRecDepth 100000 in
theorem kX9_sides (l : Launch) (D : va_G) (ct : CT) (ad : Nat → Nat) (Z : Nat → Nat) (G : GG) (M : DD) (sz : Nat) (a : Nat) (p0 : Int32) (y : DD × Int32) (hc : a < G.1) (hk : G.2.1 a = 9) (hF : FX9_sides G M a p0 = some y) : Met l yX9_sides wsX9_sides ({ frames := 1, cells := 0, slots := 0, locals := 28 }) (va_Pc [.ref (ad a), .int p0] (kB D ct ad Z G M sz)) (va_Qi (fun (q : Int32) (_ : Unit) => q = y.2) (fun _ t => kE D ct ad G (wA ad G sz) y.1 t) (wA ad G sz)) 0 0 (wA ad G sz) := by
  refine Met.ofW (cc := cX9_sides) (maxL := 2) (ret := (some .int)) (by decide) rfl ?_
  intro p e s m args below meth c s₁ B hml hv
  obtain ⟨rfl, hsz, hP, hK, hD0, hZ, hN⟩ := hv
  have hx := B.exec
  have hb := B.bytes
  have hr := B.returns
  have hts := atoms_spec (ws := wsX9_sides) B.pre
  have hown : s.vm.findClass RX9 = some m.cls := findClass_of_methodNamed B.named
  have hlocks := B.notSynchronized
  subst hsz
  have hD := wD_self (sz := s.heap.size) hD0
  have hA9 : ∀ q, s.heap.size ≤ q → wA ad G s.heap.size q := fun q h => Or.inr h
  generalize hAe : wA ad G s.heap.size = A at hD hA9 hZ ⊢
  have hS : va_S A s.heap s.heap [] := va_S.rf
  have hl := lv_entry ([.ref (ad a), .int p0]) (n := 2) (Nat.le_of_ble_eq_true rfl)
  rw [lg_entry_eq]
  generalize (lg_sl ([.ref (ad a), .int p0]) ++ List.replicate (2 - (lg_sl ([.ref (ad a), .int p0])).length) Slot.unset).toArray = ls at hl ⊢
  have hl : lv_has ls 2 [(0, .ref (ad a)), (1, .int p0)] := hl
  unfold FX9_sides at hF
  refine lv_aload_n hx hb dX9_sides_0 rfl (lv_at hl 0 rfl) ?_
  refine lv_aload_n hx hb dX9_sides_1 rfl (lv_at hl 0 rfl) ?_
  refine lv_iload_n hx hb dX9_sides_2 rfl (lv_at hl 1 rfl) ?_
  refine lv_iconst (v := (-1 : Int32)) hx hb dX9_sides_3 (by decide) ?_
  refine lv_iconst (v := (0 : Int32)) hx hb dX9_sides_4 (by decide) ?_
  refine lv_iconst (v := (0 : Int32)) hx hb dX9_sides_5 (by decide) ?_
  obtain ⟨y1, hy1, hF⟩ := bnd_some hF
  have hf9 := wA_in hD hA9 hS
  refine va_calli (va_runV (As := [.int p0, .int (-1 : Int32), .int (0 : Int32), .int (0 : Int32)]) (rest := [.ref (ad a)]) ⟨hx, hb, hml, hown, hts⟩ (kX9_pieceAt l D ct ad Z G M s.heap.size a p0 ((-1 : Int32)) ((0 : Int32)) ((0 : Int32)) y1 hc hk hy1) (cwV 4 hts gX9_sides_X9_pieceAt rfl rfl rfl (by decide +kernel) ⟨Nat.le_of_ble_eq_true rfl, Nat.le_of_ble_eq_true rfl⟩) ⟨fun a U g mk q => by obtain ⟨q0, q1, qP, qK, qD, qZ, qN⟩ := q; exact ⟨q0, q1, qP, va_K.moved (u := U) (U := U.calling g mk a) (Vm.Alike.refl U.vm) qK, qD, sF.moved (u := U) (U := U.calling g mk a) (Vm.Alike.refl U.vm) qZ, nF.same rfl qN⟩, va_recv hK hP (ci := 9) (q0 := a) rfl (wld_o ct ad G M hc hk (by decide)), fun U hU hW => ⟨rfl, by rw [hU], by rw [hU]; exact hP, va_K.moved hW.alike hK, hD.weaken (fun _ _ _ _ => trivial), by rw [hU]; exact ((hZ.kept hS.2.1).narrow hf9).moved hW.alike, hN.warm hW⟩⟩ rfl rfl hl.1 rfl (lv_room (Nat.le_of_ble_eq_true rfl)) dX9_sides_6 ⟨(Nat.zero_le _), (Nat.zero_le _)⟩) hS (fun q _ h => hf9 q h) hf9 (fun r u t H locs ht hvm hw hB hz1 hk1 hS => ?_)
  obtain ⟨hP, hK9, hD9⟩ := hB
  rw [ht] at hP
  try dsimp only at hw
  subst hw
  have hD := hD9.weaken (fun _ q _ h => hf9 q.1 h)
  obtain ⟨y2, hy2, hF⟩ := bnd_some hF
  have hf9 := wA_in hD hA9 hS
  refine va_calli (va_runV (As := [.int y1.2]) (rest := []) ⟨hx, hb, hml, hown, hts⟩ (kX9_mayUse l D ct ad Z G y1.1 H.size a y1.2 y2 hc hk hy2) (cwV 1 hts gX9_sides_X9_mayUse rfl rfl rfl (by decide +kernel) ⟨Nat.le_of_ble_eq_true rfl, Nat.le_of_ble_eq_true rfl⟩) ⟨fun a U g mk q => by obtain ⟨q0, q1, qP, qK, qD, qZ, qN⟩ := q; exact ⟨q0, q1, qP, va_K.moved (u := U) (U := U.calling g mk a) (Vm.Alike.refl U.vm) qK, qD, sF.moved (u := U) (U := U.calling g mk a) (Vm.Alike.refl U.vm) qZ, nF.same rfl qN⟩, va_recv hK hP (ci := 9) (q0 := a) rfl (wld_o ct ad G y1.1 hc hk (by decide)), fun U hU hW => ⟨rfl, by rw [hU], by rw [hU]; exact hP, va_K.moved hW.alike hK, hD.weaken (fun _ _ _ _ => trivial), by rw [hU]; exact ((hZ.kept hS.2.1).narrow hf9).moved hW.alike, hN.warm hW⟩⟩ rfl rfl hl.1 rfl (lv_room (Nat.le_of_ble_eq_true rfl)) dX9_sides_9 ⟨(Nat.zero_le _), (Nat.zero_le _)⟩) hS (fun q _ h => hf9 q h) hf9 (fun r u t H locs ht hvm hw hB hz1 hk1 hS => ?_)
  obtain ⟨hP, hK9, hD9⟩ := hB
  rw [ht] at hP
  try dsimp only at hw
  subst hw
  have hD := hD9.weaken (fun _ q _ h => hf9 q.1 h)
  obtain ⟨y3, hy3, hF⟩ := bnd_some hF
  have J3 : ∀ (H : Heap) (locs : List Loc) (ls : Array Slot), va_P D classes (wld ct ad G y2.1) H → va_D A (wld ct ad G y2.1) → va_S A s.heap H locs → lv_has ls 2 [(0, .ref (ad a)), (1, .int p0)] → W p l e (headSpec wsX9_sides ({ frames := 1, cells := 0, slots := 0, locals := 28 })).room s m ([.ref (ad a), .int p0] : List Value).toArray below meth c H locs 0 0 (MQ below (va_Qi (fun (q : Int32) (_ : Unit) => q = y.2) (fun _ t => kE D ct ad G A y.1 t) A) ([.ref (ad a), .int p0] : List Value).toArray s 0 0 A) (F0 m 20 ls [.int y3]) := by
    intro H locs ls hP hD hS hl
    refine lv_aload_n hx hb dX9_sides_20 rfl (lv_at hl 0 rfl) ?_
    refine lv_aload_n hx hb dX9_sides_21 rfl (lv_at hl 0 rfl) ?_
    refine lv_iload_n hx hb dX9_sides_22 rfl (lv_at hl 1 rfl) ?_
    refine lv_iconst (v := (0 : Int32)) hx hb dX9_sides_23 (by decide) ?_
    refine lv_iconst (v := (-1 : Int32)) hx hb dX9_sides_24 (by decide) ?_
    refine lv_iconst (v := (0 : Int32)) hx hb dX9_sides_25 (by decide) ?_
    obtain ⟨y4, hy4, hF⟩ := bnd_some hF
    have hf9 := wA_in hD hA9 hS
    refine va_calli (va_runV (As := [.int p0, .int (0 : Int32), .int (-1 : Int32), .int (0 : Int32)]) (rest := [.ref (ad a), .int y3]) ⟨hx, hb, hml, hown, hts⟩ (kX9_pieceAt l D ct ad Z G y2.1 H.size a p0 ((0 : Int32)) ((-1 : Int32)) ((0 : Int32)) y4 hc hk hy4) (cwV 4 hts gX9_sides_X9_pieceAt rfl rfl rfl (by decide +kernel) ⟨Nat.le_of_ble_eq_true rfl, Nat.le_of_ble_eq_true rfl⟩) ⟨fun a U g mk q => by obtain ⟨q0, q1, qP, qK, qD, qZ, qN⟩ := q; exact ⟨q0, q1, qP, va_K.moved (u := U) (U := U.calling g mk a) (Vm.Alike.refl U.vm) qK, qD, sF.moved (u := U) (U := U.calling g mk a) (Vm.Alike.refl U.vm) qZ, nF.same rfl qN⟩, va_recv hK hP (ci := 9) (q0 := a) rfl (wld_o ct ad G y2.1 hc hk (by decide)), fun U hU hW => ⟨rfl, by rw [hU], by rw [hU]; exact hP, va_K.moved hW.alike hK, hD.weaken (fun _ _ _ _ => trivial), by rw [hU]; exact ((hZ.kept hS.2.1).narrow hf9).moved hW.alike, hN.warm hW⟩⟩ rfl rfl hl.1 rfl (lv_room (Nat.le_of_ble_eq_true rfl)) dX9_sides_26 ⟨(Nat.zero_le _), (Nat.zero_le _)⟩) hS (fun q _ h => hf9 q h) hf9 (fun r u t H locs ht hvm hw hB hz1 hk1 hS => ?_)
    obtain ⟨hP, hK9, hD9⟩ := hB
    rw [ht] at hP
    try dsimp only at hw
    subst hw
    have hD := hD9.weaken (fun _ q _ h => hf9 q.1 h)
    obtain ⟨y5, hy5, hF⟩ := bnd_some hF
    have hf9 := wA_in hD hA9 hS
    refine va_calli (va_runV (As := [.int y4.2]) (rest := [.int y3]) ⟨hx, hb, hml, hown, hts⟩ (kX9_mayUse l D ct ad Z G y4.1 H.size a y4.2 y5 hc hk hy5) (cwV 1 hts gX9_sides_X9_mayUse rfl rfl rfl (by decide +kernel) ⟨Nat.le_of_ble_eq_true rfl, Nat.le_of_ble_eq_true rfl⟩) ⟨fun a U g mk q => by obtain ⟨q0, q1, qP, qK, qD, qZ, qN⟩ := q; exact ⟨q0, q1, qP, va_K.moved (u := U) (U := U.calling g mk a) (Vm.Alike.refl U.vm) qK, qD, sF.moved (u := U) (U := U.calling g mk a) (Vm.Alike.refl U.vm) qZ, nF.same rfl qN⟩, va_recv hK hP (ci := 9) (q0 := a) rfl (wld_o ct ad G y4.1 hc hk (by decide)), fun U hU hW => ⟨rfl, by rw [hU], by rw [hU]; exact hP, va_K.moved hW.alike hK, hD.weaken (fun _ _ _ _ => trivial), by rw [hU]; exact ((hZ.kept hS.2.1).narrow hf9).moved hW.alike, hN.warm hW⟩⟩ rfl rfl hl.1 rfl (lv_room (Nat.le_of_ble_eq_true rfl)) dX9_sides_29 ⟨(Nat.zero_le _), (Nat.zero_le _)⟩) hS (fun q _ h => hf9 q h) hf9 (fun r u t H locs ht hvm hw hB hz1 hk1 hS => ?_)
    obtain ⟨hP, hK9, hD9⟩ := hB
    rw [ht] at hP
    try dsimp only at hw
    subst hw
    have hD := hD9.weaken (fun _ q _ h => hf9 q.1 h)
    obtain ⟨y6, hy6, hF⟩ := bnd_some hF
    have J6 : ∀ (H : Heap) (locs : List Loc) (ls : Array Slot), va_P D classes (wld ct ad G y5.1) H → va_D A (wld ct ad G y5.1) → va_S A s.heap H locs → lv_has ls 2 [(0, .ref (ad a)), (1, .int p0)] → W p l e (headSpec wsX9_sides ({ frames := 1, cells := 0, slots := 0, locals := 28 })).room s m ([.ref (ad a), .int p0] : List Value).toArray below meth c H locs 0 0 (MQ below (va_Qi (fun (q : Int32) (_ : Unit) => q = y.2) (fun _ t => kE D ct ad G A y.1 t) A) ([.ref (ad a), .int p0] : List Value).toArray s 0 0 A) (F0 m 40 ls [.int y6, .int y3]) := by
      intro H locs ls hP hD hS hl
      refine lv_ior hx hb dX9_sides_40 ?_
      obtain ⟨x7, ex7, hF⟩ := ltt_some hF
      refine lv_topi (fun zx7 ezx7 => ?_)
      obtain rfl : x7 = zx7 := ex7.trans ezx7.symm
      refine lv_aload_n hx hb dX9_sides_41 rfl (lv_at hl 0 rfl) ?_
      refine lv_aload_n hx hb dX9_sides_42 rfl (lv_at hl 0 rfl) ?_
      refine lv_iload_n hx hb dX9_sides_43 rfl (lv_at hl 1 rfl) ?_
      refine lv_iconst (v := (-1 : Int32)) hx hb dX9_sides_44 (by decide) ?_
      refine lv_iconst (v := (-1 : Int32)) hx hb dX9_sides_45 (by decide) ?_
      refine lv_iconst (v := (0 : Int32)) hx hb dX9_sides_46 (by decide) ?_
      obtain ⟨y8, hy8, hF⟩ := bnd_some hF
      have hf9 := wA_in hD hA9 hS
      refine va_calli (va_runV (As := [.int p0, .int (-1 : Int32), .int (-1 : Int32), .int (0 : Int32)]) (rest := [.ref (ad a), .int x7]) ⟨hx, hb, hml, hown, hts⟩ (kX9_pieceAt l D ct ad Z G y5.1 H.size a p0 ((-1 : Int32)) ((-1 : Int32)) ((0 : Int32)) y8 hc hk hy8) (cwV 4 hts gX9_sides_X9_pieceAt rfl rfl rfl (by decide +kernel) ⟨Nat.le_of_ble_eq_true rfl, Nat.le_of_ble_eq_true rfl⟩) ⟨fun a U g mk q => by obtain ⟨q0, q1, qP, qK, qD, qZ, qN⟩ := q; exact ⟨q0, q1, qP, va_K.moved (u := U) (U := U.calling g mk a) (Vm.Alike.refl U.vm) qK, qD, sF.moved (u := U) (U := U.calling g mk a) (Vm.Alike.refl U.vm) qZ, nF.same rfl qN⟩, va_recv hK hP (ci := 9) (q0 := a) rfl (wld_o ct ad G y5.1 hc hk (by decide)), fun U hU hW => ⟨rfl, by rw [hU], by rw [hU]; exact hP, va_K.moved hW.alike hK, hD.weaken (fun _ _ _ _ => trivial), by rw [hU]; exact ((hZ.kept hS.2.1).narrow hf9).moved hW.alike, hN.warm hW⟩⟩ rfl rfl hl.1 rfl (lv_room (Nat.le_of_ble_eq_true rfl)) dX9_sides_47 ⟨(Nat.zero_le _), (Nat.zero_le _)⟩) hS (fun q _ h => hf9 q h) hf9 (fun r u t H locs ht hvm hw hB hz1 hk1 hS => ?_)
      obtain ⟨hP, hK9, hD9⟩ := hB
      rw [ht] at hP
      try dsimp only at hw
      subst hw
      have hD := hD9.weaken (fun _ q _ h => hf9 q.1 h)
      obtain ⟨y9, hy9, hF⟩ := bnd_some hF
      have hf9 := wA_in hD hA9 hS
      refine va_calli (va_runV (As := [.int y8.2]) (rest := [.int x7]) ⟨hx, hb, hml, hown, hts⟩ (kX9_mayUse l D ct ad Z G y8.1 H.size a y8.2 y9 hc hk hy9) (cwV 1 hts gX9_sides_X9_mayUse rfl rfl rfl (by decide +kernel) ⟨Nat.le_of_ble_eq_true rfl, Nat.le_of_ble_eq_true rfl⟩) ⟨fun a U g mk q => by obtain ⟨q0, q1, qP, qK, qD, qZ, qN⟩ := q; exact ⟨q0, q1, qP, va_K.moved (u := U) (U := U.calling g mk a) (Vm.Alike.refl U.vm) qK, qD, sF.moved (u := U) (U := U.calling g mk a) (Vm.Alike.refl U.vm) qZ, nF.same rfl qN⟩, va_recv hK hP (ci := 9) (q0 := a) rfl (wld_o ct ad G y8.1 hc hk (by decide)), fun U hU hW => ⟨rfl, by rw [hU], by rw [hU]; exact hP, va_K.moved hW.alike hK, hD.weaken (fun _ _ _ _ => trivial), by rw [hU]; exact ((hZ.kept hS.2.1).narrow hf9).moved hW.alike, hN.warm hW⟩⟩ rfl rfl hl.1 rfl (lv_room (Nat.le_of_ble_eq_true rfl)) dX9_sides_50 ⟨(Nat.zero_le _), (Nat.zero_le _)⟩) hS (fun q _ h => hf9 q h) hf9 (fun r u t H locs ht hvm hw hB hz1 hk1 hS => ?_)
      obtain ⟨hP, hK9, hD9⟩ := hB
      rw [ht] at hP
      try dsimp only at hw
      subst hw
      have hD := hD9.weaken (fun _ q _ h => hf9 q.1 h)
      obtain ⟨y10, hy10, hF⟩ := bnd_some hF
      have J10 : ∀ (H : Heap) (locs : List Loc) (ls : Array Slot), va_P D classes (wld ct ad G y9.1) H → va_D A (wld ct ad G y9.1) → va_S A s.heap H locs → lv_has ls 2 [(0, .ref (ad a)), (1, .int p0)] → W p l e (headSpec wsX9_sides ({ frames := 1, cells := 0, slots := 0, locals := 28 })).room s m ([.ref (ad a), .int p0] : List Value).toArray below meth c H locs 0 0 (MQ below (va_Qi (fun (q : Int32) (_ : Unit) => q = y.2) (fun _ t => kE D ct ad G A y.1 t) A) ([.ref (ad a), .int p0] : List Value).toArray s 0 0 A) (F0 m 61 ls [.int y10, .int x7]) := by
        intro H locs ls hP hD hS hl
        refine lv_ior hx hb dX9_sides_61 ?_
        obtain ⟨x11, ex11, hF⟩ := ltt_some hF
        refine lv_topi (fun zx11 ezx11 => ?_)
        obtain rfl : x11 = zx11 := ex11.trans ezx11.symm
        refine lv_aload_n hx hb dX9_sides_62 rfl (lv_at hl 0 rfl) ?_
        refine lv_aload_n hx hb dX9_sides_63 rfl (lv_at hl 0 rfl) ?_
        refine lv_iload_n hx hb dX9_sides_64 rfl (lv_at hl 1 rfl) ?_
        refine lv_bipush (v := (16 : Int32)) hx hb dX9_sides_65 (by decide) ?_
        refine lv_iconst (v := (-1 : Int32)) hx hb dX9_sides_67 (by decide) ?_
        refine lv_iconst (v := (0 : Int32)) hx hb dX9_sides_68 (by decide) ?_
        obtain ⟨y12, hy12, hF⟩ := bnd_some hF
        have hf9 := wA_in hD hA9 hS
        refine va_calli (va_runV (As := [.int p0, .int (16 : Int32), .int (-1 : Int32), .int (0 : Int32)]) (rest := [.ref (ad a), .int x11]) ⟨hx, hb, hml, hown, hts⟩ (kX9_pieceAt l D ct ad Z G y9.1 H.size a p0 ((16 : Int32)) ((-1 : Int32)) ((0 : Int32)) y12 hc hk hy12) (cwV 4 hts gX9_sides_X9_pieceAt rfl rfl rfl (by decide +kernel) ⟨Nat.le_of_ble_eq_true rfl, Nat.le_of_ble_eq_true rfl⟩) ⟨fun a U g mk q => by obtain ⟨q0, q1, qP, qK, qD, qZ, qN⟩ := q; exact ⟨q0, q1, qP, va_K.moved (u := U) (U := U.calling g mk a) (Vm.Alike.refl U.vm) qK, qD, sF.moved (u := U) (U := U.calling g mk a) (Vm.Alike.refl U.vm) qZ, nF.same rfl qN⟩, va_recv hK hP (ci := 9) (q0 := a) rfl (wld_o ct ad G y9.1 hc hk (by decide)), fun U hU hW => ⟨rfl, by rw [hU], by rw [hU]; exact hP, va_K.moved hW.alike hK, hD.weaken (fun _ _ _ _ => trivial), by rw [hU]; exact ((hZ.kept hS.2.1).narrow hf9).moved hW.alike, hN.warm hW⟩⟩ rfl rfl hl.1 rfl (lv_room (Nat.le_of_ble_eq_true rfl)) dX9_sides_69 ⟨(Nat.zero_le _), (Nat.zero_le _)⟩) hS (fun q _ h => hf9 q h) hf9 (fun r u t H locs ht hvm hw hB hz1 hk1 hS => ?_)
        obtain ⟨hP, hK9, hD9⟩ := hB
        rw [ht] at hP
        try dsimp only at hw
        subst hw
        have hD := hD9.weaken (fun _ q _ h => hf9 q.1 h)
        obtain ⟨y13, hy13, hF⟩ := bnd_some hF
        have hf9 := wA_in hD hA9 hS
        refine va_calli (va_runV (As := [.int y12.2]) (rest := [.int x11]) ⟨hx, hb, hml, hown, hts⟩ (kX9_mayUse l D ct ad Z G y12.1 H.size a y12.2 y13 hc hk hy13) (cwV 1 hts gX9_sides_X9_mayUse rfl rfl rfl (by decide +kernel) ⟨Nat.le_of_ble_eq_true rfl, Nat.le_of_ble_eq_true rfl⟩) ⟨fun a U g mk q => by obtain ⟨q0, q1, qP, qK, qD, qZ, qN⟩ := q; exact ⟨q0, q1, qP, va_K.moved (u := U) (U := U.calling g mk a) (Vm.Alike.refl U.vm) qK, qD, sF.moved (u := U) (U := U.calling g mk a) (Vm.Alike.refl U.vm) qZ, nF.same rfl qN⟩, va_recv hK hP (ci := 9) (q0 := a) rfl (wld_o ct ad G y12.1 hc hk (by decide)), fun U hU hW => ⟨rfl, by rw [hU], by rw [hU]; exact hP, va_K.moved hW.alike hK, hD.weaken (fun _ _ _ _ => trivial), by rw [hU]; exact ((hZ.kept hS.2.1).narrow hf9).moved hW.alike, hN.warm hW⟩⟩ rfl rfl hl.1 rfl (lv_room (Nat.le_of_ble_eq_true rfl)) dX9_sides_72 ⟨(Nat.zero_le _), (Nat.zero_le _)⟩) hS (fun q _ h => hf9 q h) hf9 (fun r u t H locs ht hvm hw hB hz1 hk1 hS => ?_)
        obtain ⟨hP, hK9, hD9⟩ := hB
        rw [ht] at hP
        try dsimp only at hw
        subst hw
        have hD := hD9.weaken (fun _ q _ h => hf9 q.1 h)
        obtain ⟨y14, hy14, hF⟩ := bnd_some hF
        have J14 : ∀ (H : Heap) (locs : List Loc) (ls : Array Slot), va_P D classes (wld ct ad G y13.1) H → va_D A (wld ct ad G y13.1) → va_S A s.heap H locs → lv_has ls 2 [(0, .ref (ad a)), (1, .int p0)] → W p l e (headSpec wsX9_sides ({ frames := 1, cells := 0, slots := 0, locals := 28 })).room s m ([.ref (ad a), .int p0] : List Value).toArray below meth c H locs 0 0 (MQ below (va_Qi (fun (q : Int32) (_ : Unit) => q = y.2) (fun _ t => kE D ct ad G A y.1 t) A) ([.ref (ad a), .int p0] : List Value).toArray s 0 0 A) (F0 m 84 ls [.int y14, .int x11]) := by
          intro H locs ls hP hD hS hl
          refine lv_ior hx hb dX9_sides_84 ?_
          obtain ⟨x15, ex15, hF⟩ := ltt_some hF
          refine lv_topi (fun zx15 ezx15 => ?_)
          obtain rfl : x15 = zx15 := ex15.trans ezx15.symm
          obtain rfl := Option.some.inj hF
          exact W.iret (v := x15) hx hb hr (fun t ht hW => ⟨⟨_, (), rfl, rfl, ⟨by rw [ht]; exact hP, va_K.moved hW.alike hK, hD⟩⟩, hS.F ht⟩) hS.2.2 dX9_sides_85
        clear hF
        have hF := hy14
        clear hy14
        refine lv_if_eq (tgt := 83) hx hb dX9_sides_75 (by decide) (fun c16 => ?_) (fun c16 => ?_)
        · rw [if_pos c16] at hF
          refine lv_iconst (v := (0 : Int32)) hx hb dX9_sides_83 (by decide) ?_
          obtain rfl := Option.some.inj hF
          exact J14 _ _ _ hP hD hS (lv_sub hl [0, 1] rfl)
        · rw [if_neg c16] at hF
          refine lv_bipush (v := (8 : Int32)) hx hb dX9_sides_78 (by decide) ?_
          refine lv_goto (tgt := 84) hx hb dX9_sides_80 (by decide) ?_
          obtain rfl := Option.some.inj hF
          exact J14 _ _ _ hP hD hS (lv_sub hl [0, 1] rfl)
      clear hF
      have hF := hy10
      clear hy10
      refine lv_if_eq (tgt := 60) hx hb dX9_sides_53 (by decide) (fun c17 => ?_) (fun c17 => ?_)
      · rw [if_pos c17] at hF
        refine lv_iconst (v := (0 : Int32)) hx hb dX9_sides_60 (by decide) ?_
        obtain rfl := Option.some.inj hF
        exact J10 _ _ _ hP hD hS (lv_sub hl [0, 1] rfl)
      · rw [if_neg c17] at hF
        refine lv_iconst (v := (4 : Int32)) hx hb dX9_sides_56 (by decide) ?_
        refine lv_goto (tgt := 61) hx hb dX9_sides_57 (by decide) ?_
        obtain rfl := Option.some.inj hF
        exact J10 _ _ _ hP hD hS (lv_sub hl [0, 1] rfl)
    clear hF
    have hF := hy6
    clear hy6
    refine lv_if_eq (tgt := 39) hx hb dX9_sides_32 (by decide) (fun c18 => ?_) (fun c18 => ?_)
    · rw [if_pos c18] at hF
      refine lv_iconst (v := (0 : Int32)) hx hb dX9_sides_39 (by decide) ?_
      obtain rfl := Option.some.inj hF
      exact J6 _ _ _ hP hD hS (lv_sub hl [0, 1] rfl)
    · rw [if_neg c18] at hF
      refine lv_iconst (v := (2 : Int32)) hx hb dX9_sides_35 (by decide) ?_
      refine lv_goto (tgt := 40) hx hb dX9_sides_36 (by decide) ?_
      obtain rfl := Option.some.inj hF
      exact J6 _ _ _ hP hD hS (lv_sub hl [0, 1] rfl)
  clear hF
  have hF := hy3
  clear hy3
  refine lv_if_eq (tgt := 19) hx hb dX9_sides_12 (by decide) (fun c19 => ?_) (fun c19 => ?_)
  · rw [if_pos c19] at hF
    refine lv_iconst (v := (0 : Int32)) hx hb dX9_sides_19 (by decide) ?_
    obtain rfl := Option.some.inj hF
    exact J3 _ _ _ hP hD hS (lv_sub hl [0, 1] rfl)
  · rw [if_neg c19] at hF
    refine lv_iconst (v := (1 : Int32)) hx hb dX9_sides_15 (by decide) ?_
    refine lv_goto (tgt := 20) hx hb dX9_sides_16 (by decide) ?_
    obtain rfl := Option.some.inj hF
    exact J3 _ _ _ hP hD hS (lv_sub hl [0, 1] rfl)
