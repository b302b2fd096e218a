theorem dX9_referenceAt_0 : decode cX9_referenceAt 0 = .ok (.iload_n 2, 1) := by decide +kernel
theorem dX9_referenceAt_1 : decode cX9_referenceAt 1 = .ok (.ifCond .ge 7, 3) := by decide +kernel
theorem dX9_referenceAt_4 : decode cX9_referenceAt 4 = .ok (.iconst (-1), 1) := by decide +kernel
theorem dX9_referenceAt_5 : decode cX9_referenceAt 5 = .ok (.goto 18, 3) := by decide +kernel
theorem dX9_referenceAt_8 : decode cX9_referenceAt 8 = .ok (.aload_n 0, 1) := by decide +kernel
theorem dX9_referenceAt_9 : decode cX9_referenceAt 9 = .ok (.getfield 51, 3) := by decide +kernel
theorem dX9_referenceAt_12 : decode cX9_referenceAt 12 = .ok (.getfield 83, 3) := by decide +kernel
theorem dX9_referenceAt_15 : decode cX9_referenceAt 15 = .ok (.sipush 512, 3) := by decide +kernel
theorem dX9_referenceAt_18 : decode cX9_referenceAt 18 = .ok (.iload_n 1, 1) := by decide +kernel
theorem dX9_referenceAt_19 : decode cX9_referenceAt 19 = .ok (.imul, 1) := by decide +kernel
theorem dX9_referenceAt_20 : decode cX9_referenceAt 20 = .ok (.iload_n 2, 1) := by decide +kernel
theorem dX9_referenceAt_21 : decode cX9_referenceAt 21 = .ok (.iadd, 1) := by decide +kernel
theorem dX9_referenceAt_22 : decode cX9_referenceAt 22 = .ok (.iaload, 1) := by decide +kernel
theorem dX9_referenceAt_23 : decode cX9_referenceAt 23 = .ok (.ireturn, 1) := by decide +kernel
def FX9_referenceAt (G : GG) (M : DD) (a : Nat) (p0 : Int32) (p1 : Int32) : Option (DD × Int32) :=
  bnd (if ((0 : Int32)) ≤ p1 then (dr G 4 ((M.2 a 0)) fun b3 =>
  ltt ((((512 : Int32)) * p0)) fun x4 =>
  ltt ((x4 + p1)) fun x5 =>
  dr G 13 ((M.2 b3 5)) fun b6 =>
  chk (¬ (x5 < 0 ∨ G.2.2 b6 ≤ x5.toNatClampNeg)) <|
  ltt (M.1 b6 x5.toNatClampNeg) fun x7 =>
  some (x7)) else
  (some ((-1 : Int32)))) fun (y1 : Int32) =>
  some (M, y1)
set_option maxHeartbeats 4000000 in
set_option maxRecDepth 100000 in
theorem kX9_referenceAt (l : Launch) (D : va_G) (ct : CT) (ad : Nat → Nat) (Z : Nat → Nat) (G : GG) (M : DD) (sz : Nat) (a : Nat) (p0 : Int32) (p1 : Int32) (y : DD × Int32) (hc : a < G.1) (hk : G.2.1 a = 9) (hF : FX9_referenceAt G M a p0 p1 = some y) : Met l yX9_referenceAt wuX9_referenceAt ({ frames := 0, cells := 0, slots := 0, locals := 0 }) (va_Pc [.ref (ad a), .int p0, .int p1] (kB D ct ad Z G M sz)) (va_Qi (fun (q : Int32) (_ : Unit) => q = y.2) (fun _ t => kE D ct ad G (wA ad G sz) y.1 t) (wA ad G sz)) 0 0 (wA ad G sz) := by
  refine Met.ofW (cc := cX9_referenceAt) (maxL := 3) (ret := (some .int)) (by decide) rfl ?_
  intro p e s m args below meth c s₁ B hml hv
  obtain ⟨rfl, hsz, hP, hK, hD0, hZ, hN⟩ := hv
  have hx := B.exec
  have hb := B.bytes
  have hr := B.returns
  have hts := atoms_spec (ws := wuX9_referenceAt) B.pre
  have hown : s.vm.findClass RX9 = some m.cls := findClass_of_methodNamed B.named
  have hlocks := B.notSynchronized
  subst hsz
  have hD := wD_self (sz := s.heap.size) hD0
  have hA9 : ∀ q, s.heap.size ≤ q → wA ad G s.heap.size q := fun q h => Or.inr h
  generalize hAe : wA ad G s.heap.size = A at hD hA9 hZ ⊢
  have hS : va_S A s.heap s.heap [] := va_S.rf
  have hl := lv_entry ([.ref (ad a), .int p0, .int p1]) (n := 3) (Nat.le_of_ble_eq_true rfl)
  rw [lg_entry_eq]
  generalize (lg_sl ([.ref (ad a), .int p0, .int p1]) ++ List.replicate (3 - (lg_sl ([.ref (ad a), .int p0, .int p1])).length) Slot.unset).toArray = ls at hl ⊢
  have hl : lv_has ls 3 [(0, .ref (ad a)), (1, .int p0), (2, .int p1)] := hl
  unfold FX9_referenceAt at hF
  refine lv_iload_n hx hb dX9_referenceAt_0 rfl (lv_at hl 2 rfl) ?_
  obtain ⟨y1, hy1, hF⟩ := bnd_some hF
  have J1 : ∀ (H : Heap) (locs : List Loc) (ls : Array Slot), va_P D classes (wld ct ad G M) H → va_D A (wld ct ad G M) → va_S A s.heap H locs → lv_has ls 3 [(0, .ref (ad a)), (1, .int p0), (2, .int p1)] → W p l e (headSpec wuX9_referenceAt ({ frames := 0, cells := 0, slots := 0, locals := 0 })).room s m ([.ref (ad a), .int p0, .int p1] : List Value).toArray below meth c H locs 0 0 (MQ below (va_Qi (fun (q : Int32) (_ : Unit) => q = y.2) (fun _ t => kE D ct ad G A y.1 t) A) ([.ref (ad a), .int p0, .int p1] : List Value).toArray s 0 0 A) (F0 m 23 ls [.int y1]) := by
    intro H locs ls hP hD hS hl
    obtain rfl := Option.some.inj hF
    exact W.iret (v := y1) hx hb hr (fun t ht hW => ⟨⟨_, (), rfl, rfl, ⟨by rw [ht]; exact hP, va_K.moved hW.alike hK, hD⟩⟩, hS.F ht⟩) hS.2.2 dX9_referenceAt_23
  clear hF
  have hF := hy1
  clear hy1
  refine lv_if_ge (tgt := 8) hx hb dX9_referenceAt_1 (by decide) (fun c2 => ?_) (fun c2 => ?_)
  · rw [if_pos c2] at hF
    refine lv_aload_n hx hb dX9_referenceAt_8 rfl (lv_at hl 0 rfl) ?_
    refine va_get (D := D) (ci := 9) (v := va_re ad (M.2 a 0)) (C := RX9) (T := TX9) (N := 20) hx hb hts (mus hf_X9) hown hK hP a (wld_o ct ad G M hc hk (by decide)) rfl 0 (by decide) (hts (.fieldLink RX9 51 "VideoSuite$Work" "pic" "LVideoSuite$Picture;") (mu mw_422)) (fun _ h9 => h9) rfl dX9_referenceAt_9 ?_
    obtain ⟨b3, ho3, hc3, hk3, hF⟩ := dr_some hF
    refine W_st (st' := [.ref (ad b3)]) (by rw [va_some ho3]) ?_
    refine va_get (D := D) (ci := 4) (v := va_re ad (M.2 b3 5)) (C := RX4) (T := TX4) (N := 18) hx hb hts (mus hf_X4) hown hK hP b3 (wld_o ct ad G M hc3 hk3 (by decide)) rfl 5 (by decide) (hts (.fieldLink RX9 83 "VideoSuite$Picture" "reference" "[I") (mu mw_1439)) (fun _ h9 => h9) rfl dX9_referenceAt_12 ?_
    refine lv_sipush (v := (512 : Int32)) hx hb dX9_referenceAt_15 (by decide) ?_
    refine lv_iload_n hx hb dX9_referenceAt_18 rfl (lv_at hl 1 rfl) ?_
    refine lv_imul hx hb dX9_referenceAt_19 ?_
    obtain ⟨x4, ex4, hF⟩ := ltt_some hF
    refine lv_topi (fun zx4 ezx4 => ?_)
    obtain rfl : x4 = zx4 := ex4.trans ezx4.symm
    refine lv_iload_n hx hb dX9_referenceAt_20 rfl (lv_at hl 2 rfl) ?_
    refine lv_iadd hx hb dX9_referenceAt_21 ?_
    obtain ⟨x5, ex5, hF⟩ := ltt_some hF
    refine lv_topi (fun zx5 ezx5 => ?_)
    obtain rfl : x5 = zx5 := ex5.trans ezx5.symm
    obtain ⟨b6, ho6, hc6, hk6, hF⟩ := dr_some hF
    refine W_st (st' := [.int x5, .ref (ad b6)]) (by rw [va_some ho6]) ?_
    obtain ⟨hvc, hF⟩ := chk_some hF
    refine va_iald hx hb hK hP b6 1 (wld_i ct ad G M hc6 hk6) rfl hvc dX9_referenceAt_22 ?_
    obtain ⟨x7, ex7, hF⟩ := ltt_some hF
    refine lv_topi (fun zx7 ezx7 => ?_)
    obtain rfl : x7 = zx7 := ex7.trans ezx7.symm
    obtain rfl := Option.some.inj hF
    exact J1 _ _ _ hP hD hS (lv_sub hl [0, 1, 2] rfl)
  · rw [if_neg c2] at hF
    refine lv_iconst (v := (-1 : Int32)) hx hb dX9_referenceAt_4 (by decide) ?_
    refine lv_goto (tgt := 23) hx hb dX9_referenceAt_5 (by decide) ?_
    obtain rfl := Option.some.inj hF
    exact J1 _ _ _ hP hD hS (lv_sub hl [0, 1, 2] rfl)
theorem dX9_scaleBy_0 : decode cX9_scaleBy 0 = .ok (.iload_n 1, 1) := by decide +kernel
theorem dX9_scaleBy_1 : decode cX9_scaleBy 1 = .ok (.ifCond .ne 7, 3) := by decide +kernel
theorem dX9_scaleBy_4 : decode cX9_scaleBy 4 = .ok (.iconst 0, 1) := by decide +kernel
theorem dX9_scaleBy_5 : decode cX9_scaleBy 5 = .ok (.goto 15, 3) := by decide +kernel
theorem dX9_scaleBy_8 : decode cX9_scaleBy 8 = .ok (.sipush 16384, 3) := by decide +kernel
theorem dX9_scaleBy_11 : decode cX9_scaleBy 11 = .ok (.iload_n 1, 1) := by decide +kernel
theorem dX9_scaleBy_12 : decode cX9_scaleBy 12 = .ok (.iconst 2, 1) := by decide +kernel
theorem dX9_scaleBy_13 : decode cX9_scaleBy 13 = .ok (.idiv, 1) := by decide +kernel
theorem dX9_scaleBy_14 : decode cX9_scaleBy 14 = .ok (.invokestatic 228, 3) := by decide +kernel
theorem dX9_scaleBy_17 : decode cX9_scaleBy 17 = .ok (.iadd, 1) := by decide +kernel
theorem dX9_scaleBy_18 : decode cX9_scaleBy 18 = .ok (.iload_n 1, 1) := by decide +kernel
theorem dX9_scaleBy_19 : decode cX9_scaleBy 19 = .ok (.idiv, 1) := by decide +kernel
theorem dX9_scaleBy_20 : decode cX9_scaleBy 20 = .ok (.istore_n 2, 1) := by decide +kernel
theorem dX9_scaleBy_21 : decode cX9_scaleBy 21 = .ok (.iload_n 0, 1) := by decide +kernel
theorem dX9_scaleBy_22 : decode cX9_scaleBy 22 = .ok (.iload_n 2, 1) := by decide +kernel
theorem dX9_scaleBy_23 : decode cX9_scaleBy 23 = .ok (.imul, 1) := by decide +kernel
theorem dX9_scaleBy_24 : decode cX9_scaleBy 24 = .ok (.bipush 32, 2) := by decide +kernel
theorem dX9_scaleBy_26 : decode cX9_scaleBy 26 = .ok (.iadd, 1) := by decide +kernel
theorem dX9_scaleBy_27 : decode cX9_scaleBy 27 = .ok (.bipush 6, 2) := by decide +kernel
theorem dX9_scaleBy_29 : decode cX9_scaleBy 29 = .ok (.ishr, 1) := by decide +kernel
theorem dX9_scaleBy_30 : decode cX9_scaleBy 30 = .ok (.istore_n 3, 1) := by decide +kernel
theorem dX9_scaleBy_31 : decode cX9_scaleBy 31 = .ok (.iload_n 3, 1) := by decide +kernel
theorem dX9_scaleBy_32 : decode cX9_scaleBy 32 = .ok (.sipush (-1024), 3) := by decide +kernel
theorem dX9_scaleBy_35 : decode cX9_scaleBy 35 = .ok (.if_icmp .ge 9, 3) := by decide +kernel
theorem dX9_scaleBy_38 : decode cX9_scaleBy 38 = .ok (.sipush (-1024), 3) := by decide +kernel
theorem dX9_scaleBy_41 : decode cX9_scaleBy 41 = .ok (.goto 17, 3) := by decide +kernel
theorem dX9_scaleBy_44 : decode cX9_scaleBy 44 = .ok (.iload_n 3, 1) := by decide +kernel
theorem dX9_scaleBy_45 : decode cX9_scaleBy 45 = .ok (.sipush 1023, 3) := by decide +kernel
theorem dX9_scaleBy_48 : decode cX9_scaleBy 48 = .ok (.if_icmp .le 9, 3) := by decide +kernel
theorem dX9_scaleBy_51 : decode cX9_scaleBy 51 = .ok (.sipush 1023, 3) := by decide +kernel
theorem dX9_scaleBy_54 : decode cX9_scaleBy 54 = .ok (.goto 4, 3) := by decide +kernel
theorem dX9_scaleBy_57 : decode cX9_scaleBy 57 = .ok (.iload_n 3, 1) := by decide +kernel
theorem dX9_scaleBy_58 : decode cX9_scaleBy 58 = .ok (.ireturn, 1) := by decide +kernel
def FX9_scaleBy (G : GG) (M : DD) (p0 : Int32) (p1 : Int32) : Option (DD × Int32) :=
  bnd (if p1 = ((0 : Int32)) then (some ((0 : Int32), M)) else
  (ltt (p1 / ((2 : Int32))) fun x10 =>
  ltt (if (0 : Int32) ≤ x10 then x10 else 0 - x10) fun x11 =>
  ltt ((((16384 : Int32)) + x11)) fun x12 =>
  chk (¬ p1 = 0) <|
  ltt (x12 / p1) fun x13 =>
  some (x13, M))) fun (y1 : Int32 × DD) =>
  ltt ((p0 * y1.1)) fun x2 =>
  ltt ((x2 + ((32 : Int32)))) fun x3 =>
  ltt ((x3 >>> (((6 : Int32)) &&& 31))) fun x4 =>
  bnd (if ((-1024 : Int32)) ≤ x4 then (bnd (if x4 ≤ ((1023 : Int32)) then (some (x4)) else
  (some ((1023 : Int32)))) fun (y7 : Int32) =>
  some (y7)) else
  (some ((-1024 : Int32)))) fun (y5 : Int32) =>
  some (y1.2, y5)
set_option maxHeartbeats 4000000 in
set_option maxRecDepth 100000 in
theorem kX9_scaleBy (l : Launch) (D : va_G) (ct : CT) (ad : Nat → Nat) (Z : Nat → Nat) (G : GG) (M : DD) (sz : Nat) (p0 : Int32) (p1 : Int32) (y : DD × Int32) (hF : FX9_scaleBy G M p0 p1 = some y) : Met l yX9_scaleBy wuX9_scaleBy ({ frames := 1, cells := 0, slots := 0, locals := 21 }) (va_Pc [.int p0, .int p1] (kB D ct ad Z G M sz)) (va_Qi (fun (q : Int32) (_ : Unit) => q = y.2) (fun _ t => kE D ct ad G (wA ad G sz) y.1 t) (wA ad G sz)) 0 0 (wA ad G sz) := by
  refine Met.ofW (cc := cX9_scaleBy) (maxL := 4) (ret := (some .int)) (by decide) rfl ?_
  intro p e s m args below meth c s₁ B hml hv
  obtain ⟨rfl, hsz, hP, hK, hD0, hZ, hN⟩ := hv
  have hx := B.exec
  have hb := B.bytes
  have hr := B.returns
  have hts := atoms_spec (ws := wuX9_scaleBy) B.pre
  have hown : s.vm.findClass RX9 = some m.cls := findClass_of_methodNamed B.named
  have hlocks := B.notSynchronized
  subst hsz
  have hD := wD_self (sz := s.heap.size) hD0
  have hA9 : ∀ q, s.heap.size ≤ q → wA ad G s.heap.size q := fun q h => Or.inr h
  generalize hAe : wA ad G s.heap.size = A at hD hA9 hZ ⊢
  have hS : va_S A s.heap s.heap [] := va_S.rf
  have hl := lv_entry ([.int p0, .int p1]) (n := 4) (Nat.le_of_ble_eq_true rfl)
  rw [lg_entry_eq]
  generalize (lg_sl ([.int p0, .int p1]) ++ List.replicate (4 - (lg_sl ([.int p0, .int p1])).length) Slot.unset).toArray = ls at hl ⊢
  have hl : lv_has ls 4 [(0, .int p0), (1, .int p1)] := hl
  unfold FX9_scaleBy at hF
  refine lv_iload_n hx hb dX9_scaleBy_0 rfl (lv_at hl 1 rfl) ?_
  obtain ⟨y1, hy1, hF⟩ := bnd_some hF
  have J1 : ∀ (H : Heap) (locs : List Loc) (ls : Array Slot), va_P D classes (wld ct ad G y1.2) H → va_D A (wld ct ad G y1.2) → va_S A s.heap H locs → lv_has ls 4 [(0, .int p0), (1, .int p1)] → W p l e (headSpec wuX9_scaleBy ({ frames := 1, cells := 0, slots := 0, locals := 21 })).room s m ([.int p0, .int p1] : List Value).toArray below meth c H locs 0 0 (MQ below (va_Qi (fun (q : Int32) (_ : Unit) => q = y.2) (fun _ t => kE D ct ad G A y.1 t) A) ([.int p0, .int p1] : List Value).toArray s 0 0 A) (F0 m 20 ls [.int y1.1]) := by
    intro H locs ls hP hD hS hl
    refine lv_istore_n (lv' := [(2, .int y1.1), (0, .int p0), (1, .int p1)]) hx hb dX9_scaleBy_20 rfl hl (by decide) rfl (fun ls hl => ?_)
    refine lv_iload_n hx hb dX9_scaleBy_21 rfl (lv_at hl 1 rfl) ?_
    refine lv_iload_n hx hb dX9_scaleBy_22 rfl (lv_at hl 0 rfl) ?_
    refine lv_imul hx hb dX9_scaleBy_23 ?_
    obtain ⟨x2, ex2, hF⟩ := ltt_some hF
    refine lv_topi (fun zx2 ezx2 => ?_)
    obtain rfl : x2 = zx2 := ex2.trans ezx2.symm
    refine lv_bipush (v := (32 : Int32)) hx hb dX9_scaleBy_24 (by decide) ?_
    refine lv_iadd hx hb dX9_scaleBy_26 ?_
    obtain ⟨x3, ex3, hF⟩ := ltt_some hF
    refine lv_topi (fun zx3 ezx3 => ?_)
    obtain rfl : x3 = zx3 := ex3.trans ezx3.symm
    refine lv_bipush (v := (6 : Int32)) hx hb dX9_scaleBy_27 (by decide) ?_
    refine lv_ishr hx hb dX9_scaleBy_29 ?_
    obtain ⟨x4, ex4, hF⟩ := ltt_some hF
    refine lv_topi (fun zx4 ezx4 => ?_)
    obtain rfl : x4 = zx4 := ex4.trans ezx4.symm
    refine lv_istore_n (lv' := [(3, .int x4), (2, .int y1.1), (0, .int p0), (1, .int p1)]) hx hb dX9_scaleBy_30 rfl hl (by decide) rfl (fun ls hl => ?_)
    refine lv_iload_n hx hb dX9_scaleBy_31 rfl (lv_at hl 0 rfl) ?_
    refine lv_sipush (v := (-1024 : Int32)) hx hb dX9_scaleBy_32 (by decide) ?_
    obtain ⟨y5, hy5, hF⟩ := bnd_some hF
    have J5 : ∀ (H : Heap) (locs : List Loc) (ls : Array Slot), va_P D classes (wld ct ad G y1.2) H → va_D A (wld ct ad G y1.2) → va_S A s.heap H locs → lv_has ls 4 [(3, .int x4), (2, .int y1.1), (0, .int p0), (1, .int p1)] → W p l e (headSpec wuX9_scaleBy ({ frames := 1, cells := 0, slots := 0, locals := 21 })).room s m ([.int p0, .int p1] : List Value).toArray below meth c H locs 0 0 (MQ below (va_Qi (fun (q : Int32) (_ : Unit) => q = y.2) (fun _ t => kE D ct ad G A y.1 t) A) ([.int p0, .int p1] : List Value).toArray s 0 0 A) (F0 m 58 ls [.int y5]) := by
      intro H locs ls hP hD hS hl
      obtain rfl := Option.some.inj hF
      exact W.iret (v := y5) hx hb hr (fun t ht hW => ⟨⟨_, (), rfl, rfl, ⟨by rw [ht]; exact hP, va_K.moved hW.alike hK, hD⟩⟩, hS.F ht⟩) hS.2.2 dX9_scaleBy_58
    clear hF
    have hF := hy5
    clear hy5
    refine lv_icmp_ge (tgt := 44) hx hb dX9_scaleBy_35 (by decide) (fun c6 => ?_) (fun c6 => ?_)
    · rw [if_pos c6] at hF
      refine lv_iload_n hx hb dX9_scaleBy_44 rfl (lv_at hl 0 rfl) ?_
      refine lv_sipush (v := (1023 : Int32)) hx hb dX9_scaleBy_45 (by decide) ?_
      obtain ⟨y7, hy7, hF⟩ := bnd_some hF
      have J7 : ∀ (H : Heap) (locs : List Loc) (ls : Array Slot), va_P D classes (wld ct ad G y1.2) H → va_D A (wld ct ad G y1.2) → va_S A s.heap H locs → lv_has ls 4 [(3, .int x4), (2, .int y1.1), (0, .int p0), (1, .int p1)] → W p l e (headSpec wuX9_scaleBy ({ frames := 1, cells := 0, slots := 0, locals := 21 })).room s m ([.int p0, .int p1] : List Value).toArray below meth c H locs 0 0 (MQ below (va_Qi (fun (q : Int32) (_ : Unit) => q = y.2) (fun _ t => kE D ct ad G A y.1 t) A) ([.int p0, .int p1] : List Value).toArray s 0 0 A) (F0 m 58 ls [.int y7]) := by
        intro H locs ls hP hD hS hl
        obtain rfl := Option.some.inj hF
        exact J5 _ _ _ hP hD hS (lv_sub hl [0, 1, 2, 3] rfl)
      clear hF
      have hF := hy7
      clear hy7
      refine lv_icmp_le (tgt := 57) hx hb dX9_scaleBy_48 (by decide) (fun c8 => ?_) (fun c8 => ?_)
      · rw [if_pos c8] at hF
        refine lv_iload_n hx hb dX9_scaleBy_57 rfl (lv_at hl 0 rfl) ?_
        obtain rfl := Option.some.inj hF
        exact J7 _ _ _ hP hD hS (lv_sub hl [0, 1, 2, 3] rfl)
      · rw [if_neg c8] at hF
        refine lv_sipush (v := (1023 : Int32)) hx hb dX9_scaleBy_51 (by decide) ?_
        refine lv_goto (tgt := 58) hx hb dX9_scaleBy_54 (by decide) ?_
        obtain rfl := Option.some.inj hF
        exact J7 _ _ _ hP hD hS (lv_sub hl [0, 1, 2, 3] rfl)
    · rw [if_neg c6] at hF
      refine lv_sipush (v := (-1024 : Int32)) hx hb dX9_scaleBy_38 (by decide) ?_
      refine lv_goto (tgt := 58) hx hb dX9_scaleBy_41 (by decide) ?_
      obtain rfl := Option.some.inj hF
      exact J5 _ _ _ hP hD hS (lv_sub hl [0, 1, 2, 3] rfl)
  clear hF
  have hF := hy1
  clear hy1
  refine lv_if_ne (tgt := 8) hx hb dX9_scaleBy_1 (by decide) (fun c9 => ?_) (fun c9 => ?_)
  · rw [if_neg c9] at hF
    refine lv_sipush (v := (16384 : Int32)) hx hb dX9_scaleBy_8 (by decide) ?_
    refine lv_iload_n hx hb dX9_scaleBy_11 rfl (lv_at hl 1 rfl) ?_
    refine lv_iconst (v := (2 : Int32)) hx hb dX9_scaleBy_12 (by decide) ?_
    refine lv_idiv hx hb dX9_scaleBy_13 (by decide) ?_
    obtain ⟨x10, ex10, hF⟩ := ltt_some hF
    refine lv_topi (fun zx10 ezx10 => ?_)
    obtain rfl : x10 = zx10 := ex10.trans ezx10.symm
    refine va_mabs hx hb (hml.trans hl.1.symm) hown (hts (.methodLink RX9 228 Lib.Math.abs.name) (mu mw_1897)) (hts (.static Lib.Math.abs.name) (mu mw_990)) (hts (.initialized "java/lang/Math") (mu mw_183)) (hts (.code Lib.Math.abs.name Lib.Math.abs.code 1 (some .int)) (mu mw_991)) (Nat.le_of_ble_eq_true rfl) (Nat.le_of_ble_eq_true rfl) (Nat.zero_le _) (Nat.zero_le _) dX9_scaleBy_14 ?_
    obtain ⟨x11, ex11, hF⟩ := ltt_some hF
    refine lv_topi (fun zx11 ezx11 => ?_)
    obtain rfl : x11 = zx11 := ex11.trans ezx11.symm
    refine lv_iadd hx hb dX9_scaleBy_17 ?_
    obtain ⟨x12, ex12, hF⟩ := ltt_some hF
    refine lv_topi (fun zx12 ezx12 => ?_)
    obtain rfl : x12 = zx12 := ex12.trans ezx12.symm
    refine lv_iload_n hx hb dX9_scaleBy_18 rfl (lv_at hl 1 rfl) ?_
    obtain ⟨hne, hF⟩ := chk_some hF
    refine lv_idiv hx hb dX9_scaleBy_19 hne ?_
    obtain ⟨x13, ex13, hF⟩ := ltt_some hF
    refine lv_topi (fun zx13 ezx13 => ?_)
    obtain rfl : x13 = zx13 := ex13.trans ezx13.symm
    obtain rfl := Option.some.inj hF
    exact J1 _ _ _ hP hD hS (lv_sub hl [0, 1] rfl)
  · rw [if_pos c9] at hF
    refine lv_iconst (v := (0 : Int32)) hx hb dX9_scaleBy_4 (by decide) ?_
    refine lv_goto (tgt := 20) hx hb dX9_scaleBy_5 (by decide) ?_
    obtain rfl := Option.some.inj hF
    exact J1 _ _ _ hP hD hS (lv_sub hl [0, 1] rfl)
set_option maxRecDepth 20000 in
theorem gX9_setMove_X9_pieceX : GoodIn wuX9_setMove (va_wsS RX9 122 yX9_pieceX wuX9_pieceX) := gu_S mw_1918 mw_949 mw_171 mw_950
set_option maxRecDepth 20000 in
set_option maxRecDepth 20000 in
theorem gX9_setMove_X9_pieceY : GoodIn wuX9_setMove (va_wsS RX9 126 yX9_pieceY wuX9_pieceY) := gu_S mw_1919 mw_952 mw_171 mw_953
set_option maxRecDepth 20000 in
set_option maxRecDepth 20000 in
theorem gX9_setMove_X4_at : GoodIn wuX9_setMove (va_wsS RX9 80 yX4_at wuX4_at) := gu_S mw_1795 mw_1796 mw_185 mw_1797
theorem dX9_setMove_0 : decode cX9_setMove 0 = .ok (.aload_n 0, 1) := by decide +kernel
theorem dX9_setMove_1 : decode cX9_setMove 1 = .ok (.getfield 42, 3) := by decide +kernel
theorem dX9_setMove_4 : decode cX9_setMove 4 = .ok (.iconst 5, 1) := by decide +kernel
theorem dX9_setMove_5 : decode cX9_setMove 5 = .ok (.iload_n 3, 1) := by decide +kernel
theorem dX9_setMove_6 : decode cX9_setMove 6 = .ok (.imul, 1) := by decide +kernel
theorem dX9_setMove_7 : decode cX9_setMove 7 = .ok (.iaload, 1) := by decide +kernel
theorem dX9_setMove_8 : decode cX9_setMove 8 = .ok (.invokestatic 122, 3) := by decide +kernel
theorem dX9_setMove_11 : decode cX9_setMove 11 = .ok (.istore 6, 2) := by decide +kernel
theorem dX9_setMove_13 : decode cX9_setMove 13 = .ok (.aload_n 0, 1) := by decide +kernel
theorem dX9_setMove_14 : decode cX9_setMove 14 = .ok (.getfield 42, 3) := by decide +kernel
theorem dX9_setMove_17 : decode cX9_setMove 17 = .ok (.iconst 5, 1) := by decide +kernel
theorem dX9_setMove_18 : decode cX9_setMove 18 = .ok (.iload_n 3, 1) := by decide +kernel
theorem dX9_setMove_19 : decode cX9_setMove 19 = .ok (.imul, 1) := by decide +kernel
theorem dX9_setMove_20 : decode cX9_setMove 20 = .ok (.iaload, 1) := by decide +kernel
theorem dX9_setMove_21 : decode cX9_setMove 21 = .ok (.invokestatic 126, 3) := by decide +kernel
theorem dX9_setMove_24 : decode cX9_setMove 24 = .ok (.istore 7, 2) := by decide +kernel
theorem dX9_setMove_26 : decode cX9_setMove 26 = .ok (.iconst 0, 1) := by decide +kernel
theorem dX9_setMove_27 : decode cX9_setMove 27 = .ok (.istore 8, 2) := by decide +kernel
theorem dX9_setMove_29 : decode cX9_setMove 29 = .ok (.iload 8, 2) := by decide +kernel
theorem dX9_setMove_31 : decode cX9_setMove 31 = .ok (.bipush 16, 2) := by decide +kernel
theorem dX9_setMove_33 : decode cX9_setMove 33 = .ok (.if_icmp .ge 110, 3) := by decide +kernel
theorem dX9_setMove_36 : decode cX9_setMove 36 = .ok (.iload 8, 2) := by decide +kernel
theorem dX9_setMove_38 : decode cX9_setMove 38 = .ok (.invokestatic 122, 3) := by decide +kernel
theorem dX9_setMove_41 : decode cX9_setMove 41 = .ok (.iload 6, 2) := by decide +kernel
theorem dX9_setMove_43 : decode cX9_setMove 43 = .ok (.isub, 1) := by decide +kernel
theorem dX9_setMove_44 : decode cX9_setMove 44 = .ok (.istore 9, 2) := by decide +kernel
theorem dX9_setMove_46 : decode cX9_setMove 46 = .ok (.iload 8, 2) := by decide +kernel
theorem dX9_setMove_48 : decode cX9_setMove 48 = .ok (.invokestatic 126, 3) := by decide +kernel
theorem dX9_setMove_51 : decode cX9_setMove 51 = .ok (.iload 7, 2) := by decide +kernel
theorem dX9_setMove_53 : decode cX9_setMove 53 = .ok (.isub, 1) := by decide +kernel
theorem dX9_setMove_54 : decode cX9_setMove 54 = .ok (.istore 10, 2) := by decide +kernel
theorem dX9_setMove_56 : decode cX9_setMove 56 = .ok (.iload 9, 2) := by decide +kernel
theorem dX9_setMove_58 : decode cX9_setMove 58 = .ok (.ifCond .lt 79, 3) := by decide +kernel
theorem dX9_setMove_61 : decode cX9_setMove 61 = .ok (.iload 9, 2) := by decide +kernel
theorem dX9_setMove_63 : decode cX9_setMove 63 = .ok (.aload_n 0, 1) := by decide +kernel
theorem dX9_setMove_64 : decode cX9_setMove 64 = .ok (.getfield 42, 3) := by decide +kernel
theorem dX9_setMove_67 : decode cX9_setMove 67 = .ok (.iconst 5, 1) := by decide +kernel
theorem dX9_setMove_68 : decode cX9_setMove 68 = .ok (.iload_n 3, 1) := by decide +kernel
theorem dX9_setMove_69 : decode cX9_setMove 69 = .ok (.imul, 1) := by decide +kernel
theorem dX9_setMove_70 : decode cX9_setMove 70 = .ok (.iconst 1, 1) := by decide +kernel
theorem dX9_setMove_71 : decode cX9_setMove 71 = .ok (.iadd, 1) := by decide +kernel
theorem dX9_setMove_72 : decode cX9_setMove 72 = .ok (.iaload, 1) := by decide +kernel
theorem dX9_setMove_73 : decode cX9_setMove 73 = .ok (.if_icmp .ge 64, 3) := by decide +kernel
theorem dX9_setMove_76 : decode cX9_setMove 76 = .ok (.iload 10, 2) := by decide +kernel
theorem dX9_setMove_78 : decode cX9_setMove 78 = .ok (.ifCond .lt 59, 3) := by decide +kernel
theorem dX9_setMove_81 : decode cX9_setMove 81 = .ok (.iload 10, 2) := by decide +kernel
theorem dX9_setMove_83 : decode cX9_setMove 83 = .ok (.aload_n 0, 1) := by decide +kernel
theorem dX9_setMove_84 : decode cX9_setMove 84 = .ok (.getfield 42, 3) := by decide +kernel
theorem dX9_setMove_87 : decode cX9_setMove 87 = .ok (.iconst 5, 1) := by decide +kernel
theorem dX9_setMove_88 : decode cX9_setMove 88 = .ok (.iload_n 3, 1) := by decide +kernel
theorem dX9_setMove_89 : decode cX9_setMove 89 = .ok (.imul, 1) := by decide +kernel
theorem dX9_setMove_90 : decode cX9_setMove 90 = .ok (.iconst 2, 1) := by decide +kernel
theorem dX9_setMove_91 : decode cX9_setMove 91 = .ok (.iadd, 1) := by decide +kernel
theorem dX9_setMove_92 : decode cX9_setMove 92 = .ok (.iaload, 1) := by decide +kernel
theorem dX9_setMove_93 : decode cX9_setMove 93 = .ok (.if_icmp .ge 44, 3) := by decide +kernel
theorem dX9_setMove_96 : decode cX9_setMove 96 = .ok (.iconst 2, 1) := by decide +kernel
theorem dX9_setMove_97 : decode cX9_setMove 97 = .ok (.iload_n 2, 1) := by decide +kernel
theorem dX9_setMove_98 : decode cX9_setMove 98 = .ok (.bipush 16, 2) := by decide +kernel
theorem dX9_setMove_100 : decode cX9_setMove 100 = .ok (.iload_n 1, 1) := by decide +kernel
theorem dX9_setMove_101 : decode cX9_setMove 101 = .ok (.imul, 1) := by decide +kernel
theorem dX9_setMove_102 : decode cX9_setMove 102 = .ok (.iload 8, 2) := by decide +kernel
theorem dX9_setMove_104 : decode cX9_setMove 104 = .ok (.iadd, 1) := by decide +kernel
theorem dX9_setMove_105 : decode cX9_setMove 105 = .ok (.invokestatic 80, 3) := by decide +kernel
theorem dX9_setMove_108 : decode cX9_setMove 108 = .ok (.imul, 1) := by decide +kernel
theorem dX9_setMove_109 : decode cX9_setMove 109 = .ok (.istore 11, 2) := by decide +kernel
theorem dX9_setMove_111 : decode cX9_setMove 111 = .ok (.aload_n 0, 1) := by decide +kernel
theorem dX9_setMove_112 : decode cX9_setMove 112 = .ok (.getfield 51, 3) := by decide +kernel
theorem dX9_setMove_115 : decode cX9_setMove 115 = .ok (.getfield 89, 3) := by decide +kernel
theorem dX9_setMove_118 : decode cX9_setMove 118 = .ok (.iload 11, 2) := by decide +kernel
theorem dX9_setMove_120 : decode cX9_setMove 120 = .ok (.iload 4, 2) := by decide +kernel
theorem dX9_setMove_122 : decode cX9_setMove 122 = .ok (.iastore, 1) := by decide +kernel
theorem dX9_setMove_123 : decode cX9_setMove 123 = .ok (.aload_n 0, 1) := by decide +kernel
theorem dX9_setMove_124 : decode cX9_setMove 124 = .ok (.getfield 51, 3) := by decide +kernel
theorem dX9_setMove_127 : decode cX9_setMove 127 = .ok (.getfield 89, 3) := by decide +kernel
theorem dX9_setMove_130 : decode cX9_setMove 130 = .ok (.iload 11, 2) := by decide +kernel
theorem dX9_setMove_132 : decode cX9_setMove 132 = .ok (.iconst 1, 1) := by decide +kernel
theorem dX9_setMove_133 : decode cX9_setMove 133 = .ok (.iadd, 1) := by decide +kernel
theorem dX9_setMove_134 : decode cX9_setMove 134 = .ok (.iload 5, 2) := by decide +kernel
theorem dX9_setMove_136 : decode cX9_setMove 136 = .ok (.iastore, 1) := by decide +kernel
theorem dX9_setMove_137 : decode cX9_setMove 137 = .ok (.iinc 8 1, 3) := by decide +kernel
theorem dX9_setMove_140 : decode cX9_setMove 140 = .ok (.goto (-111), 3) := by decide +kernel
theorem dX9_setMove_143 : decode cX9_setMove 143 = .ok (.return_, 1) := by decide +kernel
def FX9_setMove (G : GG) (M : DD) (a : Nat) (p0 : Int32) (p1 : Int32) (p2 : Int32) (p3 : Int32) (p4 : Int32) : Option (DD) :=
  ltt ((((5 : Int32)) * p2)) fun x1 =>
  dr G 13 ((M.2 a 13)) fun b2 =>
  chk (¬ (x1 < 0 ∨ G.2.2 b2 ≤ x1.toNatClampNeg)) <|
  ltt (M.1 b2 x1.toNatClampNeg) fun x3 =>
  bnd (FX9_pieceX G M x3) fun y4 =>
  ltt ((((5 : Int32)) * p2)) fun x5 =>
  dr G 13 ((y4.1.2 a 13)) fun b6 =>
  chk (¬ (x5 < 0 ∨ G.2.2 b6 ≤ x5.toNatClampNeg)) <|
  ltt (y4.1.1 b6 x5.toNatClampNeg) fun x7 =>
  bnd (FX9_pieceY G y4.1 x7) fun y8 =>
  bnd (itr (fun (s10 : Int32 × DD) => ((if ((16 : Int32)) ≤ s10.1 then (some (.inr (s10.1, s10.2))) else
  (bnd (FX9_pieceX G s10.2 s10.1) fun y14 =>
  ltt ((y14.2 - y4.2)) fun x15 =>
  bnd (FX9_pieceY G y14.1 s10.1) fun y16 =>
  ltt ((y16.2 - y8.2)) fun x17 =>
  bnd (if x15 < ((0 : Int32)) then (some (y16.1)) else
  (ltt ((((5 : Int32)) * p2)) fun x21 =>
  ltt ((x21 + ((1 : Int32)))) fun x22 =>
  dr G 13 ((y16.1.2 a 13)) fun b23 =>
  chk (¬ (x22 < 0 ∨ G.2.2 b23 ≤ x22.toNatClampNeg)) <|
  ltt (y16.1.1 b23 x22.toNatClampNeg) fun x24 =>
  bnd (if x24 ≤ x15 then (some (y16.1)) else
  (bnd (if x17 < ((0 : Int32)) then (some (y16.1)) else
  (ltt ((((5 : Int32)) * p2)) fun x29 =>
  ltt ((x29 + ((2 : Int32)))) fun x30 =>
  chk (¬ (x30 < 0 ∨ G.2.2 b23 ≤ x30.toNatClampNeg)) <|
  ltt (y16.1.1 b23 x30.toNatClampNeg) fun x31 =>
  bnd (if x31 ≤ x17 then (some (y16.1)) else
  (ltt ((((16 : Int32)) * p0)) fun x34 =>
  ltt ((x34 + s10.1)) fun x35 =>
  bnd (FX4_at G y16.1 p1 x35) fun y36 =>
  ltt ((((2 : Int32)) * y36.2)) fun x37 =>
  dr G 4 ((y36.1.2 a 0)) fun b38 =>
  dr G 13 ((y36.1.2 b38 7)) fun b39 =>
  chk (¬ (x37 < 0 ∨ G.2.2 b39 ≤ x37.toNatClampNeg)) <|
  ltt (uI y36.1 b39 x37.toNatClampNeg p3) fun M40 =>
  dr G 4 ((M40.2 a 0)) fun b41 =>
  ltt ((x37 + ((1 : Int32)))) fun x42 =>
  dr G 13 ((M40.2 b41 7)) fun b43 =>
  chk (¬ (x42 < 0 ∨ G.2.2 b43 ≤ x42.toNatClampNeg)) <|
  ltt (uI M40 b43 x42.toNatClampNeg p4) fun M44 =>
  some (M44))) fun (y32 : DD) =>
  some (y32))) fun (y27 : DD) =>
  some (y27))) fun (y25 : DD) =>
  some (y25))) fun (y18 : DD) =>
  ltt (s10.1 + (1 : Int32)) fun x19 =>
  some (.inl (x19, y18)))) : Option ((Int32 × DD) ⊕ (Int32 × DD)))) 1000000 ((0 : Int32), y8.1)) fun (y9 : Int32 × DD) =>
  some y9.2
set_option maxHeartbeats 4000000 in
set_option maxRecDepth 100000 in
theorem kX9_setMove (l : Launch) (D : va_G) (ct : CT) (ad : Nat → Nat) (Z : Nat → Nat) (G : GG) (M : DD) (sz : Nat) (a : Nat) (p0 : Int32) (p1 : Int32) (p2 : Int32) (p3 : Int32) (p4 : Int32) (y : DD) (hc : a < G.1) (hk : G.2.1 a = 9) (hF : FX9_setMove G M a p0 p1 p2 p3 p4 = some y) : Met l yX9_setMove wuX9_setMove ({ frames := 1, cells := 0, slots := 0, locals := 21 }) (va_Pc [.ref (ad a), .int p0, .int p1, .int p2, .int p3, .int p4] (kB D ct ad Z G M sz)) (va_Qv (fun (_ : Unit) => True) (fun _ t => kE D ct ad G (wA ad G sz) y t) (wA ad G sz)) 0 0 (wA ad G sz) := by
  refine Met.ofW (cc := cX9_setMove) (maxL := 12) (ret := none) (by decide) rfl ?_
  intro p e s m args below meth c s₁ B hml hv
  obtain ⟨rfl, hsz, hP, hK, hD0, hZ, hN⟩ := hv
  have hx := B.exec
  have hb := B.bytes
  have hr := B.returns
  have hts := atoms_spec (ws := wuX9_setMove) B.pre
  have hown : s.vm.findClass RX9 = some m.cls := findClass_of_methodNamed B.named
  have hlocks := B.notSynchronized
  subst hsz
  have hD := wD_self (sz := s.heap.size) hD0
  have hA9 : ∀ q, s.heap.size ≤ q → wA ad G s.heap.size q := fun q h => Or.inr h
  generalize hAe : wA ad G s.heap.size = A at hD hA9 hZ ⊢
  have hS : va_S A s.heap s.heap [] := va_S.rf
  have hl := lv_entry ([.ref (ad a), .int p0, .int p1, .int p2, .int p3, .int p4]) (n := 12) (Nat.le_of_ble_eq_true rfl)
  rw [lg_entry_eq]
  generalize (lg_sl ([.ref (ad a), .int p0, .int p1, .int p2, .int p3, .int p4]) ++ List.replicate (12 - (lg_sl ([.ref (ad a), .int p0, .int p1, .int p2, .int p3, .int p4])).length) Slot.unset).toArray = ls at hl ⊢
  have hl : lv_has ls 12 [(0, .ref (ad a)), (1, .int p0), (2, .int p1), (3, .int p2), (4, .int p3), (5, .int p4)] := hl
  unfold FX9_setMove at hF
  refine lv_aload_n hx hb dX9_setMove_0 rfl (lv_at hl 0 rfl) ?_
  refine va_get (D := D) (ci := 9) (v := va_re ad (M.2 a 13)) (C := RX9) (T := TX9) (N := 20) hx hb hts (mus hf_X9) hown hK hP a (wld_o ct ad G M hc hk (by decide)) rfl 13 (by decide) (hts (.fieldLink RX9 42 "VideoSuite$Work" "part" "[I") (mu mw_466)) (fun _ h9 => h9) rfl dX9_setMove_1 ?_
  refine lv_iconst (v := (5 : Int32)) hx hb dX9_setMove_4 (by decide) ?_
  refine lv_iload_n hx hb dX9_setMove_5 rfl (lv_at hl 3 rfl) ?_
  refine lv_imul hx hb dX9_setMove_6 ?_
  obtain ⟨x1, ex1, hF⟩ := ltt_some hF
  refine lv_topi (fun zx1 ezx1 => ?_)
  obtain rfl : x1 = zx1 := ex1.trans ezx1.symm
  obtain ⟨b2, ho2, hc2, hk2, hF⟩ := dr_some hF
  refine W_st (st' := [.int x1, .ref (ad b2)]) (by rw [va_some ho2]) ?_
  obtain ⟨hvc, hF⟩ := chk_some hF
  refine va_iald hx hb hK hP b2 1 (wld_i ct ad G M hc2 hk2) rfl hvc dX9_setMove_7 ?_
  obtain ⟨x3, ex3, hF⟩ := ltt_some hF
  refine lv_topi (fun zx3 ezx3 => ?_)
  obtain rfl : x3 = zx3 := ex3.trans ezx3.symm
  obtain ⟨y4, hy4, hF⟩ := bnd_some hF
  have hf9 := wA_in hD hA9 hS
  refine va_calli (va_runS (As := [.int x3]) (rest := []) ⟨hx, hb, hml, hown, hts⟩ (kX9_pieceX l D ct ad Z G M s.heap.size x3 y4 hy4) (va_cwS 1 hts gX9_setMove_X9_pieceX rfl rfl rfl (by decide +kernel) ⟨Nat.le_of_ble_eq_true rfl, Nat.le_of_ble_eq_true rfl⟩) ⟨fun a U g mk q => by obtain ⟨q0, q1, qP, qK, qD, qZ, qN⟩ := q; exact ⟨q0, q1, qP, va_K.moved (u := U) (U := U.calling g mk a) (Vm.Alike.refl U.vm) qK, qD, sF.moved (u := U) (U := U.calling g mk a) (Vm.Alike.refl U.vm) qZ, nF.same rfl qN⟩, fun U hU hW => ⟨rfl, by rw [hU], by rw [hU]; exact hP, va_K.moved hW.alike hK, hD.weaken (fun _ _ _ _ => trivial), by rw [hU]; exact ((hZ.kept hS.2.1).narrow hf9).moved hW.alike, hN.warm hW⟩⟩ rfl rfl hl.1 rfl (lv_room (Nat.le_of_ble_eq_true rfl)) dX9_setMove_8 ⟨(Nat.zero_le _), (Nat.zero_le _)⟩) hS (fun q _ h => hf9 q h) hf9 (fun r u t H locs ht hvm hw hB hz1 hk1 hS => ?_)
  obtain ⟨hP, hK9, hD9⟩ := hB
  rw [ht] at hP
  try dsimp only at hw
  subst hw
  have hD := hD9.weaken (fun _ q _ h => hf9 q.1 h)
  refine lv_istore (lv' := [(6, .int y4.2), (0, .ref (ad a)), (1, .int p0), (2, .int p1), (3, .int p2), (4, .int p3), (5, .int p4)]) hx hb dX9_setMove_11 hl (by decide) rfl (fun ls hl => ?_)
  refine lv_aload_n hx hb dX9_setMove_13 rfl (lv_at hl 1 rfl) ?_
  refine va_get (D := D) (ci := 9) (v := va_re ad (y4.1.2 a 13)) (C := RX9) (T := TX9) (N := 20) hx hb hts (mus hf_X9) hown hK hP a (wld_o ct ad G y4.1 hc hk (by decide)) rfl 13 (by decide) (hts (.fieldLink RX9 42 "VideoSuite$Work" "part" "[I") (mu mw_466)) (fun _ h9 => h9) rfl dX9_setMove_14 ?_
  refine lv_iconst (v := (5 : Int32)) hx hb dX9_setMove_17 (by decide) ?_
  refine lv_iload_n hx hb dX9_setMove_18 rfl (lv_at hl 4 rfl) ?_
  refine lv_imul hx hb dX9_setMove_19 ?_
  obtain ⟨x5, ex5, hF⟩ := ltt_some hF
  refine lv_topi (fun zx5 ezx5 => ?_)
  obtain rfl : x5 = zx5 := ex5.trans ezx5.symm
  obtain ⟨b6, ho6, hc6, hk6, hF⟩ := dr_some hF
  refine W_st (st' := [.int x5, .ref (ad b6)]) (by rw [va_some ho6]) ?_
  obtain ⟨hvc, hF⟩ := chk_some hF
  refine va_iald hx hb hK hP b6 1 (wld_i ct ad G y4.1 hc6 hk6) rfl hvc dX9_setMove_20 ?_
  obtain ⟨x7, ex7, hF⟩ := ltt_some hF
  refine lv_topi (fun zx7 ezx7 => ?_)
  obtain rfl : x7 = zx7 := ex7.trans ezx7.symm
  obtain ⟨y8, hy8, hF⟩ := bnd_some hF
  have hf9 := wA_in hD hA9 hS
  refine va_calli (va_runS (As := [.int x7]) (rest := []) ⟨hx, hb, hml, hown, hts⟩ (kX9_pieceY l D ct ad Z G y4.1 H.size x7 y8 hy8) (va_cwS 1 hts gX9_setMove_X9_pieceY rfl rfl rfl (by decide +kernel) ⟨Nat.le_of_ble_eq_true rfl, Nat.le_of_ble_eq_true rfl⟩) ⟨fun a U g mk q => by obtain ⟨q0, q1, qP, qK, qD, qZ, qN⟩ := q; exact ⟨q0, q1, qP, va_K.moved (u := U) (U := U.calling g mk a) (Vm.Alike.refl U.vm) qK, qD, sF.moved (u := U) (U := U.calling g mk a) (Vm.Alike.refl U.vm) qZ, nF.same rfl qN⟩, fun U hU hW => ⟨rfl, by rw [hU], by rw [hU]; exact hP, va_K.moved hW.alike hK, hD.weaken (fun _ _ _ _ => trivial), by rw [hU]; exact ((hZ.kept hS.2.1).narrow hf9).moved hW.alike, hN.warm hW⟩⟩ rfl rfl hl.1 rfl (lv_room (Nat.le_of_ble_eq_true rfl)) dX9_setMove_21 ⟨(Nat.zero_le _), (Nat.zero_le _)⟩) hS (fun q _ h => hf9 q h) hf9 (fun r u t H locs ht hvm hw hB hz1 hk1 hS => ?_)
  obtain ⟨hP, hK9, hD9⟩ := hB
  rw [ht] at hP
  try dsimp only at hw
  subst hw
  have hD := hD9.weaken (fun _ q _ h => hf9 q.1 h)
  refine lv_istore (lv' := [(7, .int y8.2), (6, .int y4.2), (0, .ref (ad a)), (1, .int p0), (2, .int p1), (3, .int p2), (4, .int p3), (5, .int p4)]) hx hb dX9_setMove_24 hl (by decide) rfl (fun ls hl => ?_)
  refine lv_iconst (v := (0 : Int32)) hx hb dX9_setMove_26 (by decide) ?_
  refine lv_istore (lv' := [(8, .int (0 : Int32)), (7, .int y8.2), (6, .int y4.2), (0, .ref (ad a)), (1, .int p0), (2, .int p1), (3, .int p2), (4, .int p3), (5, .int p4)]) hx hb dX9_setMove_27 hl (by decide) rfl (fun ls hl => ?_)
  obtain ⟨y9, hy9, hF⟩ := bnd_some hF
  have K9 : ∀ (H : Heap) (locs : List Loc) (ls : Array Slot), va_P D classes (wld ct ad G y9.2) H → va_D A (wld ct ad G y9.2) → va_S A s.heap H locs → lv_has ls 12 [(8, .int y9.1), (7, .int y8.2), (6, .int y4.2), (0, .ref (ad a)), (1, .int p0), (2, .int p1), (3, .int p2), (4, .int p3), (5, .int p4)] → W p l e (headSpec wuX9_setMove ({ frames := 1, cells := 0, slots := 0, locals := 21 })).room s m ([.ref (ad a), .int p0, .int p1, .int p2, .int p3, .int p4] : List Value).toArray below meth c H locs 0 0 (MQ below (va_Qv (fun (_ : Unit) => True) (fun _ t => kE D ct ad G A y t) A) ([.ref (ad a), .int p0, .int p1, .int p2, .int p3, .int p4] : List Value).toArray s 0 0 A) (F0 m 143 ls []) := by
    intro H locs ls hP hD hS hl
    obtain rfl := Option.some.inj hF
    exact W.vret hx hb hr (fun t ht hW => ⟨⟨(), rfl, trivial, ⟨by rw [ht]; exact hP, va_K.moved hW.alike hK, hD⟩⟩, hS.F ht⟩) hS.2.2 dX9_setMove_143
  clear hF
  refine itr_rule (fun (s10 : Int32 × DD) => ∀ (H : Heap) (locs : List Loc) (ls : Array Slot), va_P D classes (wld ct ad G s10.2) H → va_D A (wld ct ad G s10.2) → va_S A s.heap H locs → lv_has ls 12 [(8, .int s10.1), (7, .int y8.2), (6, .int y4.2), (0, .ref (ad a)), (1, .int p0), (2, .int p1), (3, .int p2), (4, .int p3), (5, .int p4)] → W p l e (headSpec wuX9_setMove ({ frames := 1, cells := 0, slots := 0, locals := 21 })).room s m ([.ref (ad a), .int p0, .int p1, .int p2, .int p3, .int p4] : List Value).toArray below meth c H locs 0 0 (MQ below (va_Qv (fun (_ : Unit) => True) (fun _ t => kE D ct ad G A y t) A) ([.ref (ad a), .int p0, .int p1, .int p2, .int p3, .int p4] : List Value).toArray s 0 0 A) (F0 m 29 ls [])) ?_ _ _ hy9 _ _ _ hP hD hS (lv_sub hl [0, 1, 2, 3, 4, 5, 6, 7, 8] rfl)
  rintro s10 ⟨z12, hF, hwz12⟩ H locs ls hP hD hS hl
  try dsimp only at hF
  refine lv_iload hx hb dX9_setMove_29 (lv_at hl 0 rfl) ?_
  refine lv_bipush (v := (16 : Int32)) hx hb dX9_setMove_31 (by decide) ?_
  refine lv_icmp_ge (tgt := 143) hx hb dX9_setMove_33 (by decide) (fun c13 => ?_) (fun c13 => ?_)
  · rw [if_pos c13] at hF
    obtain rfl := Option.some.inj hF
    subst hwz12
    exact K9 _ _ _ hP hD hS (lv_sub hl [0, 1, 2, 3, 4, 5, 6, 7, 8] rfl)
  · rw [if_neg c13] at hF
    refine lv_iload hx hb dX9_setMove_36 (lv_at hl 0 rfl) ?_
    obtain ⟨y14, hy14, hF⟩ := bnd_some hF
    have hf9 := wA_in hD hA9 hS
    refine va_calli (va_runS (As := [.int s10.1]) (rest := []) ⟨hx, hb, hml, hown, hts⟩ (kX9_pieceX l D ct ad Z G s10.2 H.size s10.1 y14 hy14) (va_cwS 1 hts gX9_setMove_X9_pieceX rfl rfl rfl (by decide +kernel) ⟨Nat.le_of_ble_eq_true rfl, Nat.le_of_ble_eq_true rfl⟩) ⟨fun a U g mk q => by obtain ⟨q0, q1, qP, qK, qD, qZ, qN⟩ := q; exact ⟨q0, q1, qP, va_K.moved (u := U) (U := U.calling g mk a) (Vm.Alike.refl U.vm) qK, qD, sF.moved (u := U) (U := U.calling g mk a) (Vm.Alike.refl U.vm) qZ, nF.same rfl qN⟩, fun U hU hW => ⟨rfl, by rw [hU], by rw [hU]; exact hP, va_K.moved hW.alike hK, hD.weaken (fun _ _ _ _ => trivial), by rw [hU]; exact ((hZ.kept hS.2.1).narrow hf9).moved hW.alike, hN.warm hW⟩⟩ rfl rfl hl.1 rfl (lv_room (Nat.le_of_ble_eq_true rfl)) dX9_setMove_38 ⟨(Nat.zero_le _), (Nat.zero_le _)⟩) hS (fun q _ h => hf9 q h) hf9 (fun r u t H locs ht hvm hw hB hz1 hk1 hS => ?_)
    obtain ⟨hP, hK9, hD9⟩ := hB
    rw [ht] at hP
    try dsimp only at hw
    subst hw
    have hD := hD9.weaken (fun _ q _ h => hf9 q.1 h)
    refine lv_iload hx hb dX9_setMove_41 (lv_at hl 2 rfl) ?_
    refine lv_isub hx hb dX9_setMove_43 ?_
    obtain ⟨x15, ex15, hF⟩ := ltt_some hF
    refine lv_topi (fun zx15 ezx15 => ?_)
    obtain rfl : x15 = zx15 := ex15.trans ezx15.symm
    refine lv_istore (lv' := [(9, .int x15), (8, .int s10.1), (7, .int y8.2), (6, .int y4.2), (0, .ref (ad a)), (1, .int p0), (2, .int p1), (3, .int p2), (4, .int p3), (5, .int p4)]) hx hb dX9_setMove_44 hl (by decide) rfl (fun ls hl => ?_)
    refine lv_iload hx hb dX9_setMove_46 (lv_at hl 1 rfl) ?_
    obtain ⟨y16, hy16, hF⟩ := bnd_some hF
    have hf9 := wA_in hD hA9 hS
    refine va_calli (va_runS (As := [.int s10.1]) (rest := []) ⟨hx, hb, hml, hown, hts⟩ (kX9_pieceY l D ct ad Z G y14.1 H.size s10.1 y16 hy16) (va_cwS 1 hts gX9_setMove_X9_pieceY rfl rfl rfl (by decide +kernel) ⟨Nat.le_of_ble_eq_true rfl, Nat.le_of_ble_eq_true rfl⟩) ⟨fun a U g mk q => by obtain ⟨q0, q1, qP, qK, qD, qZ, qN⟩ := q; exact ⟨q0, q1, qP, va_K.moved (u := U) (U := U.calling g mk a) (Vm.Alike.refl U.vm) qK, qD, sF.moved (u := U) (U := U.calling g mk a) (Vm.Alike.refl U.vm) qZ, nF.same rfl qN⟩, fun U hU hW => ⟨rfl, by rw [hU], by rw [hU]; exact hP, va_K.moved hW.alike hK, hD.weaken (fun _ _ _ _ => trivial), by rw [hU]; exact ((hZ.kept hS.2.1).narrow hf9).moved hW.alike, hN.warm hW⟩⟩ rfl rfl hl.1 rfl (lv_room (Nat.le_of_ble_eq_true rfl)) dX9_setMove_48 ⟨(Nat.zero_le _), (Nat.zero_le _)⟩) hS (fun q _ h => hf9 q h) hf9 (fun r u t H locs ht hvm hw hB hz1 hk1 hS => ?_)
    obtain ⟨hP, hK9, hD9⟩ := hB
    rw [ht] at hP
    try dsimp only at hw
    subst hw
    have hD := hD9.weaken (fun _ q _ h => hf9 q.1 h)
    refine lv_iload hx hb dX9_setMove_51 (lv_at hl 2 rfl) ?_
    refine lv_isub hx hb dX9_setMove_53 ?_
    obtain ⟨x17, ex17, hF⟩ := ltt_some hF
    refine lv_topi (fun zx17 ezx17 => ?_)
    obtain rfl : x17 = zx17 := ex17.trans ezx17.symm
    refine lv_istore (lv' := [(10, .int x17), (9, .int x15), (8, .int s10.1), (7, .int y8.2), (6, .int y4.2), (0, .ref (ad a)), (1, .int p0), (2, .int p1), (3, .int p2), (4, .int p3), (5, .int p4)]) hx hb dX9_setMove_54 hl (by decide) rfl (fun ls hl => ?_)
    refine lv_iload hx hb dX9_setMove_56 (lv_at hl 1 rfl) ?_
    obtain ⟨y18, hy18, hF⟩ := bnd_some hF
    have J18 : ∀ (H : Heap) (locs : List Loc) (ls : Array Slot), va_P D classes (wld ct ad G y18) H → va_D A (wld ct ad G y18) → va_S A s.heap H locs → lv_has ls 12 [(10, .int x17), (9, .int x15), (8, .int s10.1), (7, .int y8.2), (6, .int y4.2), (0, .ref (ad a)), (1, .int p0), (2, .int p1), (3, .int p2), (4, .int p3), (5, .int p4)] → W p l e (headSpec wuX9_setMove ({ frames := 1, cells := 0, slots := 0, locals := 21 })).room s m ([.ref (ad a), .int p0, .int p1, .int p2, .int p3, .int p4] : List Value).toArray below meth c H locs 0 0 (MQ below (va_Qv (fun (_ : Unit) => True) (fun _ t => kE D ct ad G A y t) A) ([.ref (ad a), .int p0, .int p1, .int p2, .int p3, .int p4] : List Value).toArray s 0 0 A) (F0 m 137 ls []) := by
      intro H locs ls hP hD hS hl
      obtain ⟨x19, ex19, hF⟩ := ltt_some hF
      refine lv_iinc (v := x19) (lv' := [(8, .int x19), (10, .int x17), (9, .int x15), (7, .int y8.2), (6, .int y4.2), (0, .ref (ad a)), (1, .int p0), (2, .int p1), (3, .int p2), (4, .int p3), (5, .int p4)]) hx hb dX9_setMove_137 hl (k := 2) rfl (by rw [ex19]; rfl) (by decide) rfl (fun ls hl => ?_)
      refine lv_goto (tgt := 29) hx hb dX9_setMove_140 (by decide) ?_
      obtain rfl := Option.some.inj hF
      exact hwz12 _ _ _ hP hD hS (lv_sub hl [0, 3, 4, 5, 6, 7, 8, 9, 10] rfl)
    clear hF
    have hF := hy18
    clear hy18
    refine lv_if_lt (tgt := 137) hx hb dX9_setMove_58 (by decide) (fun c20 => ?_) (fun c20 => ?_)
    · rw [if_pos c20] at hF
      obtain rfl := Option.some.inj hF
      exact J18 _ _ _ hP hD hS (lv_sub hl [0, 1, 2, 3, 4, 5, 6, 7, 8, 9, 10] rfl)
    · rw [if_neg c20] at hF
      refine lv_iload hx hb dX9_setMove_61 (lv_at hl 1 rfl) ?_
      refine lv_aload_n hx hb dX9_setMove_63 rfl (lv_at hl 5 rfl) ?_
      refine va_get (D := D) (ci := 9) (v := va_re ad (y16.1.2 a 13)) (C := RX9) (T := TX9) (N := 20) hx hb hts (mus hf_X9) hown hK hP a (wld_o ct ad G y16.1 hc hk (by decide)) rfl 13 (by decide) (hts (.fieldLink RX9 42 "VideoSuite$Work" "part" "[I") (mu mw_466)) (fun _ h9 => h9) rfl dX9_setMove_64 ?_
      refine lv_iconst (v := (5 : Int32)) hx hb dX9_setMove_67 (by decide) ?_
      refine lv_iload_n hx hb dX9_setMove_68 rfl (lv_at hl 8 rfl) ?_
      refine lv_imul hx hb dX9_setMove_69 ?_
      obtain ⟨x21, ex21, hF⟩ := ltt_some hF
      refine lv_topi (fun zx21 ezx21 => ?_)
      obtain rfl : x21 = zx21 := ex21.trans ezx21.symm
      refine lv_iconst (v := (1 : Int32)) hx hb dX9_setMove_70 (by decide) ?_
      refine lv_iadd hx hb dX9_setMove_71 ?_
      obtain ⟨x22, ex22, hF⟩ := ltt_some hF
      refine lv_topi (fun zx22 ezx22 => ?_)
      obtain rfl : x22 = zx22 := ex22.trans ezx22.symm
      obtain ⟨b23, ho23, hc23, hk23, hF⟩ := dr_some hF
      refine W_st (st' := [.int x22, .ref (ad b23), .int x15]) (by rw [va_some ho23]) ?_
      obtain ⟨hvc, hF⟩ := chk_some hF
      refine va_iald hx hb hK hP b23 1 (wld_i ct ad G y16.1 hc23 hk23) rfl hvc dX9_setMove_72 ?_
      obtain ⟨x24, ex24, hF⟩ := ltt_some hF
      refine lv_topi (fun zx24 ezx24 => ?_)
      obtain rfl : x24 = zx24 := ex24.trans ezx24.symm
      obtain ⟨y25, hy25, hF⟩ := bnd_some hF
      have J25 : ∀ (H : Heap) (locs : List Loc) (ls : Array Slot), va_P D classes (wld ct ad G y25) H → va_D A (wld ct ad G y25) → va_S A s.heap H locs → lv_has ls 12 [(10, .int x17), (9, .int x15), (8, .int s10.1), (7, .int y8.2), (6, .int y4.2), (0, .ref (ad a)), (1, .int p0), (2, .int p1), (3, .int p2), (4, .int p3), (5, .int p4)] → W p l e (headSpec wuX9_setMove ({ frames := 1, cells := 0, slots := 0, locals := 21 })).room s m ([.ref (ad a), .int p0, .int p1, .int p2, .int p3, .int p4] : List Value).toArray below meth c H locs 0 0 (MQ below (va_Qv (fun (_ : Unit) => True) (fun _ t => kE D ct ad G A y t) A) ([.ref (ad a), .int p0, .int p1, .int p2, .int p3, .int p4] : List Value).toArray s 0 0 A) (F0 m 137 ls []) := by
        intro H locs ls hP hD hS hl
        obtain rfl := Option.some.inj hF
        exact J18 _ _ _ hP hD hS (lv_sub hl [0, 1, 2, 3, 4, 5, 6, 7, 8, 9, 10] rfl)
      clear hF
      have hF := hy25
      clear hy25
      refine lv_icmp_ge (tgt := 137) hx hb dX9_setMove_73 (by decide) (fun c26 => ?_) (fun c26 => ?_)
      · rw [if_pos c26] at hF
        obtain rfl := Option.some.inj hF
        exact J25 _ _ _ hP hD hS (lv_sub hl [0, 1, 2, 3, 4, 5, 6, 7, 8, 9, 10] rfl)
      · rw [if_neg c26] at hF
        refine lv_iload hx hb dX9_setMove_76 (lv_at hl 0 rfl) ?_
        obtain ⟨y27, hy27, hF⟩ := bnd_some hF
        have J27 : ∀ (H : Heap) (locs : List Loc) (ls : Array Slot), va_P D classes (wld ct ad G y27) H → va_D A (wld ct ad G y27) → va_S A s.heap H locs → lv_has ls 12 [(10, .int x17), (9, .int x15), (8, .int s10.1), (7, .int y8.2), (6, .int y4.2), (0, .ref (ad a)), (1, .int p0), (2, .int p1), (3, .int p2), (4, .int p3), (5, .int p4)] → W p l e (headSpec wuX9_setMove ({ frames := 1, cells := 0, slots := 0, locals := 21 })).room s m ([.ref (ad a), .int p0, .int p1, .int p2, .int p3, .int p4] : List Value).toArray below meth c H locs 0 0 (MQ below (va_Qv (fun (_ : Unit) => True) (fun _ t => kE D ct ad G A y t) A) ([.ref (ad a), .int p0, .int p1, .int p2, .int p3, .int p4] : List Value).toArray s 0 0 A) (F0 m 137 ls []) := by
          intro H locs ls hP hD hS hl
          obtain rfl := Option.some.inj hF
          exact J25 _ _ _ hP hD hS (lv_sub hl [0, 1, 2, 3, 4, 5, 6, 7, 8, 9, 10] rfl)
        clear hF
        have hF := hy27
        clear hy27
        refine lv_if_lt (tgt := 137) hx hb dX9_setMove_78 (by decide) (fun c28 => ?_) (fun c28 => ?_)
        · rw [if_pos c28] at hF
          obtain rfl := Option.some.inj hF
          exact J27 _ _ _ hP hD hS (lv_sub hl [0, 1, 2, 3, 4, 5, 6, 7, 8, 9, 10] rfl)
        · rw [if_neg c28] at hF
          refine lv_iload hx hb dX9_setMove_81 (lv_at hl 0 rfl) ?_
          refine lv_aload_n hx hb dX9_setMove_83 rfl (lv_at hl 5 rfl) ?_
          refine va_get (D := D) (ci := 9) (v := va_re ad (y16.1.2 a 13)) (C := RX9) (T := TX9) (N := 20) hx hb hts (mus hf_X9) hown hK hP a (wld_o ct ad G y16.1 hc hk (by decide)) rfl 13 (by decide) (hts (.fieldLink RX9 42 "VideoSuite$Work" "part" "[I") (mu mw_466)) (fun _ h9 => h9) rfl dX9_setMove_84 ?_
          refine lv_iconst (v := (5 : Int32)) hx hb dX9_setMove_87 (by decide) ?_
          refine lv_iload_n hx hb dX9_setMove_88 rfl (lv_at hl 8 rfl) ?_
          refine lv_imul hx hb dX9_setMove_89 ?_
          obtain ⟨x29, ex29, hF⟩ := ltt_some hF
          refine lv_topi (fun zx29 ezx29 => ?_)
          obtain rfl : x29 = zx29 := ex29.trans ezx29.symm
          refine lv_iconst (v := (2 : Int32)) hx hb dX9_setMove_90 (by decide) ?_
          refine lv_iadd hx hb dX9_setMove_91 ?_
          obtain ⟨x30, ex30, hF⟩ := ltt_some hF
          refine lv_topi (fun zx30 ezx30 => ?_)
          obtain rfl : x30 = zx30 := ex30.trans ezx30.symm
          refine W_st (st' := [.int x30, .ref (ad b23), .int x17]) (by rw [va_some ho23]) ?_
          obtain ⟨hvc, hF⟩ := chk_some hF
          refine va_iald hx hb hK hP b23 1 (wld_i ct ad G y16.1 hc23 hk23) rfl hvc dX9_setMove_92 ?_
          obtain ⟨x31, ex31, hF⟩ := ltt_some hF
          refine lv_topi (fun zx31 ezx31 => ?_)
          obtain rfl : x31 = zx31 := ex31.trans ezx31.symm
          obtain ⟨y32, hy32, hF⟩ := bnd_some hF
          have J32 : ∀ (H : Heap) (locs : List Loc) (ls : Array Slot), va_P D classes (wld ct ad G y32) H → va_D A (wld ct ad G y32) → va_S A s.heap H locs → lv_has ls 12 [(10, .int x17), (9, .int x15), (8, .int s10.1), (7, .int y8.2), (6, .int y4.2), (0, .ref (ad a)), (1, .int p0), (2, .int p1), (3, .int p2), (4, .int p3), (5, .int p4)] → W p l e (headSpec wuX9_setMove ({ frames := 1, cells := 0, slots := 0, locals := 21 })).room s m ([.ref (ad a), .int p0, .int p1, .int p2, .int p3, .int p4] : List Value).toArray below meth c H locs 0 0 (MQ below (va_Qv (fun (_ : Unit) => True) (fun _ t => kE D ct ad G A y t) A) ([.ref (ad a), .int p0, .int p1, .int p2, .int p3, .int p4] : List Value).toArray s 0 0 A) (F0 m 137 ls []) := by
            intro H locs ls hP hD hS hl
            obtain rfl := Option.some.inj hF
            exact J27 _ _ _ hP hD hS (lv_sub hl [0, 1, 2, 3, 4, 5, 6, 7, 8, 9, 10] rfl)
          clear hF
          have hF := hy32
          clear hy32
          refine lv_icmp_ge (tgt := 137) hx hb dX9_setMove_93 (by decide) (fun c33 => ?_) (fun c33 => ?_)
          · rw [if_pos c33] at hF
            obtain rfl := Option.some.inj hF
            exact J32 _ _ _ hP hD hS (lv_sub hl [0, 1, 2, 3, 4, 5, 6, 7, 8, 9, 10] rfl)
          · rw [if_neg c33] at hF
            refine lv_iconst (v := (2 : Int32)) hx hb dX9_setMove_96 (by decide) ?_
            refine lv_iload_n hx hb dX9_setMove_97 rfl (lv_at hl 7 rfl) ?_
            refine lv_bipush (v := (16 : Int32)) hx hb dX9_setMove_98 (by decide) ?_
            refine lv_iload_n hx hb dX9_setMove_100 rfl (lv_at hl 6 rfl) ?_
            refine lv_imul hx hb dX9_setMove_101 ?_
            obtain ⟨x34, ex34, hF⟩ := ltt_some hF
            refine lv_topi (fun zx34 ezx34 => ?_)
            obtain rfl : x34 = zx34 := ex34.trans ezx34.symm
            refine lv_iload hx hb dX9_setMove_102 (lv_at hl 2 rfl) ?_
            refine lv_iadd hx hb dX9_setMove_104 ?_
            obtain ⟨x35, ex35, hF⟩ := ltt_some hF
            refine lv_topi (fun zx35 ezx35 => ?_)
            obtain rfl : x35 = zx35 := ex35.trans ezx35.symm
            obtain ⟨y36, hy36, hF⟩ := bnd_some hF
            have hf9 := wA_in hD hA9 hS
            refine va_calli (va_runS (As := [.int p1, .int x35]) (rest := [.int (2 : Int32)]) ⟨hx, hb, hml, hown, hts⟩ (kX4_at l D ct ad Z G y16.1 H.size p1 x35 y36 hy36) (va_cwS 2 hts gX9_setMove_X4_at rfl rfl rfl (by decide +kernel) ⟨Nat.le_of_ble_eq_true rfl, Nat.le_of_ble_eq_true rfl⟩) ⟨fun a U g mk q => by obtain ⟨q0, q1, qP, qK, qD, qZ, qN⟩ := q; exact ⟨q0, q1, qP, va_K.moved (u := U) (U := U.calling g mk a) (Vm.Alike.refl U.vm) qK, qD, sF.moved (u := U) (U := U.calling g mk a) (Vm.Alike.refl U.vm) qZ, nF.same rfl qN⟩, fun U hU hW => ⟨rfl, by rw [hU], by rw [hU]; exact hP, va_K.moved hW.alike hK, hD.weaken (fun _ _ _ _ => trivial), by rw [hU]; exact ((hZ.kept hS.2.1).narrow hf9).moved hW.alike, hN.warm hW⟩⟩ rfl rfl hl.1 rfl (lv_room (Nat.le_of_ble_eq_true rfl)) dX9_setMove_105 ⟨(Nat.zero_le _), (Nat.zero_le _)⟩) hS (fun q _ h => hf9 q h) hf9 (fun r u t H locs ht hvm hw hB hz1 hk1 hS => ?_)
            obtain ⟨hP, hK9, hD9⟩ := hB
            rw [ht] at hP
            try dsimp only at hw
            subst hw
            have hD := hD9.weaken (fun _ q _ h => hf9 q.1 h)
            refine lv_imul hx hb dX9_setMove_108 ?_
            obtain ⟨x37, ex37, hF⟩ := ltt_some hF
            refine lv_topi (fun zx37 ezx37 => ?_)
            obtain rfl : x37 = zx37 := ex37.trans ezx37.symm
            refine lv_istore (lv' := [(11, .int x37), (10, .int x17), (9, .int x15), (8, .int s10.1), (7, .int y8.2), (6, .int y4.2), (0, .ref (ad a)), (1, .int p0), (2, .int p1), (3, .int p2), (4, .int p3), (5, .int p4)]) hx hb dX9_setMove_109 hl (by decide) rfl (fun ls hl => ?_)
            refine lv_aload_n hx hb dX9_setMove_111 rfl (lv_at hl 6 rfl) ?_
            refine va_get (D := D) (ci := 9) (v := va_re ad (y36.1.2 a 0)) (C := RX9) (T := TX9) (N := 20) hx hb hts (mus hf_X9) hown hK hP a (wld_o ct ad G y36.1 hc hk (by decide)) rfl 0 (by decide) (hts (.fieldLink RX9 51 "VideoSuite$Work" "pic" "LVideoSuite$Picture;") (mu mw_422)) (fun _ h9 => h9) rfl dX9_setMove_112 ?_
            obtain ⟨b38, ho38, hc38, hk38, hF⟩ := dr_some hF
            refine W_st (st' := [.ref (ad b38)]) (by rw [va_some ho38]) ?_
            refine va_get (D := D) (ci := 4) (v := va_re ad (y36.1.2 b38 7)) (C := RX4) (T := TX4) (N := 18) hx hb hts (mus hf_X4) hown hK hP b38 (wld_o ct ad G y36.1 hc38 hk38 (by decide)) rfl 7 (by decide) (hts (.fieldLink RX9 89 "VideoSuite$Picture" "move" "[I") (mu mw_1447)) (fun _ h9 => h9) rfl dX9_setMove_115 ?_
            refine lv_iload hx hb dX9_setMove_118 (lv_at hl 0 rfl) ?_
            refine lv_iload hx hb dX9_setMove_120 (lv_at hl 10 rfl) ?_
            obtain ⟨b39, ho39, hc39, hk39, hF⟩ := dr_some hF
            refine W_st (st' := [.int p3, .int x37, .ref (ad b39)]) (by rw [va_some ho39]) ?_
            obtain ⟨hvc, hF⟩ := chk_some hF
            refine va_iast hx hb hK hP hD hS b39 1 (wld_i ct ad G y36.1 hc39 hk39) rfl hvc dX9_setMove_122 (fun H locs hP hD hS => ?_)
            obtain ⟨M40, eM40, hF⟩ := ltt_some hF
            rw [set_i ct ad G y36.1 hc39 hk39, ← eM40] at hP hD
            refine lv_aload_n hx hb dX9_setMove_123 rfl (lv_at hl 6 rfl) ?_
            refine va_get (D := D) (ci := 9) (v := va_re ad (M40.2 a 0)) (C := RX9) (T := TX9) (N := 20) hx hb hts (mus hf_X9) hown hK hP a (wld_o ct ad G M40 hc hk (by decide)) rfl 0 (by decide) (hts (.fieldLink RX9 51 "VideoSuite$Work" "pic" "LVideoSuite$Picture;") (mu mw_422)) (fun _ h9 => h9) rfl dX9_setMove_124 ?_
            obtain ⟨b41, ho41, hc41, hk41, hF⟩ := dr_some hF
            refine W_st (st' := [.ref (ad b41)]) (by rw [va_some ho41]) ?_
            refine va_get (D := D) (ci := 4) (v := va_re ad (M40.2 b41 7)) (C := RX4) (T := TX4) (N := 18) hx hb hts (mus hf_X4) hown hK hP b41 (wld_o ct ad G M40 hc41 hk41 (by decide)) rfl 7 (by decide) (hts (.fieldLink RX9 89 "VideoSuite$Picture" "move" "[I") (mu mw_1447)) (fun _ h9 => h9) rfl dX9_setMove_127 ?_
            refine lv_iload hx hb dX9_setMove_130 (lv_at hl 0 rfl) ?_
            refine lv_iconst (v := (1 : Int32)) hx hb dX9_setMove_132 (by decide) ?_
            refine lv_iadd hx hb dX9_setMove_133 ?_
            obtain ⟨x42, ex42, hF⟩ := ltt_some hF
            refine lv_topi (fun zx42 ezx42 => ?_)
            obtain rfl : x42 = zx42 := ex42.trans ezx42.symm
            refine lv_iload hx hb dX9_setMove_134 (lv_at hl 11 rfl) ?_
            obtain ⟨b43, ho43, hc43, hk43, hF⟩ := dr_some hF
            refine W_st (st' := [.int p4, .int x42, .ref (ad b43)]) (by rw [va_some ho43]) ?_
            obtain ⟨hvc, hF⟩ := chk_some hF
            refine va_iast hx hb hK hP hD hS b43 1 (wld_i ct ad G M40 hc43 hk43) rfl hvc dX9_setMove_136 (fun H locs hP hD hS => ?_)
            obtain ⟨M44, eM44, hF⟩ := ltt_some hF
            rw [set_i ct ad G M40 hc43 hk43, ← eM44] at hP hD
            obtain rfl := Option.some.inj hF
            exact J32 _ _ _ hP hD hS (lv_sub hl [1, 2, 3, 4, 5, 6, 7, 8, 9, 10, 11] rfl)
theorem dX9_setQuarter_0 : decode cX9_setQuarter 0 = .ok (.iload 4, 2) := by decide +kernel
theorem dX9_setQuarter_2 : decode cX9_setQuarter 2 = .ok (.ifCond .ge 7, 3) := by decide +kernel
theorem dX9_setQuarter_5 : decode cX9_setQuarter 5 = .ok (.aconst_null, 1) := by decide +kernel
theorem dX9_setQuarter_6 : decode cX9_setQuarter 6 = .ok (.goto 15, 3) := by decide +kernel
theorem dX9_setQuarter_9 : decode cX9_setQuarter 9 = .ok (.aload_n 0, 1) := by decide +kernel
theorem dX9_setQuarter_10 : decode cX9_setQuarter 10 = .ok (.getfield 11, 3) := by decide +kernel
theorem dX9_setQuarter_13 : decode cX9_setQuarter 13 = .ok (.bipush 9, 2) := by decide +kernel
theorem dX9_setQuarter_15 : decode cX9_setQuarter 15 = .ok (.iload_n 2, 1) := by decide +kernel
theorem dX9_setQuarter_16 : decode cX9_setQuarter 16 = .ok (.imul, 1) := by decide +kernel
theorem dX9_setQuarter_17 : decode cX9_setQuarter 17 = .ok (.iload 4, 2) := by decide +kernel
theorem dX9_setQuarter_19 : decode cX9_setQuarter 19 = .ok (.iadd, 1) := by decide +kernel
theorem dX9_setQuarter_20 : decode cX9_setQuarter 20 = .ok (.aaload, 1) := by decide +kernel
theorem dX9_setQuarter_21 : decode cX9_setQuarter 21 = .ok (.astore 7, 2) := by decide +kernel
theorem dX9_setQuarter_23 : decode cX9_setQuarter 23 = .ok (.iconst 0, 1) := by decide +kernel
theorem dX9_setQuarter_24 : decode cX9_setQuarter 24 = .ok (.istore 8, 2) := by decide +kernel
theorem dX9_setQuarter_26 : decode cX9_setQuarter 26 = .ok (.iload 8, 2) := by decide +kernel
theorem dX9_setQuarter_28 : decode cX9_setQuarter 28 = .ok (.iconst 4, 1) := by decide +kernel
theorem dX9_setQuarter_29 : decode cX9_setQuarter 29 = .ok (.if_icmp .ge 94, 3) := by decide +kernel
theorem dX9_setQuarter_32 : decode cX9_setQuarter 32 = .ok (.sipush 512, 3) := by decide +kernel
theorem dX9_setQuarter_35 : decode cX9_setQuarter 35 = .ok (.iload_n 2, 1) := by decide +kernel
theorem dX9_setQuarter_36 : decode cX9_setQuarter 36 = .ok (.imul, 1) := by decide +kernel
theorem dX9_setQuarter_37 : decode cX9_setQuarter 37 = .ok (.bipush 16, 2) := by decide +kernel
theorem dX9_setQuarter_39 : decode cX9_setQuarter 39 = .ok (.iload_n 1, 1) := by decide +kernel
theorem dX9_setQuarter_40 : decode cX9_setQuarter 40 = .ok (.imul, 1) := by decide +kernel
theorem dX9_setQuarter_41 : decode cX9_setQuarter 41 = .ok (.iadd, 1) := by decide +kernel
theorem dX9_setQuarter_42 : decode cX9_setQuarter 42 = .ok (.iconst 4, 1) := by decide +kernel
theorem dX9_setQuarter_43 : decode cX9_setQuarter 43 = .ok (.iload_n 3, 1) := by decide +kernel
theorem dX9_setQuarter_44 : decode cX9_setQuarter 44 = .ok (.imul, 1) := by decide +kernel
theorem dX9_setQuarter_45 : decode cX9_setQuarter 45 = .ok (.iadd, 1) := by decide +kernel
theorem dX9_setQuarter_46 : decode cX9_setQuarter 46 = .ok (.iload 8, 2) := by decide +kernel
theorem dX9_setQuarter_48 : decode cX9_setQuarter 48 = .ok (.iadd, 1) := by decide +kernel
theorem dX9_setQuarter_49 : decode cX9_setQuarter 49 = .ok (.istore 9, 2) := by decide +kernel
theorem dX9_setQuarter_51 : decode cX9_setQuarter 51 = .ok (.aload_n 0, 1) := by decide +kernel
theorem dX9_setQuarter_52 : decode cX9_setQuarter 52 = .ok (.getfield 51, 3) := by decide +kernel
theorem dX9_setQuarter_55 : decode cX9_setQuarter 55 = .ok (.getfield 83, 3) := by decide +kernel
theorem dX9_setQuarter_58 : decode cX9_setQuarter 58 = .ok (.iload 9, 2) := by decide +kernel
theorem dX9_setQuarter_60 : decode cX9_setQuarter 60 = .ok (.iload 4, 2) := by decide +kernel
theorem dX9_setQuarter_62 : decode cX9_setQuarter 62 = .ok (.iastore, 1) := by decide +kernel
theorem dX9_setQuarter_63 : decode cX9_setQuarter 63 = .ok (.aload_n 0, 1) := by decide +kernel
theorem dX9_setQuarter_64 : decode cX9_setQuarter 64 = .ok (.getfield 51, 3) := by decide +kernel
theorem dX9_setQuarter_67 : decode cX9_setQuarter 67 = .ok (.getfield 86, 3) := by decide +kernel
theorem dX9_setQuarter_70 : decode cX9_setQuarter 70 = .ok (.iload 9, 2) := by decide +kernel
theorem dX9_setQuarter_72 : decode cX9_setQuarter 72 = .ok (.aload 7, 2) := by decide +kernel
theorem dX9_setQuarter_74 : decode cX9_setQuarter 74 = .ok (.ifnonnull 7, 3) := by decide +kernel
theorem dX9_setQuarter_77 : decode cX9_setQuarter 77 = .ok (.iconst 0, 1) := by decide +kernel
theorem dX9_setQuarter_78 : decode cX9_setQuarter 78 = .ok (.goto 8, 3) := by decide +kernel
theorem dX9_setQuarter_81 : decode cX9_setQuarter 81 = .ok (.aload 7, 2) := by decide +kernel
theorem dX9_setQuarter_83 : decode cX9_setQuarter 83 = .ok (.getfield 161, 3) := by decide +kernel
theorem dX9_setQuarter_86 : decode cX9_setQuarter 86 = .ok (.iastore, 1) := by decide +kernel
theorem dX9_setQuarter_87 : decode cX9_setQuarter 87 = .ok (.aload_n 0, 1) := by decide +kernel
theorem dX9_setQuarter_88 : decode cX9_setQuarter 88 = .ok (.getfield 51, 3) := by decide +kernel
theorem dX9_setQuarter_91 : decode cX9_setQuarter 91 = .ok (.getfield 89, 3) := by decide +kernel
theorem dX9_setQuarter_94 : decode cX9_setQuarter 94 = .ok (.iconst 2, 1) := by decide +kernel
theorem dX9_setQuarter_95 : decode cX9_setQuarter 95 = .ok (.iload 9, 2) := by decide +kernel
theorem dX9_setQuarter_97 : decode cX9_setQuarter 97 = .ok (.imul, 1) := by decide +kernel
theorem dX9_setQuarter_98 : decode cX9_setQuarter 98 = .ok (.iload 5, 2) := by decide +kernel
theorem dX9_setQuarter_100 : decode cX9_setQuarter 100 = .ok (.iastore, 1) := by decide +kernel
theorem dX9_setQuarter_101 : decode cX9_setQuarter 101 = .ok (.aload_n 0, 1) := by decide +kernel
theorem dX9_setQuarter_102 : decode cX9_setQuarter 102 = .ok (.getfield 51, 3) := by decide +kernel
theorem dX9_setQuarter_105 : decode cX9_setQuarter 105 = .ok (.getfield 89, 3) := by decide +kernel
theorem dX9_setQuarter_108 : decode cX9_setQuarter 108 = .ok (.iconst 2, 1) := by decide +kernel
theorem dX9_setQuarter_109 : decode cX9_setQuarter 109 = .ok (.iload 9, 2) := by decide +kernel
theorem dX9_setQuarter_111 : decode cX9_setQuarter 111 = .ok (.imul, 1) := by decide +kernel
theorem dX9_setQuarter_112 : decode cX9_setQuarter 112 = .ok (.iconst 1, 1) := by decide +kernel
theorem dX9_setQuarter_113 : decode cX9_setQuarter 113 = .ok (.iadd, 1) := by decide +kernel
theorem dX9_setQuarter_114 : decode cX9_setQuarter 114 = .ok (.iload 6, 2) := by decide +kernel
theorem dX9_setQuarter_116 : decode cX9_setQuarter 116 = .ok (.iastore, 1) := by decide +kernel
theorem dX9_setQuarter_117 : decode cX9_setQuarter 117 = .ok (.iinc 8 1, 3) := by decide +kernel
theorem dX9_setQuarter_120 : decode cX9_setQuarter 120 = .ok (.goto (-94), 3) := by decide +kernel
theorem dX9_setQuarter_123 : decode cX9_setQuarter 123 = .ok (.return_, 1) := by decide +kernel
def FX9_setQuarter (G : GG) (M : DD) (a : Nat) (p0 : Int32) (p1 : Int32) (p2 : Int32) (p3 : Int32) (p4 : Int32) (p5 : Int32) : Option (DD) :=
  bnd (if ((0 : Int32)) ≤ p3 then (ltt ((((9 : Int32)) * p1)) fun x34 =>
  ltt ((x34 + p3)) fun x35 =>
  dr G 14 ((M.2 a 3)) fun b36 =>
  chk (¬ (x35 < 0 ∨ G.2.2 b36 ≤ x35.toNatClampNeg)) <|
  some ((M.2 b36 x35.toNatClampNeg))) else
  (some (none))) fun (y1 : Option Nat) =>
  bnd (itr (fun (s3 : Int32 × DD) => ((if ((4 : Int32)) ≤ s3.1 then (some (.inr (s3.1, s3.2))) else
  (ltt ((((512 : Int32)) * p1)) fun x7 =>
  ltt ((((16 : Int32)) * p0)) fun x8 =>
  ltt ((x7 + x8)) fun x9 =>
  ltt ((((4 : Int32)) * p2)) fun x10 =>
  ltt ((x9 + x10)) fun x11 =>
  ltt ((x11 + s3.1)) fun x12 =>
  dr G 4 ((s3.2.2 a 0)) fun b13 =>
  dr G 13 ((s3.2.2 b13 5)) fun b14 =>
  chk (¬ (x12 < 0 ∨ G.2.2 b14 ≤ x12.toNatClampNeg)) <|
  ltt (uI s3.2 b14 x12.toNatClampNeg p3) fun M15 =>
  dr G 4 ((M15.2 a 0)) fun b16 =>
  bnd (if y1 = none then (some ((0 : Int32))) else
  (dr G 4 y1 fun b31 =>
  ltt (M15.1 b31 0) fun x32 =>
  some (x32))) fun (y17 : Int32) =>
  dr G 13 ((M15.2 b16 6)) fun b18 =>
  chk (¬ (x12 < 0 ∨ G.2.2 b18 ≤ x12.toNatClampNeg)) <|
  ltt (uI M15 b18 x12.toNatClampNeg y17) fun M19 =>
  dr G 4 ((M19.2 a 0)) fun b20 =>
  ltt ((((2 : Int32)) * x12)) fun x21 =>
  dr G 13 ((M19.2 b20 7)) fun b22 =>
  chk (¬ (x21 < 0 ∨ G.2.2 b22 ≤ x21.toNatClampNeg)) <|
  ltt (uI M19 b22 x21.toNatClampNeg p4) fun M23 =>
  dr G 4 ((M23.2 a 0)) fun b24 =>
  ltt ((((2 : Int32)) * x12)) fun x25 =>
  ltt ((x25 + ((1 : Int32)))) fun x26 =>
  dr G 13 ((M23.2 b24 7)) fun b27 =>
  chk (¬ (x26 < 0 ∨ G.2.2 b27 ≤ x26.toNatClampNeg)) <|
  ltt (uI M23 b27 x26.toNatClampNeg p5) fun M28 =>
  ltt (s3.1 + (1 : Int32)) fun x29 =>
  some (.inl (x29, M28)))) : Option ((Int32 × DD) ⊕ (Int32 × DD)))) 1000000 ((0 : Int32), M)) fun (y2 : Int32 × DD) =>
  some y2.2
set_option maxHeartbeats 4000000 in
set_option maxRecDepth 100000 in
theorem kX9_setQuarter (l : Launch) (D : va_G) (ct : CT) (ad : Nat → Nat) (Z : Nat → Nat) (G : GG) (M : DD) (sz : Nat) (a : Nat) (p0 : Int32) (p1 : Int32) (p2 : Int32) (p3 : Int32) (p4 : Int32) (p5 : Int32) (y : DD) (hc : a < G.1) (hk : G.2.1 a = 9) (hF : FX9_setQuarter G M a p0 p1 p2 p3 p4 p5 = some y) : Met l yX9_setQuarter wuX9_setQuarter ({ frames := 0, cells := 0, slots := 0, locals := 0 }) (va_Pc [.ref (ad a), .int p0, .int p1, .int p2, .int p3, .int p4, .int p5] (kB D ct ad Z G M sz)) (va_Qv (fun (_ : Unit) => True) (fun _ t => kE D ct ad G (wA ad G sz) y t) (wA ad G sz)) 0 0 (wA ad G sz) := by
  refine Met.ofW (cc := cX9_setQuarter) (maxL := 10) (ret := none) (by decide) rfl ?_
  intro p e s m args below meth c s₁ B hml hv
  obtain ⟨rfl, hsz, hP, hK, hD0, hZ, hN⟩ := hv
  have hx := B.exec
  have hb := B.bytes
  have hr := B.returns
  have hts := atoms_spec (ws := wuX9_setQuarter) B.pre
  have hown : s.vm.findClass RX9 = some m.cls := findClass_of_methodNamed B.named
  have hlocks := B.notSynchronized
  subst hsz
  have hD := wD_self (sz := s.heap.size) hD0
  have hA9 : ∀ q, s.heap.size ≤ q → wA ad G s.heap.size q := fun q h => Or.inr h
  generalize hAe : wA ad G s.heap.size = A at hD hA9 hZ ⊢
  have hS : va_S A s.heap s.heap [] := va_S.rf
  have hl := lv_entry ([.ref (ad a), .int p0, .int p1, .int p2, .int p3, .int p4, .int p5]) (n := 10) (Nat.le_of_ble_eq_true rfl)
  rw [lg_entry_eq]
  generalize (lg_sl ([.ref (ad a), .int p0, .int p1, .int p2, .int p3, .int p4, .int p5]) ++ List.replicate (10 - (lg_sl ([.ref (ad a), .int p0, .int p1, .int p2, .int p3, .int p4, .int p5])).length) Slot.unset).toArray = ls at hl ⊢
  have hl : lv_has ls 10 [(0, .ref (ad a)), (1, .int p0), (2, .int p1), (3, .int p2), (4, .int p3), (5, .int p4), (6, .int p5)] := hl
  unfold FX9_setQuarter at hF
  refine lv_iload hx hb dX9_setQuarter_0 (lv_at hl 4 rfl) ?_
  obtain ⟨y1, hy1, hF⟩ := bnd_some hF
  have J1 : ∀ (H : Heap) (locs : List Loc) (ls : Array Slot), va_P D classes (wld ct ad G M) H → va_D A (wld ct ad G M) → va_S A s.heap H locs → lv_has ls 10 [(0, .ref (ad a)), (1, .int p0), (2, .int p1), (3, .int p2), (4, .int p3), (5, .int p4), (6, .int p5)] → W p l e (headSpec wuX9_setQuarter ({ frames := 0, cells := 0, slots := 0, locals := 0 })).room s m ([.ref (ad a), .int p0, .int p1, .int p2, .int p3, .int p4, .int p5] : List Value).toArray below meth c H locs 0 0 (MQ below (va_Qv (fun (_ : Unit) => True) (fun _ t => kE D ct ad G A y t) A) ([.ref (ad a), .int p0, .int p1, .int p2, .int p3, .int p4, .int p5] : List Value).toArray s 0 0 A) (F0 m 21 ls [va_re ad y1]) := by
    intro H locs ls hP hD hS hl
    refine lv_astoreq (lv' := [(7, va_re ad y1), (0, .ref (ad a)), (1, .int p0), (2, .int p1), (3, .int p2), (4, .int p3), (5, .int p4), (6, .int p5)]) hx hb dX9_setQuarter_21 hl (by decide) rfl (fun ls hl => ?_)
    refine lv_iconst (v := (0 : Int32)) hx hb dX9_setQuarter_23 (by decide) ?_
    refine lv_istore (lv' := [(8, .int (0 : Int32)), (7, va_re ad y1), (0, .ref (ad a)), (1, .int p0), (2, .int p1), (3, .int p2), (4, .int p3), (5, .int p4), (6, .int p5)]) hx hb dX9_setQuarter_24 hl (by decide) (by generalize y1 = o9; cases o9 <;> rfl) (fun ls hl => ?_)
    obtain ⟨y2, hy2, hF⟩ := bnd_some hF
    have K2 : ∀ (H : Heap) (locs : List Loc) (ls : Array Slot), va_P D classes (wld ct ad G y2.2) H → va_D A (wld ct ad G y2.2) → va_S A s.heap H locs → lv_has ls 10 [(8, .int y2.1), (7, va_re ad y1), (0, .ref (ad a)), (1, .int p0), (2, .int p1), (3, .int p2), (4, .int p3), (5, .int p4), (6, .int p5)] → W p l e (headSpec wuX9_setQuarter ({ frames := 0, cells := 0, slots := 0, locals := 0 })).room s m ([.ref (ad a), .int p0, .int p1, .int p2, .int p3, .int p4, .int p5] : List Value).toArray below meth c H locs 0 0 (MQ below (va_Qv (fun (_ : Unit) => True) (fun _ t => kE D ct ad G A y t) A) ([.ref (ad a), .int p0, .int p1, .int p2, .int p3, .int p4, .int p5] : List Value).toArray s 0 0 A) (F0 m 123 ls []) := by
      intro H locs ls hP hD hS hl
      obtain rfl := Option.some.inj hF
      exact W.vret hx hb hr (fun t ht hW => ⟨⟨(), rfl, trivial, ⟨by rw [ht]; exact hP, va_K.moved hW.alike hK, hD⟩⟩, hS.F ht⟩) hS.2.2 dX9_setQuarter_123
    clear hF
    refine itr_rule (fun (s3 : Int32 × DD) => ∀ (H : Heap) (locs : List Loc) (ls : Array Slot), va_P D classes (wld ct ad G s3.2) H → va_D A (wld ct ad G s3.2) → va_S A s.heap H locs → lv_has ls 10 [(8, .int s3.1), (7, va_re ad y1), (0, .ref (ad a)), (1, .int p0), (2, .int p1), (3, .int p2), (4, .int p3), (5, .int p4), (6, .int p5)] → W p l e (headSpec wuX9_setQuarter ({ frames := 0, cells := 0, slots := 0, locals := 0 })).room s m ([.ref (ad a), .int p0, .int p1, .int p2, .int p3, .int p4, .int p5] : List Value).toArray below meth c H locs 0 0 (MQ below (va_Qv (fun (_ : Unit) => True) (fun _ t => kE D ct ad G A y t) A) ([.ref (ad a), .int p0, .int p1, .int p2, .int p3, .int p4, .int p5] : List Value).toArray s 0 0 A) (F0 m 26 ls [])) ?_ _ _ hy2 _ _ _ hP hD hS (lv_sub hl [0, 1, 2, 3, 4, 5, 6, 7, 8] rfl)
    rintro s3 ⟨z5, hF, hwz5⟩ H locs ls hP hD hS hl
    try dsimp only at hF
    refine lv_iload hx hb dX9_setQuarter_26 (lv_at hl 0 rfl) ?_
    refine lv_iconst (v := (4 : Int32)) hx hb dX9_setQuarter_28 (by decide) ?_
    refine lv_icmp_ge (tgt := 123) hx hb dX9_setQuarter_29 (by decide) (fun c6 => ?_) (fun c6 => ?_)
    · rw [if_pos c6] at hF
      obtain rfl := Option.some.inj hF
      subst hwz5
      exact K2 _ _ _ hP hD hS (lv_sub hl [0, 1, 2, 3, 4, 5, 6, 7, 8] rfl)
    · rw [if_neg c6] at hF
      refine lv_sipush (v := (512 : Int32)) hx hb dX9_setQuarter_32 (by decide) ?_
      refine lv_iload_n hx hb dX9_setQuarter_35 rfl (lv_at hl 4 rfl) ?_
      refine lv_imul hx hb dX9_setQuarter_36 ?_
      obtain ⟨x7, ex7, hF⟩ := ltt_some hF
      refine lv_topi (fun zx7 ezx7 => ?_)
      obtain rfl : x7 = zx7 := ex7.trans ezx7.symm
      refine lv_bipush (v := (16 : Int32)) hx hb dX9_setQuarter_37 (by decide) ?_
      refine lv_iload_n hx hb dX9_setQuarter_39 rfl (lv_at hl 3 rfl) ?_
      refine lv_imul hx hb dX9_setQuarter_40 ?_
      obtain ⟨x8, ex8, hF⟩ := ltt_some hF
      refine lv_topi (fun zx8 ezx8 => ?_)
      obtain rfl : x8 = zx8 := ex8.trans ezx8.symm
      refine lv_iadd hx hb dX9_setQuarter_41 ?_
      obtain ⟨x9, ex9, hF⟩ := ltt_some hF
      refine lv_topi (fun zx9 ezx9 => ?_)
      obtain rfl : x9 = zx9 := ex9.trans ezx9.symm
      refine lv_iconst (v := (4 : Int32)) hx hb dX9_setQuarter_42 (by decide) ?_
      refine lv_iload_n hx hb dX9_setQuarter_43 rfl (lv_at hl 5 rfl) ?_
      refine lv_imul hx hb dX9_setQuarter_44 ?_
      obtain ⟨x10, ex10, hF⟩ := ltt_some hF
      refine lv_topi (fun zx10 ezx10 => ?_)
      obtain rfl : x10 = zx10 := ex10.trans ezx10.symm
      refine lv_iadd hx hb dX9_setQuarter_45 ?_
      obtain ⟨x11, ex11, hF⟩ := ltt_some hF
      refine lv_topi (fun zx11 ezx11 => ?_)
      obtain rfl : x11 = zx11 := ex11.trans ezx11.symm
      refine lv_iload hx hb dX9_setQuarter_46 (lv_at hl 0 rfl) ?_
      refine lv_iadd hx hb dX9_setQuarter_48 ?_
      obtain ⟨x12, ex12, hF⟩ := ltt_some hF
      refine lv_topi (fun zx12 ezx12 => ?_)
      obtain rfl : x12 = zx12 := ex12.trans ezx12.symm
      refine lv_istore (lv' := [(9, .int x12), (8, .int s3.1), (7, va_re ad y1), (0, .ref (ad a)), (1, .int p0), (2, .int p1), (3, .int p2), (4, .int p3), (5, .int p4), (6, .int p5)]) hx hb dX9_setQuarter_49 hl (by decide) rfl (fun ls hl => ?_)
      refine lv_aload_n hx hb dX9_setQuarter_51 rfl (lv_at hl 3 rfl) ?_
      refine va_get (D := D) (ci := 9) (v := va_re ad (s3.2.2 a 0)) (C := RX9) (T := TX9) (N := 20) hx hb hts (mus hf_X9) hown hK hP a (wld_o ct ad G s3.2 hc hk (by decide)) rfl 0 (by decide) (hts (.fieldLink RX9 51 "VideoSuite$Work" "pic" "LVideoSuite$Picture;") (mu mw_422)) (fun _ h9 => h9) rfl dX9_setQuarter_52 ?_
      obtain ⟨b13, ho13, hc13, hk13, hF⟩ := dr_some hF
      refine W_st (st' := [.ref (ad b13)]) (by rw [va_some ho13]) ?_
      refine va_get (D := D) (ci := 4) (v := va_re ad (s3.2.2 b13 5)) (C := RX4) (T := TX4) (N := 18) hx hb hts (mus hf_X4) hown hK hP b13 (wld_o ct ad G s3.2 hc13 hk13 (by decide)) rfl 5 (by decide) (hts (.fieldLink RX9 83 "VideoSuite$Picture" "reference" "[I") (mu mw_1439)) (fun _ h9 => h9) rfl dX9_setQuarter_55 ?_
      refine lv_iload hx hb dX9_setQuarter_58 (lv_at hl 0 rfl) ?_
      refine lv_iload hx hb dX9_setQuarter_60 (lv_at hl 7 rfl) ?_
      obtain ⟨b14, ho14, hc14, hk14, hF⟩ := dr_some hF
      refine W_st (st' := [.int p3, .int x12, .ref (ad b14)]) (by rw [va_some ho14]) ?_
      obtain ⟨hvc, hF⟩ := chk_some hF
      refine va_iast hx hb hK hP hD hS b14 1 (wld_i ct ad G s3.2 hc14 hk14) rfl hvc dX9_setQuarter_62 (fun H locs hP hD hS => ?_)
      obtain ⟨M15, eM15, hF⟩ := ltt_some hF
      rw [set_i ct ad G s3.2 hc14 hk14, ← eM15] at hP hD
      refine lv_aload_n hx hb dX9_setQuarter_63 rfl (lv_at hl 3 rfl) ?_
      refine va_get (D := D) (ci := 9) (v := va_re ad (M15.2 a 0)) (C := RX9) (T := TX9) (N := 20) hx hb hts (mus hf_X9) hown hK hP a (wld_o ct ad G M15 hc hk (by decide)) rfl 0 (by decide) (hts (.fieldLink RX9 51 "VideoSuite$Work" "pic" "LVideoSuite$Picture;") (mu mw_422)) (fun _ h9 => h9) rfl dX9_setQuarter_64 ?_
      obtain ⟨b16, ho16, hc16, hk16, hF⟩ := dr_some hF
      refine W_st (st' := [.ref (ad b16)]) (by rw [va_some ho16]) ?_
      refine va_get (D := D) (ci := 4) (v := va_re ad (M15.2 b16 6)) (C := RX4) (T := TX4) (N := 18) hx hb hts (mus hf_X4) hown hK hP b16 (wld_o ct ad G M15 hc16 hk16 (by decide)) rfl 6 (by decide) (hts (.fieldLink RX9 86 "VideoSuite$Picture" "referenceId" "[I") (mu mw_1443)) (fun _ h9 => h9) rfl dX9_setQuarter_67 ?_
      refine lv_iload hx hb dX9_setQuarter_70 (lv_at hl 0 rfl) ?_
      refine lv_aloadq hx hb dX9_setQuarter_72 (lv_at hl 2 rfl) ?_
      obtain ⟨y17, hy17, hF⟩ := bnd_some hF
      have J17 : ∀ (H : Heap) (locs : List Loc) (ls : Array Slot), va_P D classes (wld ct ad G M15) H → va_D A (wld ct ad G M15) → va_S A s.heap H locs → lv_has ls 10 [(9, .int x12), (8, .int s3.1), (7, va_re ad y1), (0, .ref (ad a)), (1, .int p0), (2, .int p1), (3, .int p2), (4, .int p3), (5, .int p4), (6, .int p5)] → W p l e (headSpec wuX9_setQuarter ({ frames := 0, cells := 0, slots := 0, locals := 0 })).room s m ([.ref (ad a), .int p0, .int p1, .int p2, .int p3, .int p4, .int p5] : List Value).toArray below meth c H locs 0 0 (MQ below (va_Qv (fun (_ : Unit) => True) (fun _ t => kE D ct ad G A y t) A) ([.ref (ad a), .int p0, .int p1, .int p2, .int p3, .int p4, .int p5] : List Value).toArray s 0 0 A) (F0 m 86 ls [.int y17, .int x12, va_re ad (M15.2 b16 6)]) := by
        intro H locs ls hP hD hS hl
        obtain ⟨b18, ho18, hc18, hk18, hF⟩ := dr_some hF
        refine W_st (st' := [.int y17, .int x12, .ref (ad b18)]) (by rw [va_some ho18]) ?_
        obtain ⟨hvc, hF⟩ := chk_some hF
        refine va_iast hx hb hK hP hD hS b18 1 (wld_i ct ad G M15 hc18 hk18) rfl hvc dX9_setQuarter_86 (fun H locs hP hD hS => ?_)
        obtain ⟨M19, eM19, hF⟩ := ltt_some hF
        rw [set_i ct ad G M15 hc18 hk18, ← eM19] at hP hD
        refine lv_aload_n hx hb dX9_setQuarter_87 rfl (lv_at hl 3 rfl) ?_
        refine va_get (D := D) (ci := 9) (v := va_re ad (M19.2 a 0)) (C := RX9) (T := TX9) (N := 20) hx hb hts (mus hf_X9) hown hK hP a (wld_o ct ad G M19 hc hk (by decide)) rfl 0 (by decide) (hts (.fieldLink RX9 51 "VideoSuite$Work" "pic" "LVideoSuite$Picture;") (mu mw_422)) (fun _ h9 => h9) rfl dX9_setQuarter_88 ?_
        obtain ⟨b20, ho20, hc20, hk20, hF⟩ := dr_some hF
        refine W_st (st' := [.ref (ad b20)]) (by rw [va_some ho20]) ?_
        refine va_get (D := D) (ci := 4) (v := va_re ad (M19.2 b20 7)) (C := RX4) (T := TX4) (N := 18) hx hb hts (mus hf_X4) hown hK hP b20 (wld_o ct ad G M19 hc20 hk20 (by decide)) rfl 7 (by decide) (hts (.fieldLink RX9 89 "VideoSuite$Picture" "move" "[I") (mu mw_1447)) (fun _ h9 => h9) rfl dX9_setQuarter_91 ?_
        refine lv_iconst (v := (2 : Int32)) hx hb dX9_setQuarter_94 (by decide) ?_
        refine lv_iload hx hb dX9_setQuarter_95 (lv_at hl 0 rfl) ?_
        refine lv_imul hx hb dX9_setQuarter_97 ?_
        obtain ⟨x21, ex21, hF⟩ := ltt_some hF
        refine lv_topi (fun zx21 ezx21 => ?_)
        obtain rfl : x21 = zx21 := ex21.trans ezx21.symm
        refine lv_iload hx hb dX9_setQuarter_98 (lv_at hl 8 rfl) ?_
        obtain ⟨b22, ho22, hc22, hk22, hF⟩ := dr_some hF
        refine W_st (st' := [.int p4, .int x21, .ref (ad b22)]) (by rw [va_some ho22]) ?_
        obtain ⟨hvc, hF⟩ := chk_some hF
        refine va_iast hx hb hK hP hD hS b22 1 (wld_i ct ad G M19 hc22 hk22) rfl hvc dX9_setQuarter_100 (fun H locs hP hD hS => ?_)
        obtain ⟨M23, eM23, hF⟩ := ltt_some hF
        rw [set_i ct ad G M19 hc22 hk22, ← eM23] at hP hD
        refine lv_aload_n hx hb dX9_setQuarter_101 rfl (lv_at hl 3 rfl) ?_
        refine va_get (D := D) (ci := 9) (v := va_re ad (M23.2 a 0)) (C := RX9) (T := TX9) (N := 20) hx hb hts (mus hf_X9) hown hK hP a (wld_o ct ad G M23 hc hk (by decide)) rfl 0 (by decide) (hts (.fieldLink RX9 51 "VideoSuite$Work" "pic" "LVideoSuite$Picture;") (mu mw_422)) (fun _ h9 => h9) rfl dX9_setQuarter_102 ?_
        obtain ⟨b24, ho24, hc24, hk24, hF⟩ := dr_some hF
        refine W_st (st' := [.ref (ad b24)]) (by rw [va_some ho24]) ?_
        refine va_get (D := D) (ci := 4) (v := va_re ad (M23.2 b24 7)) (C := RX4) (T := TX4) (N := 18) hx hb hts (mus hf_X4) hown hK hP b24 (wld_o ct ad G M23 hc24 hk24 (by decide)) rfl 7 (by decide) (hts (.fieldLink RX9 89 "VideoSuite$Picture" "move" "[I") (mu mw_1447)) (fun _ h9 => h9) rfl dX9_setQuarter_105 ?_
        refine lv_iconst (v := (2 : Int32)) hx hb dX9_setQuarter_108 (by decide) ?_
        refine lv_iload hx hb dX9_setQuarter_109 (lv_at hl 0 rfl) ?_
        refine lv_imul hx hb dX9_setQuarter_111 ?_
        obtain ⟨x25, ex25, hF⟩ := ltt_some hF
        refine lv_topi (fun zx25 ezx25 => ?_)
        obtain rfl : x25 = zx25 := ex25.trans ezx25.symm
        refine lv_iconst (v := (1 : Int32)) hx hb dX9_setQuarter_112 (by decide) ?_
        refine lv_iadd hx hb dX9_setQuarter_113 ?_
        obtain ⟨x26, ex26, hF⟩ := ltt_some hF
        refine lv_topi (fun zx26 ezx26 => ?_)
        obtain rfl : x26 = zx26 := ex26.trans ezx26.symm
        refine lv_iload hx hb dX9_setQuarter_114 (lv_at hl 9 rfl) ?_
        obtain ⟨b27, ho27, hc27, hk27, hF⟩ := dr_some hF
        refine W_st (st' := [.int p5, .int x26, .ref (ad b27)]) (by rw [va_some ho27]) ?_
        obtain ⟨hvc, hF⟩ := chk_some hF
        refine va_iast hx hb hK hP hD hS b27 1 (wld_i ct ad G M23 hc27 hk27) rfl hvc dX9_setQuarter_116 (fun H locs hP hD hS => ?_)
        obtain ⟨M28, eM28, hF⟩ := ltt_some hF
        rw [set_i ct ad G M23 hc27 hk27, ← eM28] at hP hD
        obtain ⟨x29, ex29, hF⟩ := ltt_some hF
        refine lv_iinc (v := x29) (lv' := [(8, .int x29), (9, .int x12), (7, va_re ad y1), (0, .ref (ad a)), (1, .int p0), (2, .int p1), (3, .int p2), (4, .int p3), (5, .int p4), (6, .int p5)]) hx hb dX9_setQuarter_117 hl (k := 1) rfl (by rw [ex29]; rfl) (by decide) (by generalize y1 = o9; cases o9 <;> rfl) (fun ls hl => ?_)
        refine lv_goto (tgt := 26) hx hb dX9_setQuarter_120 (by decide) ?_
        obtain rfl := Option.some.inj hF
        exact hwz5 _ _ _ hP hD hS (lv_sub hl [0, 2, 3, 4, 5, 6, 7, 8, 9] rfl)
      clear hF
      have hF := hy17
      clear hy17
      refine lv_ifnonnullq (tgt := 81) hx hb dX9_setQuarter_74 (by decide) (fun c30 => ?_) (fun c30 => ?_)
      · rw [if_neg c30] at hF
        refine lv_aloadq hx hb dX9_setQuarter_81 (lv_at hl 2 rfl) ?_
        obtain ⟨b31, ho31, hc31, hk31, hF⟩ := dr_some hF
        refine W_st (st' := [.ref (ad b31), .int x12, va_re ad (M15.2 b16 6)]) (by rw [va_some ho31]) ?_
        refine va_get (D := D) (ci := 4) (v := .int (M15.1 b31 0)) (C := RX4) (T := TX4) (N := 18) hx hb hts (mus hf_X4) hown hK hP b31 (wld_o ct ad G M15 hc31 hk31 (by decide)) rfl 0 (by decide) (hts (.fieldLink RX9 161 "VideoSuite$Picture" "id" "I") (mu mw_1419)) (fun _ h9 => h9) rfl dX9_setQuarter_83 ?_
        obtain ⟨x32, ex32, hF⟩ := ltt_some hF
        refine lv_topi (fun zx32 ezx32 => ?_)
        obtain rfl : x32 = zx32 := ex32.trans ezx32.symm
        obtain rfl := Option.some.inj hF
        exact J17 _ _ _ hP hD hS (lv_sub hl [0, 1, 2, 3, 4, 5, 6, 7, 8, 9] rfl)
      · rw [if_pos c30] at hF
        refine lv_iconst (v := (0 : Int32)) hx hb dX9_setQuarter_77 (by decide) ?_
        refine lv_goto (tgt := 86) hx hb dX9_setQuarter_78 (by decide) ?_
        obtain rfl := Option.some.inj hF
        exact J17 _ _ _ hP hD hS (lv_sub hl [0, 1, 2, 3, 4, 5, 6, 7, 8, 9] rfl)
  clear hF
  have hF := hy1
  clear hy1
  refine lv_if_ge (tgt := 9) hx hb dX9_setQuarter_2 (by decide) (fun c33 => ?_) (fun c33 => ?_)
  · rw [if_pos c33] at hF
    refine lv_aload_n hx hb dX9_setQuarter_9 rfl (lv_at hl 0 rfl) ?_
    refine va_get (D := D) (ci := 9) (v := va_re ad (M.2 a 3)) (C := RX9) (T := TX9) (N := 20) hx hb hts (mus hf_X9) hown hK hP a (wld_o ct ad G M hc hk (by decide)) rfl 3 (by decide) (hts (.fieldLink RX9 11 "VideoSuite$Work" "lists" "[LVideoSuite$Picture;") (mu mw_435)) (fun _ h9 => h9) rfl dX9_setQuarter_10 ?_
    refine lv_bipush (v := (9 : Int32)) hx hb dX9_setQuarter_13 (by decide) ?_
    refine lv_iload_n hx hb dX9_setQuarter_15 rfl (lv_at hl 2 rfl) ?_
    refine lv_imul hx hb dX9_setQuarter_16 ?_
    obtain ⟨x34, ex34, hF⟩ := ltt_some hF
    refine lv_topi (fun zx34 ezx34 => ?_)
    obtain rfl : x34 = zx34 := ex34.trans ezx34.symm
    refine lv_iload hx hb dX9_setQuarter_17 (lv_at hl 4 rfl) ?_
    refine lv_iadd hx hb dX9_setQuarter_19 ?_
    obtain ⟨x35, ex35, hF⟩ := ltt_some hF
    refine lv_topi (fun zx35 ezx35 => ?_)
    obtain rfl : x35 = zx35 := ex35.trans ezx35.symm
    obtain ⟨b36, ho36, hc36, hk36, hF⟩ := dr_some hF
    refine W_st (st' := [.int x35, .ref (ad b36)]) (by rw [va_some ho36]) ?_
    obtain ⟨hvc, hF⟩ := chk_some hF
    refine ld_q hx hb hK hP hc36 hk36 hvc dX9_setQuarter_20 ?_
    obtain rfl := Option.some.inj hF
    exact J1 _ _ _ hP hD hS (lv_sub hl [0, 1, 2, 3, 4, 5, 6] rfl)
  · rw [if_neg c33] at hF
    refine lv_nullq (ad := ad) hx hb dX9_setQuarter_5 ?_
    refine lv_goto (tgt := 21) hx hb dX9_setQuarter_6 (by decide) ?_
    obtain rfl := Option.some.inj hF
    exact J1 _ _ _ hP hD hS (lv_sub hl [0, 1, 2, 3, 4, 5, 6] rfl)
set_option maxRecDepth 20000 in
theorem gX9_setReference_X9_pieceX : GoodIn wuX9_setReference (va_wsS RX9 122 yX9_pieceX wuX9_pieceX) := gu_S mw_1918 mw_949 mw_171 mw_950
set_option maxRecDepth 20000 in
set_option maxRecDepth 20000 in
theorem gX9_setReference_X9_pieceY : GoodIn wuX9_setReference (va_wsS RX9 126 yX9_pieceY wuX9_pieceY) := gu_S mw_1919 mw_952 mw_171 mw_953
set_option maxRecDepth 20000 in
set_option maxRecDepth 20000 in
theorem gX9_setReference_X4_at : GoodIn wuX9_setReference (va_wsS RX9 80 yX4_at wuX4_at) := gu_S mw_1795 mw_1796 mw_185 mw_1797
theorem dX9_setReference_0 : decode cX9_setReference 0 = .ok (.aload_n 0, 1) := by decide +kernel
theorem dX9_setReference_1 : decode cX9_setReference 1 = .ok (.getfield 11, 3) := by decide +kernel
theorem dX9_setReference_4 : decode cX9_setReference 4 = .ok (.bipush 9, 2) := by decide +kernel
theorem dX9_setReference_6 : decode cX9_setReference 6 = .ok (.iload_n 2, 1) := by decide +kernel
theorem dX9_setReference_7 : decode cX9_setReference 7 = .ok (.imul, 1) := by decide +kernel
theorem dX9_setReference_8 : decode cX9_setReference 8 = .ok (.iload 4, 2) := by decide +kernel
theorem dX9_setReference_10 : decode cX9_setReference 10 = .ok (.iadd, 1) := by decide +kernel
theorem dX9_setReference_11 : decode cX9_setReference 11 = .ok (.aaload, 1) := by decide +kernel
theorem dX9_setReference_12 : decode cX9_setReference 12 = .ok (.astore 5, 2) := by decide +kernel
theorem dX9_setReference_14 : decode cX9_setReference 14 = .ok (.aload_n 0, 1) := by decide +kernel
theorem dX9_setReference_15 : decode cX9_setReference 15 = .ok (.getfield 45, 3) := by decide +kernel
theorem dX9_setReference_18 : decode cX9_setReference 18 = .ok (.iconst 4, 1) := by decide +kernel
theorem dX9_setReference_19 : decode cX9_setReference 19 = .ok (.iload_n 3, 1) := by decide +kernel
theorem dX9_setReference_20 : decode cX9_setReference 20 = .ok (.imul, 1) := by decide +kernel
theorem dX9_setReference_21 : decode cX9_setReference 21 = .ok (.iaload, 1) := by decide +kernel
theorem dX9_setReference_22 : decode cX9_setReference 22 = .ok (.invokestatic 122, 3) := by decide +kernel
theorem dX9_setReference_25 : decode cX9_setReference 25 = .ok (.istore 6, 2) := by decide +kernel
theorem dX9_setReference_27 : decode cX9_setReference 27 = .ok (.aload_n 0, 1) := by decide +kernel
theorem dX9_setReference_28 : decode cX9_setReference 28 = .ok (.getfield 45, 3) := by decide +kernel
theorem dX9_setReference_31 : decode cX9_setReference 31 = .ok (.iconst 4, 1) := by decide +kernel
theorem dX9_setReference_32 : decode cX9_setReference 32 = .ok (.iload_n 3, 1) := by decide +kernel
theorem dX9_setReference_33 : decode cX9_setReference 33 = .ok (.imul, 1) := by decide +kernel
theorem dX9_setReference_34 : decode cX9_setReference 34 = .ok (.iaload, 1) := by decide +kernel
theorem dX9_setReference_35 : decode cX9_setReference 35 = .ok (.invokestatic 126, 3) := by decide +kernel
theorem dX9_setReference_38 : decode cX9_setReference 38 = .ok (.istore 7, 2) := by decide +kernel
theorem dX9_setReference_40 : decode cX9_setReference 40 = .ok (.iconst 0, 1) := by decide +kernel
theorem dX9_setReference_41 : decode cX9_setReference 41 = .ok (.istore 8, 2) := by decide +kernel
theorem dX9_setReference_43 : decode cX9_setReference 43 = .ok (.iload 8, 2) := by decide +kernel
theorem dX9_setReference_45 : decode cX9_setReference 45 = .ok (.bipush 16, 2) := by decide +kernel
theorem dX9_setReference_47 : decode cX9_setReference 47 = .ok (.if_icmp .ge 118, 3) := by decide +kernel
theorem dX9_setReference_50 : decode cX9_setReference 50 = .ok (.iload 8, 2) := by decide +kernel
theorem dX9_setReference_52 : decode cX9_setReference 52 = .ok (.invokestatic 122, 3) := by decide +kernel
theorem dX9_setReference_55 : decode cX9_setReference 55 = .ok (.iload 6, 2) := by decide +kernel
theorem dX9_setReference_57 : decode cX9_setReference 57 = .ok (.isub, 1) := by decide +kernel
theorem dX9_setReference_58 : decode cX9_setReference 58 = .ok (.istore 9, 2) := by decide +kernel
theorem dX9_setReference_60 : decode cX9_setReference 60 = .ok (.iload 8, 2) := by decide +kernel
theorem dX9_setReference_62 : decode cX9_setReference 62 = .ok (.invokestatic 126, 3) := by decide +kernel
theorem dX9_setReference_65 : decode cX9_setReference 65 = .ok (.iload 7, 2) := by decide +kernel
theorem dX9_setReference_67 : decode cX9_setReference 67 = .ok (.isub, 1) := by decide +kernel
theorem dX9_setReference_68 : decode cX9_setReference 68 = .ok (.istore 10, 2) := by decide +kernel
theorem dX9_setReference_70 : decode cX9_setReference 70 = .ok (.iload 9, 2) := by decide +kernel
theorem dX9_setReference_72 : decode cX9_setReference 72 = .ok (.ifCond .lt 87, 3) := by decide +kernel
theorem dX9_setReference_75 : decode cX9_setReference 75 = .ok (.iload 9, 2) := by decide +kernel
theorem dX9_setReference_77 : decode cX9_setReference 77 = .ok (.aload_n 0, 1) := by decide +kernel
theorem dX9_setReference_78 : decode cX9_setReference 78 = .ok (.getfield 45, 3) := by decide +kernel
theorem dX9_setReference_81 : decode cX9_setReference 81 = .ok (.iconst 4, 1) := by decide +kernel
theorem dX9_setReference_82 : decode cX9_setReference 82 = .ok (.iload_n 3, 1) := by decide +kernel
theorem dX9_setReference_83 : decode cX9_setReference 83 = .ok (.imul, 1) := by decide +kernel
theorem dX9_setReference_84 : decode cX9_setReference 84 = .ok (.iconst 1, 1) := by decide +kernel
theorem dX9_setReference_85 : decode cX9_setReference 85 = .ok (.iadd, 1) := by decide +kernel
theorem dX9_setReference_86 : decode cX9_setReference 86 = .ok (.iaload, 1) := by decide +kernel
theorem dX9_setReference_87 : decode cX9_setReference 87 = .ok (.if_icmp .ge 72, 3) := by decide +kernel
theorem dX9_setReference_90 : decode cX9_setReference 90 = .ok (.iload 10, 2) := by decide +kernel
theorem dX9_setReference_92 : decode cX9_setReference 92 = .ok (.ifCond .lt 67, 3) := by decide +kernel
theorem dX9_setReference_95 : decode cX9_setReference 95 = .ok (.iload 10, 2) := by decide +kernel
theorem dX9_setReference_97 : decode cX9_setReference 97 = .ok (.aload_n 0, 1) := by decide +kernel
theorem dX9_setReference_98 : decode cX9_setReference 98 = .ok (.getfield 45, 3) := by decide +kernel
theorem dX9_setReference_101 : decode cX9_setReference 101 = .ok (.iconst 4, 1) := by decide +kernel
theorem dX9_setReference_102 : decode cX9_setReference 102 = .ok (.iload_n 3, 1) := by decide +kernel
theorem dX9_setReference_103 : decode cX9_setReference 103 = .ok (.imul, 1) := by decide +kernel
theorem dX9_setReference_104 : decode cX9_setReference 104 = .ok (.iconst 2, 1) := by decide +kernel
theorem dX9_setReference_105 : decode cX9_setReference 105 = .ok (.iadd, 1) := by decide +kernel
theorem dX9_setReference_106 : decode cX9_setReference 106 = .ok (.iaload, 1) := by decide +kernel
theorem dX9_setReference_107 : decode cX9_setReference 107 = .ok (.if_icmp .ge 52, 3) := by decide +kernel
theorem dX9_setReference_110 : decode cX9_setReference 110 = .ok (.iload_n 2, 1) := by decide +kernel
theorem dX9_setReference_111 : decode cX9_setReference 111 = .ok (.bipush 16, 2) := by decide +kernel
theorem dX9_setReference_113 : decode cX9_setReference 113 = .ok (.iload_n 1, 1) := by decide +kernel
theorem dX9_setReference_114 : decode cX9_setReference 114 = .ok (.imul, 1) := by decide +kernel
theorem dX9_setReference_115 : decode cX9_setReference 115 = .ok (.iload 8, 2) := by decide +kernel
theorem dX9_setReference_117 : decode cX9_setReference 117 = .ok (.iadd, 1) := by decide +kernel
theorem dX9_setReference_118 : decode cX9_setReference 118 = .ok (.invokestatic 80, 3) := by decide +kernel
theorem dX9_setReference_121 : decode cX9_setReference 121 = .ok (.istore 11, 2) := by decide +kernel
theorem dX9_setReference_123 : decode cX9_setReference 123 = .ok (.aload_n 0, 1) := by decide +kernel
theorem dX9_setReference_124 : decode cX9_setReference 124 = .ok (.getfield 51, 3) := by decide +kernel
theorem dX9_setReference_127 : decode cX9_setReference 127 = .ok (.getfield 83, 3) := by decide +kernel
theorem dX9_setReference_130 : decode cX9_setReference 130 = .ok (.iload 11, 2) := by decide +kernel
theorem dX9_setReference_132 : decode cX9_setReference 132 = .ok (.iload 4, 2) := by decide +kernel
theorem dX9_setReference_134 : decode cX9_setReference 134 = .ok (.iastore, 1) := by decide +kernel
theorem dX9_setReference_135 : decode cX9_setReference 135 = .ok (.aload_n 0, 1) := by decide +kernel
theorem dX9_setReference_136 : decode cX9_setReference 136 = .ok (.getfield 51, 3) := by decide +kernel
theorem dX9_setReference_139 : decode cX9_setReference 139 = .ok (.getfield 86, 3) := by decide +kernel
theorem dX9_setReference_142 : decode cX9_setReference 142 = .ok (.iload 11, 2) := by decide +kernel
theorem dX9_setReference_144 : decode cX9_setReference 144 = .ok (.aload 5, 2) := by decide +kernel
theorem dX9_setReference_146 : decode cX9_setReference 146 = .ok (.ifnonnull 7, 3) := by decide +kernel
theorem dX9_setReference_149 : decode cX9_setReference 149 = .ok (.iconst 0, 1) := by decide +kernel
theorem dX9_setReference_150 : decode cX9_setReference 150 = .ok (.goto 8, 3) := by decide +kernel
theorem dX9_setReference_153 : decode cX9_setReference 153 = .ok (.aload 5, 2) := by decide +kernel
theorem dX9_setReference_155 : decode cX9_setReference 155 = .ok (.getfield 161, 3) := by decide +kernel
theorem dX9_setReference_158 : decode cX9_setReference 158 = .ok (.iastore, 1) := by decide +kernel
theorem dX9_setReference_159 : decode cX9_setReference 159 = .ok (.iinc 8 1, 3) := by decide +kernel
theorem dX9_setReference_162 : decode cX9_setReference 162 = .ok (.goto (-119), 3) := by decide +kernel
theorem dX9_setReference_165 : decode cX9_setReference 165 = .ok (.return_, 1) := by decide +kernel
def FX9_setReference (G : GG) (M : DD) (a : Nat) (p0 : Int32) (p1 : Int32) (p2 : Int32) (p3 : Int32) : Option (DD) :=
  ltt ((((9 : Int32)) * p1)) fun x1 =>
  ltt ((x1 + p3)) fun x2 =>
  dr G 14 ((M.2 a 3)) fun b3 =>
  chk (¬ (x2 < 0 ∨ G.2.2 b3 ≤ x2.toNatClampNeg)) <|
  ltt ((((4 : Int32)) * p2)) fun x4 =>
  dr G 13 ((M.2 a 15)) fun b5 =>
  chk (¬ (x4 < 0 ∨ G.2.2 b5 ≤ x4.toNatClampNeg)) <|
  ltt (M.1 b5 x4.toNatClampNeg) fun x6 =>
  bnd (FX9_pieceX G M x6) fun y7 =>
  ltt ((((4 : Int32)) * p2)) fun x8 =>
  dr G 13 ((y7.1.2 a 15)) fun b9 =>
  chk (¬ (x8 < 0 ∨ G.2.2 b9 ≤ x8.toNatClampNeg)) <|
  ltt (y7.1.1 b9 x8.toNatClampNeg) fun x10 =>
  bnd (FX9_pieceY G y7.1 x10) fun y11 =>
  bnd (itr (fun (s13 : Int32 × DD) => ((if ((16 : Int32)) ≤ s13.1 then (some (.inr (s13.1, s13.2))) else
  (bnd (FX9_pieceX G s13.2 s13.1) fun y17 =>
  ltt ((y17.2 - y7.2)) fun x18 =>
  bnd (FX9_pieceY G y17.1 s13.1) fun y19 =>
  ltt ((y19.2 - y11.2)) fun x20 =>
  bnd (if x18 < ((0 : Int32)) then (some (y19.1)) else
  (ltt ((((4 : Int32)) * p2)) fun x24 =>
  ltt ((x24 + ((1 : Int32)))) fun x25 =>
  dr G 13 ((y19.1.2 a 15)) fun b26 =>
  chk (¬ (x25 < 0 ∨ G.2.2 b26 ≤ x25.toNatClampNeg)) <|
  ltt (y19.1.1 b26 x25.toNatClampNeg) fun x27 =>
  bnd (if x27 ≤ x18 then (some (y19.1)) else
  (bnd (if x20 < ((0 : Int32)) then (some (y19.1)) else
  (ltt ((((4 : Int32)) * p2)) fun x32 =>
  ltt ((x32 + ((2 : Int32)))) fun x33 =>
  chk (¬ (x33 < 0 ∨ G.2.2 b26 ≤ x33.toNatClampNeg)) <|
  ltt (y19.1.1 b26 x33.toNatClampNeg) fun x34 =>
  bnd (if x34 ≤ x20 then (some (y19.1)) else
  (ltt ((((16 : Int32)) * p0)) fun x37 =>
  ltt ((x37 + s13.1)) fun x38 =>
  bnd (FX4_at G y19.1 p1 x38) fun y39 =>
  dr G 4 ((y39.1.2 a 0)) fun b40 =>
  dr G 13 ((y39.1.2 b40 5)) fun b41 =>
  chk (¬ (y39.2 < 0 ∨ G.2.2 b41 ≤ y39.2.toNatClampNeg)) <|
  ltt (uI y39.1 b41 y39.2.toNatClampNeg p3) fun M42 =>
  dr G 4 ((M42.2 a 0)) fun b43 =>
  bnd (if ((M.2 b3 x2.toNatClampNeg)) = none then (some ((0 : Int32))) else
  (dr G 4 ((M.2 b3 x2.toNatClampNeg)) fun b48 =>
  ltt (M42.1 b48 0) fun x49 =>
  some (x49))) fun (y44 : Int32) =>
  dr G 13 ((M42.2 b43 6)) fun b45 =>
  chk (¬ (y39.2 < 0 ∨ G.2.2 b45 ≤ y39.2.toNatClampNeg)) <|
  ltt (uI M42 b45 y39.2.toNatClampNeg y44) fun M46 =>
  some (M46))) fun (y35 : DD) =>
  some (y35))) fun (y30 : DD) =>
  some (y30))) fun (y28 : DD) =>
  some (y28))) fun (y21 : DD) =>
  ltt (s13.1 + (1 : Int32)) fun x22 =>
  some (.inl (x22, y21)))) : Option ((Int32 × DD) ⊕ (Int32 × DD)))) 1000000 ((0 : Int32), y11.1)) fun (y12 : Int32 × DD) =>
  some y12.2
set_option maxHeartbeats 4000000 in
set_option maxRecDepth 100000 in
theorem kX9_setReference (l : Launch) (D : va_G) (ct : CT) (ad : Nat → Nat) (Z : Nat → Nat) (G : GG) (M : DD) (sz : Nat) (a : Nat) (p0 : Int32) (p1 : Int32) (p2 : Int32) (p3 : Int32) (y : DD) (hc : a < G.1) (hk : G.2.1 a = 9) (hF : FX9_setReference G M a p0 p1 p2 p3 = some y) : Met l yX9_setReference wuX9_setReference ({ frames := 1, cells := 0, slots := 0, locals := 21 }) (va_Pc [.ref (ad a), .int p0, .int p1, .int p2, .int p3] (kB D ct ad Z G M sz)) (va_Qv (fun (_ : Unit) => True) (fun _ t => kE D ct ad G (wA ad G sz) y t) (wA ad G sz)) 0 0 (wA ad G sz) := by
  refine Met.ofW (cc := cX9_setReference) (maxL := 12) (ret := none) (by decide) rfl ?_
  intro p e s m args below meth c s₁ B hml hv
  obtain ⟨rfl, hsz, hP, hK, hD0, hZ, hN⟩ := hv
  have hx := B.exec
  have hb := B.bytes
  have hr := B.returns
  have hts := atoms_spec (ws := wuX9_setReference) B.pre
  have hown : s.vm.findClass RX9 = some m.cls := findClass_of_methodNamed B.named
  have hlocks := B.notSynchronized
  subst hsz
  have hD := wD_self (sz := s.heap.size) hD0
  have hA9 : ∀ q, s.heap.size ≤ q → wA ad G s.heap.size q := fun q h => Or.inr h
  generalize hAe : wA ad G s.heap.size = A at hD hA9 hZ ⊢
  have hS : va_S A s.heap s.heap [] := va_S.rf
  have hl := lv_entry ([.ref (ad a), .int p0, .int p1, .int p2, .int p3]) (n := 12) (Nat.le_of_ble_eq_true rfl)
  rw [lg_entry_eq]
  generalize (lg_sl ([.ref (ad a), .int p0, .int p1, .int p2, .int p3]) ++ List.replicate (12 - (lg_sl ([.ref (ad a), .int p0, .int p1, .int p2, .int p3])).length) Slot.unset).toArray = ls at hl ⊢
  have hl : lv_has ls 12 [(0, .ref (ad a)), (1, .int p0), (2, .int p1), (3, .int p2), (4, .int p3)] := hl
  unfold FX9_setReference at hF
  refine lv_aload_n hx hb dX9_setReference_0 rfl (lv_at hl 0 rfl) ?_
  refine va_get (D := D) (ci := 9) (v := va_re ad (M.2 a 3)) (C := RX9) (T := TX9) (N := 20) hx hb hts (mus hf_X9) hown hK hP a (wld_o ct ad G M hc hk (by decide)) rfl 3 (by decide) (hts (.fieldLink RX9 11 "VideoSuite$Work" "lists" "[LVideoSuite$Picture;") (mu mw_435)) (fun _ h9 => h9) rfl dX9_setReference_1 ?_
  refine lv_bipush (v := (9 : Int32)) hx hb dX9_setReference_4 (by decide) ?_
  refine lv_iload_n hx hb dX9_setReference_6 rfl (lv_at hl 2 rfl) ?_
  refine lv_imul hx hb dX9_setReference_7 ?_
  obtain ⟨x1, ex1, hF⟩ := ltt_some hF
  refine lv_topi (fun zx1 ezx1 => ?_)
  obtain rfl : x1 = zx1 := ex1.trans ezx1.symm
  refine lv_iload hx hb dX9_setReference_8 (lv_at hl 4 rfl) ?_
  refine lv_iadd hx hb dX9_setReference_10 ?_
  obtain ⟨x2, ex2, hF⟩ := ltt_some hF
  refine lv_topi (fun zx2 ezx2 => ?_)
  obtain rfl : x2 = zx2 := ex2.trans ezx2.symm
  obtain ⟨b3, ho3, hc3, hk3, hF⟩ := dr_some hF
  refine W_st (st' := [.int x2, .ref (ad b3)]) (by rw [va_some ho3]) ?_
  obtain ⟨hvc, hF⟩ := chk_some hF
  refine ld_q hx hb hK hP hc3 hk3 hvc dX9_setReference_11 ?_
  refine lv_astoreq (lv' := [(5, va_re ad (M.2 b3 x2.toNatClampNeg)), (0, .ref (ad a)), (1, .int p0), (2, .int p1), (3, .int p2), (4, .int p3)]) hx hb dX9_setReference_12 hl (by decide) rfl (fun ls hl => ?_)
  refine lv_aload_n hx hb dX9_setReference_14 rfl (lv_at hl 1 rfl) ?_
  refine va_get (D := D) (ci := 9) (v := va_re ad (M.2 a 15)) (C := RX9) (T := TX9) (N := 20) hx hb hts (mus hf_X9) hown hK hP a (wld_o ct ad G M hc hk (by decide)) rfl 15 (by decide) (hts (.fieldLink RX9 45 "VideoSuite$Work" "group" "[I") (mu mw_472)) (fun _ h9 => h9) rfl dX9_setReference_15 ?_
  refine lv_iconst (v := (4 : Int32)) hx hb dX9_setReference_18 (by decide) ?_
  refine lv_iload_n hx hb dX9_setReference_19 rfl (lv_at hl 4 rfl) ?_
  refine lv_imul hx hb dX9_setReference_20 ?_
  obtain ⟨x4, ex4, hF⟩ := ltt_some hF
  refine lv_topi (fun zx4 ezx4 => ?_)
  obtain rfl : x4 = zx4 := ex4.trans ezx4.symm
  obtain ⟨b5, ho5, hc5, hk5, hF⟩ := dr_some hF
  refine W_st (st' := [.int x4, .ref (ad b5)]) (by rw [va_some ho5]) ?_
  obtain ⟨hvc, hF⟩ := chk_some hF
  refine va_iald hx hb hK hP b5 1 (wld_i ct ad G M hc5 hk5) rfl hvc dX9_setReference_21 ?_
  obtain ⟨x6, ex6, hF⟩ := ltt_some hF
  refine lv_topi (fun zx6 ezx6 => ?_)
  obtain rfl : x6 = zx6 := ex6.trans ezx6.symm
  obtain ⟨y7, hy7, hF⟩ := bnd_some hF
  have hf9 := wA_in hD hA9 hS
  refine va_calli (va_runS (As := [.int x6]) (rest := []) ⟨hx, hb, hml, hown, hts⟩ (kX9_pieceX l D ct ad Z G M s.heap.size x6 y7 hy7) (va_cwS 1 hts gX9_setReference_X9_pieceX rfl rfl rfl (by decide +kernel) ⟨Nat.le_of_ble_eq_true rfl, Nat.le_of_ble_eq_true rfl⟩) ⟨fun a U g mk q => by obtain ⟨q0, q1, qP, qK, qD, qZ, qN⟩ := q; exact ⟨q0, q1, qP, va_K.moved (u := U) (U := U.calling g mk a) (Vm.Alike.refl U.vm) qK, qD, sF.moved (u := U) (U := U.calling g mk a) (Vm.Alike.refl U.vm) qZ, nF.same rfl qN⟩, fun U hU hW => ⟨rfl, by rw [hU], by rw [hU]; exact hP, va_K.moved hW.alike hK, hD.weaken (fun _ _ _ _ => trivial), by rw [hU]; exact ((hZ.kept hS.2.1).narrow hf9).moved hW.alike, hN.warm hW⟩⟩ rfl rfl hl.1 rfl (lv_room (Nat.le_of_ble_eq_true rfl)) dX9_setReference_22 ⟨(Nat.zero_le _), (Nat.zero_le _)⟩) hS (fun q _ h => hf9 q h) hf9 (fun r u t H locs ht hvm hw hB hz1 hk1 hS => ?_)
  obtain ⟨hP, hK9, hD9⟩ := hB
  rw [ht] at hP
  try dsimp only at hw
  subst hw
  have hD := hD9.weaken (fun _ q _ h => hf9 q.1 h)
  refine lv_istore (lv' := [(6, .int y7.2), (5, va_re ad (M.2 b3 x2.toNatClampNeg)), (0, .ref (ad a)), (1, .int p0), (2, .int p1), (3, .int p2), (4, .int p3)]) hx hb dX9_setReference_25 hl (by decide) (by generalize ((M.2 b3 x2.toNatClampNeg)) = o9; cases o9 <;> rfl) (fun ls hl => ?_)
  refine lv_aload_n hx hb dX9_setReference_27 rfl (lv_at hl 2 rfl) ?_
  refine va_get (D := D) (ci := 9) (v := va_re ad (y7.1.2 a 15)) (C := RX9) (T := TX9) (N := 20) hx hb hts (mus hf_X9) hown hK hP a (wld_o ct ad G y7.1 hc hk (by decide)) rfl 15 (by decide) (hts (.fieldLink RX9 45 "VideoSuite$Work" "group" "[I") (mu mw_472)) (fun _ h9 => h9) rfl dX9_setReference_28 ?_
  refine lv_iconst (v := (4 : Int32)) hx hb dX9_setReference_31 (by decide) ?_
  refine lv_iload_n hx hb dX9_setReference_32 rfl (lv_at hl 5 rfl) ?_
  refine lv_imul hx hb dX9_setReference_33 ?_
  obtain ⟨x8, ex8, hF⟩ := ltt_some hF
  refine lv_topi (fun zx8 ezx8 => ?_)
  obtain rfl : x8 = zx8 := ex8.trans ezx8.symm
  obtain ⟨b9, ho9, hc9, hk9, hF⟩ := dr_some hF
  refine W_st (st' := [.int x8, .ref (ad b9)]) (by rw [va_some ho9]) ?_
  obtain ⟨hvc, hF⟩ := chk_some hF
  refine va_iald hx hb hK hP b9 1 (wld_i ct ad G y7.1 hc9 hk9) rfl hvc dX9_setReference_34 ?_
  obtain ⟨x10, ex10, hF⟩ := ltt_some hF
  refine lv_topi (fun zx10 ezx10 => ?_)
  obtain rfl : x10 = zx10 := ex10.trans ezx10.symm
  obtain ⟨y11, hy11, hF⟩ := bnd_some hF
  have hf9 := wA_in hD hA9 hS
  refine va_calli (va_runS (As := [.int x10]) (rest := []) ⟨hx, hb, hml, hown, hts⟩ (kX9_pieceY l D ct ad Z G y7.1 H.size x10 y11 hy11) (va_cwS 1 hts gX9_setReference_X9_pieceY rfl rfl rfl (by decide +kernel) ⟨Nat.le_of_ble_eq_true rfl, Nat.le_of_ble_eq_true rfl⟩) ⟨fun a U g mk q => by obtain ⟨q0, q1, qP, qK, qD, qZ, qN⟩ := q; exact ⟨q0, q1, qP, va_K.moved (u := U) (U := U.calling g mk a) (Vm.Alike.refl U.vm) qK, qD, sF.moved (u := U) (U := U.calling g mk a) (Vm.Alike.refl U.vm) qZ, nF.same rfl qN⟩, fun U hU hW => ⟨rfl, by rw [hU], by rw [hU]; exact hP, va_K.moved hW.alike hK, hD.weaken (fun _ _ _ _ => trivial), by rw [hU]; exact ((hZ.kept hS.2.1).narrow hf9).moved hW.alike, hN.warm hW⟩⟩ rfl rfl hl.1 rfl (lv_room (Nat.le_of_ble_eq_true rfl)) dX9_setReference_35 ⟨(Nat.zero_le _), (Nat.zero_le _)⟩) hS (fun q _ h => hf9 q h) hf9 (fun r u t H locs ht hvm hw hB hz1 hk1 hS => ?_)
  obtain ⟨hP, hK9, hD9⟩ := hB
  rw [ht] at hP
  try dsimp only at hw
  subst hw
  have hD := hD9.weaken (fun _ q _ h => hf9 q.1 h)
  refine lv_istore (lv' := [(7, .int y11.2), (6, .int y7.2), (5, va_re ad (M.2 b3 x2.toNatClampNeg)), (0, .ref (ad a)), (1, .int p0), (2, .int p1), (3, .int p2), (4, .int p3)]) hx hb dX9_setReference_38 hl (by decide) rfl (fun ls hl => ?_)
  refine lv_iconst (v := (0 : Int32)) hx hb dX9_setReference_40 (by decide) ?_
  refine lv_istore (lv' := [(8, .int (0 : Int32)), (7, .int y11.2), (6, .int y7.2), (5, va_re ad (M.2 b3 x2.toNatClampNeg)), (0, .ref (ad a)), (1, .int p0), (2, .int p1), (3, .int p2), (4, .int p3)]) hx hb dX9_setReference_41 hl (by decide) rfl (fun ls hl => ?_)
  obtain ⟨y12, hy12, hF⟩ := bnd_some hF
  have K12 : ∀ (H : Heap) (locs : List Loc) (ls : Array Slot), va_P D classes (wld ct ad G y12.2) H → va_D A (wld ct ad G y12.2) → va_S A s.heap H locs → lv_has ls 12 [(8, .int y12.1), (7, .int y11.2), (6, .int y7.2), (5, va_re ad (M.2 b3 x2.toNatClampNeg)), (0, .ref (ad a)), (1, .int p0), (2, .int p1), (3, .int p2), (4, .int p3)] → W p l e (headSpec wuX9_setReference ({ frames := 1, cells := 0, slots := 0, locals := 21 })).room s m ([.ref (ad a), .int p0, .int p1, .int p2, .int p3] : List Value).toArray below meth c H locs 0 0 (MQ below (va_Qv (fun (_ : Unit) => True) (fun _ t => kE D ct ad G A y t) A) ([.ref (ad a), .int p0, .int p1, .int p2, .int p3] : List Value).toArray s 0 0 A) (F0 m 165 ls []) := by
    intro H locs ls hP hD hS hl
    obtain rfl := Option.some.inj hF
    exact W.vret hx hb hr (fun t ht hW => ⟨⟨(), rfl, trivial, ⟨by rw [ht]; exact hP, va_K.moved hW.alike hK, hD⟩⟩, hS.F ht⟩) hS.2.2 dX9_setReference_165
  clear hF
  refine itr_rule (fun (s13 : Int32 × DD) => ∀ (H : Heap) (locs : List Loc) (ls : Array Slot), va_P D classes (wld ct ad G s13.2) H → va_D A (wld ct ad G s13.2) → va_S A s.heap H locs → lv_has ls 12 [(8, .int s13.1), (7, .int y11.2), (6, .int y7.2), (5, va_re ad (M.2 b3 x2.toNatClampNeg)), (0, .ref (ad a)), (1, .int p0), (2, .int p1), (3, .int p2), (4, .int p3)] → W p l e (headSpec wuX9_setReference ({ frames := 1, cells := 0, slots := 0, locals := 21 })).room s m ([.ref (ad a), .int p0, .int p1, .int p2, .int p3] : List Value).toArray below meth c H locs 0 0 (MQ below (va_Qv (fun (_ : Unit) => True) (fun _ t => kE D ct ad G A y t) A) ([.ref (ad a), .int p0, .int p1, .int p2, .int p3] : List Value).toArray s 0 0 A) (F0 m 43 ls [])) ?_ _ _ hy12 _ _ _ hP hD hS (lv_sub hl [0, 1, 2, 3, 4, 5, 6, 7, 8] rfl)
  rintro s13 ⟨z15, hF, hwz15⟩ H locs ls hP hD hS hl
  try dsimp only at hF
  refine lv_iload hx hb dX9_setReference_43 (lv_at hl 0 rfl) ?_
  refine lv_bipush (v := (16 : Int32)) hx hb dX9_setReference_45 (by decide) ?_
  refine lv_icmp_ge (tgt := 165) hx hb dX9_setReference_47 (by decide) (fun c16 => ?_) (fun c16 => ?_)
  · rw [if_pos c16] at hF
    obtain rfl := Option.some.inj hF
    subst hwz15
    exact K12 _ _ _ hP hD hS (lv_sub hl [0, 1, 2, 3, 4, 5, 6, 7, 8] rfl)
  · rw [if_neg c16] at hF
    refine lv_iload hx hb dX9_setReference_50 (lv_at hl 0 rfl) ?_
    obtain ⟨y17, hy17, hF⟩ := bnd_some hF
    have hf9 := wA_in hD hA9 hS
    refine va_calli (va_runS (As := [.int s13.1]) (rest := []) ⟨hx, hb, hml, hown, hts⟩ (kX9_pieceX l D ct ad Z G s13.2 H.size s13.1 y17 hy17) (va_cwS 1 hts gX9_setReference_X9_pieceX rfl rfl rfl (by decide +kernel) ⟨Nat.le_of_ble_eq_true rfl, Nat.le_of_ble_eq_true rfl⟩) ⟨fun a U g mk q => by obtain ⟨q0, q1, qP, qK, qD, qZ, qN⟩ := q; exact ⟨q0, q1, qP, va_K.moved (u := U) (U := U.calling g mk a) (Vm.Alike.refl U.vm) qK, qD, sF.moved (u := U) (U := U.calling g mk a) (Vm.Alike.refl U.vm) qZ, nF.same rfl qN⟩, fun U hU hW => ⟨rfl, by rw [hU], by rw [hU]; exact hP, va_K.moved hW.alike hK, hD.weaken (fun _ _ _ _ => trivial), by rw [hU]; exact ((hZ.kept hS.2.1).narrow hf9).moved hW.alike, hN.warm hW⟩⟩ rfl rfl hl.1 rfl (lv_room (Nat.le_of_ble_eq_true rfl)) dX9_setReference_52 ⟨(Nat.zero_le _), (Nat.zero_le _)⟩) hS (fun q _ h => hf9 q h) hf9 (fun r u t H locs ht hvm hw hB hz1 hk1 hS => ?_)
    obtain ⟨hP, hK9, hD9⟩ := hB
    rw [ht] at hP
    try dsimp only at hw
    subst hw
    have hD := hD9.weaken (fun _ q _ h => hf9 q.1 h)
    refine lv_iload hx hb dX9_setReference_55 (lv_at hl 2 rfl) ?_
    refine lv_isub hx hb dX9_setReference_57 ?_
    obtain ⟨x18, ex18, hF⟩ := ltt_some hF
    refine lv_topi (fun zx18 ezx18 => ?_)
    obtain rfl : x18 = zx18 := ex18.trans ezx18.symm
    refine lv_istore (lv' := [(9, .int x18), (8, .int s13.1), (7, .int y11.2), (6, .int y7.2), (5, va_re ad (M.2 b3 x2.toNatClampNeg)), (0, .ref (ad a)), (1, .int p0), (2, .int p1), (3, .int p2), (4, .int p3)]) hx hb dX9_setReference_58 hl (by decide) rfl (fun ls hl => ?_)
    refine lv_iload hx hb dX9_setReference_60 (lv_at hl 1 rfl) ?_
    obtain ⟨y19, hy19, hF⟩ := bnd_some hF
    have hf9 := wA_in hD hA9 hS
    refine va_calli (va_runS (As := [.int s13.1]) (rest := []) ⟨hx, hb, hml, hown, hts⟩ (kX9_pieceY l D ct ad Z G y17.1 H.size s13.1 y19 hy19) (va_cwS 1 hts gX9_setReference_X9_pieceY rfl rfl rfl (by decide +kernel) ⟨Nat.le_of_ble_eq_true rfl, Nat.le_of_ble_eq_true rfl⟩) ⟨fun a U g mk q => by obtain ⟨q0, q1, qP, qK, qD, qZ, qN⟩ := q; exact ⟨q0, q1, qP, va_K.moved (u := U) (U := U.calling g mk a) (Vm.Alike.refl U.vm) qK, qD, sF.moved (u := U) (U := U.calling g mk a) (Vm.Alike.refl U.vm) qZ, nF.same rfl qN⟩, fun U hU hW => ⟨rfl, by rw [hU], by rw [hU]; exact hP, va_K.moved hW.alike hK, hD.weaken (fun _ _ _ _ => trivial), by rw [hU]; exact ((hZ.kept hS.2.1).narrow hf9).moved hW.alike, hN.warm hW⟩⟩ rfl rfl hl.1 rfl (lv_room (Nat.le_of_ble_eq_true rfl)) dX9_setReference_62 ⟨(Nat.zero_le _), (Nat.zero_le _)⟩) hS (fun q _ h => hf9 q h) hf9 (fun r u t H locs ht hvm hw hB hz1 hk1 hS => ?_)
    obtain ⟨hP, hK9, hD9⟩ := hB
    rw [ht] at hP
    try dsimp only at hw
    subst hw
    have hD := hD9.weaken (fun _ q _ h => hf9 q.1 h)
    refine lv_iload hx hb dX9_setReference_65 (lv_at hl 2 rfl) ?_
    refine lv_isub hx hb dX9_setReference_67 ?_
    obtain ⟨x20, ex20, hF⟩ := ltt_some hF
    refine lv_topi (fun zx20 ezx20 => ?_)
    obtain rfl : x20 = zx20 := ex20.trans ezx20.symm
    refine lv_istore (lv' := [(10, .int x20), (9, .int x18), (8, .int s13.1), (7, .int y11.2), (6, .int y7.2), (5, va_re ad (M.2 b3 x2.toNatClampNeg)), (0, .ref (ad a)), (1, .int p0), (2, .int p1), (3, .int p2), (4, .int p3)]) hx hb dX9_setReference_68 hl (by decide) rfl (fun ls hl => ?_)
    refine lv_iload hx hb dX9_setReference_70 (lv_at hl 1 rfl) ?_
    obtain ⟨y21, hy21, hF⟩ := bnd_some hF
    have J21 : ∀ (H : Heap) (locs : List Loc) (ls : Array Slot), va_P D classes (wld ct ad G y21) H → va_D A (wld ct ad G y21) → va_S A s.heap H locs → lv_has ls 12 [(10, .int x20), (9, .int x18), (8, .int s13.1), (7, .int y11.2), (6, .int y7.2), (5, va_re ad (M.2 b3 x2.toNatClampNeg)), (0, .ref (ad a)), (1, .int p0), (2, .int p1), (3, .int p2), (4, .int p3)] → W p l e (headSpec wuX9_setReference ({ frames := 1, cells := 0, slots := 0, locals := 21 })).room s m ([.ref (ad a), .int p0, .int p1, .int p2, .int p3] : List Value).toArray below meth c H locs 0 0 (MQ below (va_Qv (fun (_ : Unit) => True) (fun _ t => kE D ct ad G A y t) A) ([.ref (ad a), .int p0, .int p1, .int p2, .int p3] : List Value).toArray s 0 0 A) (F0 m 159 ls []) := by
      intro H locs ls hP hD hS hl
      obtain ⟨x22, ex22, hF⟩ := ltt_some hF
      refine lv_iinc (v := x22) (lv' := [(8, .int x22), (10, .int x20), (9, .int x18), (7, .int y11.2), (6, .int y7.2), (5, va_re ad (M.2 b3 x2.toNatClampNeg)), (0, .ref (ad a)), (1, .int p0), (2, .int p1), (3, .int p2), (4, .int p3)]) hx hb dX9_setReference_159 hl (k := 2) rfl (by rw [ex22]; rfl) (by decide) rfl (fun ls hl => ?_)
      refine lv_goto (tgt := 43) hx hb dX9_setReference_162 (by decide) ?_
      obtain rfl := Option.some.inj hF
      exact hwz15 _ _ _ hP hD hS (lv_sub hl [0, 3, 4, 5, 6, 7, 8, 9, 10] rfl)
    clear hF
    have hF := hy21
    clear hy21
    refine lv_if_lt (tgt := 159) hx hb dX9_setReference_72 (by decide) (fun c23 => ?_) (fun c23 => ?_)
    · rw [if_pos c23] at hF
      obtain rfl := Option.some.inj hF
      exact J21 _ _ _ hP hD hS (lv_sub hl [0, 1, 2, 3, 4, 5, 6, 7, 8, 9, 10] rfl)
    · rw [if_neg c23] at hF
      refine lv_iload hx hb dX9_setReference_75 (lv_at hl 1 rfl) ?_
      refine lv_aload_n hx hb dX9_setReference_77 rfl (lv_at hl 6 rfl) ?_
      refine va_get (D := D) (ci := 9) (v := va_re ad (y19.1.2 a 15)) (C := RX9) (T := TX9) (N := 20) hx hb hts (mus hf_X9) hown hK hP a (wld_o ct ad G y19.1 hc hk (by decide)) rfl 15 (by decide) (hts (.fieldLink RX9 45 "VideoSuite$Work" "group" "[I") (mu mw_472)) (fun _ h9 => h9) rfl dX9_setReference_78 ?_
      refine lv_iconst (v := (4 : Int32)) hx hb dX9_setReference_81 (by decide) ?_
      refine lv_iload_n hx hb dX9_setReference_82 rfl (lv_at hl 9 rfl) ?_
      refine lv_imul hx hb dX9_setReference_83 ?_
      obtain ⟨x24, ex24, hF⟩ := ltt_some hF
      refine lv_topi (fun zx24 ezx24 => ?_)
      obtain rfl : x24 = zx24 := ex24.trans ezx24.symm
      refine lv_iconst (v := (1 : Int32)) hx hb dX9_setReference_84 (by decide) ?_
      refine lv_iadd hx hb dX9_setReference_85 ?_
      obtain ⟨x25, ex25, hF⟩ := ltt_some hF
      refine lv_topi (fun zx25 ezx25 => ?_)
      obtain rfl : x25 = zx25 := ex25.trans ezx25.symm
      obtain ⟨b26, ho26, hc26, hk26, hF⟩ := dr_some hF
      refine W_st (st' := [.int x25, .ref (ad b26), .int x18]) (by rw [va_some ho26]) ?_
      obtain ⟨hvc, hF⟩ := chk_some hF
      refine va_iald hx hb hK hP b26 1 (wld_i ct ad G y19.1 hc26 hk26) rfl hvc dX9_setReference_86 ?_
      obtain ⟨x27, ex27, hF⟩ := ltt_some hF
      refine lv_topi (fun zx27 ezx27 => ?_)
      obtain rfl : x27 = zx27 := ex27.trans ezx27.symm
      obtain ⟨y28, hy28, hF⟩ := bnd_some hF
      have J28 : ∀ (H : Heap) (locs : List Loc) (ls : Array Slot), va_P D classes (wld ct ad G y28) H → va_D A (wld ct ad G y28) → va_S A s.heap H locs → lv_has ls 12 [(10, .int x20), (9, .int x18), (8, .int s13.1), (7, .int y11.2), (6, .int y7.2), (5, va_re ad (M.2 b3 x2.toNatClampNeg)), (0, .ref (ad a)), (1, .int p0), (2, .int p1), (3, .int p2), (4, .int p3)] → W p l e (headSpec wuX9_setReference ({ frames := 1, cells := 0, slots := 0, locals := 21 })).room s m ([.ref (ad a), .int p0, .int p1, .int p2, .int p3] : List Value).toArray below meth c H locs 0 0 (MQ below (va_Qv (fun (_ : Unit) => True) (fun _ t => kE D ct ad G A y t) A) ([.ref (ad a), .int p0, .int p1, .int p2, .int p3] : List Value).toArray s 0 0 A) (F0 m 159 ls []) := by
        intro H locs ls hP hD hS hl
        obtain rfl := Option.some.inj hF
        exact J21 _ _ _ hP hD hS (lv_sub hl [0, 1, 2, 3, 4, 5, 6, 7, 8, 9, 10] rfl)
      clear hF
      have hF := hy28
      clear hy28
      refine lv_icmp_ge (tgt := 159) hx hb dX9_setReference_87 (by decide) (fun c29 => ?_) (fun c29 => ?_)
      · rw [if_pos c29] at hF
        obtain rfl := Option.some.inj hF
        exact J28 _ _ _ hP hD hS (lv_sub hl [0, 1, 2, 3, 4, 5, 6, 7, 8, 9, 10] rfl)
      · rw [if_neg c29] at hF
        refine lv_iload hx hb dX9_setReference_90 (lv_at hl 0 rfl) ?_
        obtain ⟨y30, hy30, hF⟩ := bnd_some hF
        have J30 : ∀ (H : Heap) (locs : List Loc) (ls : Array Slot), va_P D classes (wld ct ad G y30) H → va_D A (wld ct ad G y30) → va_S A s.heap H locs → lv_has ls 12 [(10, .int x20), (9, .int x18), (8, .int s13.1), (7, .int y11.2), (6, .int y7.2), (5, va_re ad (M.2 b3 x2.toNatClampNeg)), (0, .ref (ad a)), (1, .int p0), (2, .int p1), (3, .int p2), (4, .int p3)] → W p l e (headSpec wuX9_setReference ({ frames := 1, cells := 0, slots := 0, locals := 21 })).room s m ([.ref (ad a), .int p0, .int p1, .int p2, .int p3] : List Value).toArray below meth c H locs 0 0 (MQ below (va_Qv (fun (_ : Unit) => True) (fun _ t => kE D ct ad G A y t) A) ([.ref (ad a), .int p0, .int p1, .int p2, .int p3] : List Value).toArray s 0 0 A) (F0 m 159 ls []) := by
          intro H locs ls hP hD hS hl
          obtain rfl := Option.some.inj hF
          exact J28 _ _ _ hP hD hS (lv_sub hl [0, 1, 2, 3, 4, 5, 6, 7, 8, 9, 10] rfl)
        clear hF
        have hF := hy30
        clear hy30
        refine lv_if_lt (tgt := 159) hx hb dX9_setReference_92 (by decide) (fun c31 => ?_) (fun c31 => ?_)
        · rw [if_pos c31] at hF
          obtain rfl := Option.some.inj hF
          exact J30 _ _ _ hP hD hS (lv_sub hl [0, 1, 2, 3, 4, 5, 6, 7, 8, 9, 10] rfl)
        · rw [if_neg c31] at hF
          refine lv_iload hx hb dX9_setReference_95 (lv_at hl 0 rfl) ?_
          refine lv_aload_n hx hb dX9_setReference_97 rfl (lv_at hl 6 rfl) ?_
          refine va_get (D := D) (ci := 9) (v := va_re ad (y19.1.2 a 15)) (C := RX9) (T := TX9) (N := 20) hx hb hts (mus hf_X9) hown hK hP a (wld_o ct ad G y19.1 hc hk (by decide)) rfl 15 (by decide) (hts (.fieldLink RX9 45 "VideoSuite$Work" "group" "[I") (mu mw_472)) (fun _ h9 => h9) rfl dX9_setReference_98 ?_
          refine lv_iconst (v := (4 : Int32)) hx hb dX9_setReference_101 (by decide) ?_
          refine lv_iload_n hx hb dX9_setReference_102 rfl (lv_at hl 9 rfl) ?_
          refine lv_imul hx hb dX9_setReference_103 ?_
          obtain ⟨x32, ex32, hF⟩ := ltt_some hF
          refine lv_topi (fun zx32 ezx32 => ?_)
          obtain rfl : x32 = zx32 := ex32.trans ezx32.symm
          refine lv_iconst (v := (2 : Int32)) hx hb dX9_setReference_104 (by decide) ?_
          refine lv_iadd hx hb dX9_setReference_105 ?_
          obtain ⟨x33, ex33, hF⟩ := ltt_some hF
          refine lv_topi (fun zx33 ezx33 => ?_)
          obtain rfl : x33 = zx33 := ex33.trans ezx33.symm
          refine W_st (st' := [.int x33, .ref (ad b26), .int x20]) (by rw [va_some ho26]) ?_
          obtain ⟨hvc, hF⟩ := chk_some hF
          refine va_iald hx hb hK hP b26 1 (wld_i ct ad G y19.1 hc26 hk26) rfl hvc dX9_setReference_106 ?_
          obtain ⟨x34, ex34, hF⟩ := ltt_some hF
          refine lv_topi (fun zx34 ezx34 => ?_)
          obtain rfl : x34 = zx34 := ex34.trans ezx34.symm
          obtain ⟨y35, hy35, hF⟩ := bnd_some hF
          have J35 : ∀ (H : Heap) (locs : List Loc) (ls : Array Slot), va_P D classes (wld ct ad G y35) H → va_D A (wld ct ad G y35) → va_S A s.heap H locs → lv_has ls 12 [(10, .int x20), (9, .int x18), (8, .int s13.1), (7, .int y11.2), (6, .int y7.2), (5, va_re ad (M.2 b3 x2.toNatClampNeg)), (0, .ref (ad a)), (1, .int p0), (2, .int p1), (3, .int p2), (4, .int p3)] → W p l e (headSpec wuX9_setReference ({ frames := 1, cells := 0, slots := 0, locals := 21 })).room s m ([.ref (ad a), .int p0, .int p1, .int p2, .int p3] : List Value).toArray below meth c H locs 0 0 (MQ below (va_Qv (fun (_ : Unit) => True) (fun _ t => kE D ct ad G A y t) A) ([.ref (ad a), .int p0, .int p1, .int p2, .int p3] : List Value).toArray s 0 0 A) (F0 m 159 ls []) := by
            intro H locs ls hP hD hS hl
            obtain rfl := Option.some.inj hF
            exact J30 _ _ _ hP hD hS (lv_sub hl [0, 1, 2, 3, 4, 5, 6, 7, 8, 9, 10] rfl)
          clear hF
          have hF := hy35
          clear hy35
          refine lv_icmp_ge (tgt := 159) hx hb dX9_setReference_107 (by decide) (fun c36 => ?_) (fun c36 => ?_)
          · rw [if_pos c36] at hF
            obtain rfl := Option.some.inj hF
            exact J35 _ _ _ hP hD hS (lv_sub hl [0, 1, 2, 3, 4, 5, 6, 7, 8, 9, 10] rfl)
          · rw [if_neg c36] at hF
            refine lv_iload_n hx hb dX9_setReference_110 rfl (lv_at hl 8 rfl) ?_
            refine lv_bipush (v := (16 : Int32)) hx hb dX9_setReference_111 (by decide) ?_
            refine lv_iload_n hx hb dX9_setReference_113 rfl (lv_at hl 7 rfl) ?_
            refine lv_imul hx hb dX9_setReference_114 ?_
            obtain ⟨x37, ex37, hF⟩ := ltt_some hF
            refine lv_topi (fun zx37 ezx37 => ?_)
            obtain rfl : x37 = zx37 := ex37.trans ezx37.symm
            refine lv_iload hx hb dX9_setReference_115 (lv_at hl 2 rfl) ?_
            refine lv_iadd hx hb dX9_setReference_117 ?_
            obtain ⟨x38, ex38, hF⟩ := ltt_some hF
            refine lv_topi (fun zx38 ezx38 => ?_)
            obtain rfl : x38 = zx38 := ex38.trans ezx38.symm
            obtain ⟨y39, hy39, hF⟩ := bnd_some hF
            have hf9 := wA_in hD hA9 hS
            refine va_calli (va_runS (As := [.int p1, .int x38]) (rest := []) ⟨hx, hb, hml, hown, hts⟩ (kX4_at l D ct ad Z G y19.1 H.size p1 x38 y39 hy39) (va_cwS 2 hts gX9_setReference_X4_at rfl rfl rfl (by decide +kernel) ⟨Nat.le_of_ble_eq_true rfl, Nat.le_of_ble_eq_true rfl⟩) ⟨fun a U g mk q => by obtain ⟨q0, q1, qP, qK, qD, qZ, qN⟩ := q; exact ⟨q0, q1, qP, va_K.moved (u := U) (U := U.calling g mk a) (Vm.Alike.refl U.vm) qK, qD, sF.moved (u := U) (U := U.calling g mk a) (Vm.Alike.refl U.vm) qZ, nF.same rfl qN⟩, fun U hU hW => ⟨rfl, by rw [hU], by rw [hU]; exact hP, va_K.moved hW.alike hK, hD.weaken (fun _ _ _ _ => trivial), by rw [hU]; exact ((hZ.kept hS.2.1).narrow hf9).moved hW.alike, hN.warm hW⟩⟩ rfl rfl hl.1 rfl (lv_room (Nat.le_of_ble_eq_true rfl)) dX9_setReference_118 ⟨(Nat.zero_le _), (Nat.zero_le _)⟩) hS (fun q _ h => hf9 q h) hf9 (fun r u t H locs ht hvm hw hB hz1 hk1 hS => ?_)
            obtain ⟨hP, hK9, hD9⟩ := hB
            rw [ht] at hP
            try dsimp only at hw
            subst hw
            have hD := hD9.weaken (fun _ q _ h => hf9 q.1 h)
            refine lv_istore (lv' := [(11, .int y39.2), (10, .int x20), (9, .int x18), (8, .int s13.1), (7, .int y11.2), (6, .int y7.2), (5, va_re ad (M.2 b3 x2.toNatClampNeg)), (0, .ref (ad a)), (1, .int p0), (2, .int p1), (3, .int p2), (4, .int p3)]) hx hb dX9_setReference_121 hl (by decide) rfl (fun ls hl => ?_)
            refine lv_aload_n hx hb dX9_setReference_123 rfl (lv_at hl 7 rfl) ?_
            refine va_get (D := D) (ci := 9) (v := va_re ad (y39.1.2 a 0)) (C := RX9) (T := TX9) (N := 20) hx hb hts (mus hf_X9) hown hK hP a (wld_o ct ad G y39.1 hc hk (by decide)) rfl 0 (by decide) (hts (.fieldLink RX9 51 "VideoSuite$Work" "pic" "LVideoSuite$Picture;") (mu mw_422)) (fun _ h9 => h9) rfl dX9_setReference_124 ?_
            obtain ⟨b40, ho40, hc40, hk40, hF⟩ := dr_some hF
            refine W_st (st' := [.ref (ad b40)]) (by rw [va_some ho40]) ?_
            refine va_get (D := D) (ci := 4) (v := va_re ad (y39.1.2 b40 5)) (C := RX4) (T := TX4) (N := 18) hx hb hts (mus hf_X4) hown hK hP b40 (wld_o ct ad G y39.1 hc40 hk40 (by decide)) rfl 5 (by decide) (hts (.fieldLink RX9 83 "VideoSuite$Picture" "reference" "[I") (mu mw_1439)) (fun _ h9 => h9) rfl dX9_setReference_127 ?_
            refine lv_iload hx hb dX9_setReference_130 (lv_at hl 0 rfl) ?_
            refine lv_iload hx hb dX9_setReference_132 (lv_at hl 11 rfl) ?_
            obtain ⟨b41, ho41, hc41, hk41, hF⟩ := dr_some hF
            refine W_st (st' := [.int p3, .int y39.2, .ref (ad b41)]) (by rw [va_some ho41]) ?_
            obtain ⟨hvc, hF⟩ := chk_some hF
            refine va_iast hx hb hK hP hD hS b41 1 (wld_i ct ad G y39.1 hc41 hk41) rfl hvc dX9_setReference_134 (fun H locs hP hD hS => ?_)
            obtain ⟨M42, eM42, hF⟩ := ltt_some hF
            rw [set_i ct ad G y39.1 hc41 hk41, ← eM42] at hP hD
            refine lv_aload_n hx hb dX9_setReference_135 rfl (lv_at hl 7 rfl) ?_
            refine va_get (D := D) (ci := 9) (v := va_re ad (M42.2 a 0)) (C := RX9) (T := TX9) (N := 20) hx hb hts (mus hf_X9) hown hK hP a (wld_o ct ad G M42 hc hk (by decide)) rfl 0 (by decide) (hts (.fieldLink RX9 51 "VideoSuite$Work" "pic" "LVideoSuite$Picture;") (mu mw_422)) (fun _ h9 => h9) rfl dX9_setReference_136 ?_
            obtain ⟨b43, ho43, hc43, hk43, hF⟩ := dr_some hF
            refine W_st (st' := [.ref (ad b43)]) (by rw [va_some ho43]) ?_
            refine va_get (D := D) (ci := 4) (v := va_re ad (M42.2 b43 6)) (C := RX4) (T := TX4) (N := 18) hx hb hts (mus hf_X4) hown hK hP b43 (wld_o ct ad G M42 hc43 hk43 (by decide)) rfl 6 (by decide) (hts (.fieldLink RX9 86 "VideoSuite$Picture" "referenceId" "[I") (mu mw_1443)) (fun _ h9 => h9) rfl dX9_setReference_139 ?_
            refine lv_iload hx hb dX9_setReference_142 (lv_at hl 0 rfl) ?_
            refine lv_aloadq hx hb dX9_setReference_144 (lv_at hl 6 rfl) ?_
            obtain ⟨y44, hy44, hF⟩ := bnd_some hF
            have J44 : ∀ (H : Heap) (locs : List Loc) (ls : Array Slot), va_P D classes (wld ct ad G M42) H → va_D A (wld ct ad G M42) → va_S A s.heap H locs → lv_has ls 12 [(11, .int y39.2), (10, .int x20), (9, .int x18), (8, .int s13.1), (7, .int y11.2), (6, .int y7.2), (5, va_re ad (M.2 b3 x2.toNatClampNeg)), (0, .ref (ad a)), (1, .int p0), (2, .int p1), (3, .int p2), (4, .int p3)] → W p l e (headSpec wuX9_setReference ({ frames := 1, cells := 0, slots := 0, locals := 21 })).room s m ([.ref (ad a), .int p0, .int p1, .int p2, .int p3] : List Value).toArray below meth c H locs 0 0 (MQ below (va_Qv (fun (_ : Unit) => True) (fun _ t => kE D ct ad G A y t) A) ([.ref (ad a), .int p0, .int p1, .int p2, .int p3] : List Value).toArray s 0 0 A) (F0 m 158 ls [.int y44, .int y39.2, va_re ad (M42.2 b43 6)]) := by
              intro H locs ls hP hD hS hl
              obtain ⟨b45, ho45, hc45, hk45, hF⟩ := dr_some hF
              refine W_st (st' := [.int y44, .int y39.2, .ref (ad b45)]) (by rw [va_some ho45]) ?_
              obtain ⟨hvc, hF⟩ := chk_some hF
              refine va_iast hx hb hK hP hD hS b45 1 (wld_i ct ad G M42 hc45 hk45) rfl hvc dX9_setReference_158 (fun H locs hP hD hS => ?_)
              obtain ⟨M46, eM46, hF⟩ := ltt_some hF
              rw [set_i ct ad G M42 hc45 hk45, ← eM46] at hP hD
              obtain rfl := Option.some.inj hF
              exact J35 _ _ _ hP hD hS (lv_sub hl [1, 2, 3, 4, 5, 6, 7, 8, 9, 10, 11] rfl)
            clear hF
            have hF := hy44
            clear hy44
            refine lv_ifnonnullq (tgt := 153) hx hb dX9_setReference_146 (by decide) (fun c47 => ?_) (fun c47 => ?_)
            · rw [if_neg c47] at hF
              refine lv_aloadq hx hb dX9_setReference_153 (lv_at hl 6 rfl) ?_
              obtain ⟨b48, ho48, hc48, hk48, hF⟩ := dr_some hF
              refine W_st (st' := [.ref (ad b48), .int y39.2, va_re ad (M42.2 b43 6)]) (by rw [va_some ho48]) ?_
              refine va_get (D := D) (ci := 4) (v := .int (M42.1 b48 0)) (C := RX4) (T := TX4) (N := 18) hx hb hts (mus hf_X4) hown hK hP b48 (wld_o ct ad G M42 hc48 hk48 (by decide)) rfl 0 (by decide) (hts (.fieldLink RX9 161 "VideoSuite$Picture" "id" "I") (mu mw_1419)) (fun _ h9 => h9) rfl dX9_setReference_155 ?_
              obtain ⟨x49, ex49, hF⟩ := ltt_some hF
              refine lv_topi (fun zx49 ezx49 => ?_)
              obtain rfl : x49 = zx49 := ex49.trans ezx49.symm
              obtain rfl := Option.some.inj hF
              exact J44 _ _ _ hP hD hS (lv_sub hl [0, 1, 2, 3, 4, 5, 6, 7, 8, 9, 10, 11] rfl)
            · rw [if_pos c47] at hF
              refine lv_iconst (v := (0 : Int32)) hx hb dX9_setReference_149 (by decide) ?_
              refine lv_goto (tgt := 158) hx hb dX9_setReference_150 (by decide) ?_
              obtain rfl := Option.some.inj hF
              exact J44 _ _ _ hP hD hS (lv_sub hl [0, 1, 2, 3, 4, 5, 6, 7, 8, 9, 10, 11] rfl)
set_option maxRecDepth 20000 in
theorem gX9_sides_X9_pieceAt : GoodIn wuX9_sides (wsV RX9 111 RX9 yX9_pieceAt wuX9_pieceAt) := gu_V mw_1906 mw_1907 mw_1908 mw_171 mw_1909
set_option maxRecDepth 20000 in
set_option maxRecDepth 20000 in
theorem gX9_sides_X9_mayUse : GoodIn wuX9_sides (wsV RX9 115 RX9 yX9_mayUse wuX9_mayUse) := gu_V mw_1992 mw_1994 mw_67 mw_171 mw_1995
theorem dX9_sides_0 : decode cX9_sides 0 = .ok (.aload_n 0, 1) := by decide +kernel
theorem dX9_sides_1 : decode cX9_sides 1 = .ok (.aload_n 0, 1) := by decide +kernel
theorem dX9_sides_2 : decode cX9_sides 2 = .ok (.iload_n 1, 1) := by decide +kernel
theorem dX9_sides_3 : decode cX9_sides 3 = .ok (.iconst (-1), 1) := by decide +kernel
theorem dX9_sides_4 : decode cX9_sides 4 = .ok (.iconst 0, 1) := by decide +kernel
theorem dX9_sides_5 : decode cX9_sides 5 = .ok (.iconst 0, 1) := by decide +kernel
theorem dX9_sides_6 : decode cX9_sides 6 = .ok (.invokevirtual 111, 3) := by decide +kernel
theorem dX9_sides_9 : decode cX9_sides 9 = .ok (.invokevirtual 115, 3) := by decide +kernel
theorem dX9_sides_12 : decode cX9_sides 12 = .ok (.ifCond .eq 7, 3) := by decide +kernel
theorem dX9_sides_15 : decode cX9_sides 15 = .ok (.iconst 1, 1) := by decide +kernel
theorem dX9_sides_16 : decode cX9_sides 16 = .ok (.goto 4, 3) := by decide +kernel
theorem dX9_sides_19 : decode cX9_sides 19 = .ok (.iconst 0, 1) := by decide +kernel
theorem dX9_sides_20 : decode cX9_sides 20 = .ok (.aload_n 0, 1) := by decide +kernel
theorem dX9_sides_21 : decode cX9_sides 21 = .ok (.aload_n 0, 1) := by decide +kernel
theorem dX9_sides_22 : decode cX9_sides 22 = .ok (.iload_n 1, 1) := by decide +kernel
theorem dX9_sides_23 : decode cX9_sides 23 = .ok (.iconst 0, 1) := by decide +kernel
theorem dX9_sides_24 : decode cX9_sides 24 = .ok (.iconst (-1), 1) := by decide +kernel
theorem dX9_sides_25 : decode cX9_sides 25 = .ok (.iconst 0, 1) := by decide +kernel
theorem dX9_sides_26 : decode cX9_sides 26 = .ok (.invokevirtual 111, 3) := by decide +kernel
theorem dX9_sides_29 : decode cX9_sides 29 = .ok (.invokevirtual 115, 3) := by decide +kernel
theorem dX9_sides_32 : decode cX9_sides 32 = .ok (.ifCond .eq 7, 3) := by decide +kernel
theorem dX9_sides_35 : decode cX9_sides 35 = .ok (.iconst 2, 1) := by decide +kernel
theorem dX9_sides_36 : decode cX9_sides 36 = .ok (.goto 4, 3) := by decide +kernel
theorem dX9_sides_39 : decode cX9_sides 39 = .ok (.iconst 0, 1) := by decide +kernel
theorem dX9_sides_40 : decode cX9_sides 40 = .ok (.ior, 1) := by decide +kernel
theorem dX9_sides_41 : decode cX9_sides 41 = .ok (.aload_n 0, 1) := by decide +kernel
theorem dX9_sides_42 : decode cX9_sides 42 = .ok (.aload_n 0, 1) := by decide +kernel
theorem dX9_sides_43 : decode cX9_sides 43 = .ok (.iload_n 1, 1) := by decide +kernel
theorem dX9_sides_44 : decode cX9_sides 44 = .ok (.iconst (-1), 1) := by decide +kernel
theorem dX9_sides_45 : decode cX9_sides 45 = .ok (.iconst (-1), 1) := by decide +kernel
theorem dX9_sides_46 : decode cX9_sides 46 = .ok (.iconst 0, 1) := by decide +kernel
theorem dX9_sides_47 : decode cX9_sides 47 = .ok (.invokevirtual 111, 3) := by decide +kernel
theorem dX9_sides_50 : decode cX9_sides 50 = .ok (.invokevirtual 115, 3) := by decide +kernel
theorem dX9_sides_53 : decode cX9_sides 53 = .ok (.ifCond .eq 7, 3) := by decide +kernel
theorem dX9_sides_56 : decode cX9_sides 56 = .ok (.iconst 4, 1) := by decide +kernel
theorem dX9_sides_57 : decode cX9_sides 57 = .ok (.goto 4, 3) := by decide +kernel
theorem dX9_sides_60 : decode cX9_sides 60 = .ok (.iconst 0, 1) := by decide +kernel
theorem dX9_sides_61 : decode cX9_sides 61 = .ok (.ior, 1) := by decide +kernel
theorem dX9_sides_62 : decode cX9_sides 62 = .ok (.aload_n 0, 1) := by decide +kernel
theorem dX9_sides_63 : decode cX9_sides 63 = .ok (.aload_n 0, 1) := by decide +kernel
theorem dX9_sides_64 : decode cX9_sides 64 = .ok (.iload_n 1, 1) := by decide +kernel
theorem dX9_sides_65 : decode cX9_sides 65 = .ok (.bipush 16, 2) := by decide +kernel
theorem dX9_sides_67 : decode cX9_sides 67 = .ok (.iconst (-1), 1) := by decide +kernel
theorem dX9_sides_68 : decode cX9_sides 68 = .ok (.iconst 0, 1) := by decide +kernel
theorem dX9_sides_69 : decode cX9_sides 69 = .ok (.invokevirtual 111, 3) := by decide +kernel
theorem dX9_sides_72 : decode cX9_sides 72 = .ok (.invokevirtual 115, 3) := by decide +kernel
theorem dX9_sides_75 : decode cX9_sides 75 = .ok (.ifCond .eq 8, 3) := by decide +kernel
theorem dX9_sides_78 : decode cX9_sides 78 = .ok (.bipush 8, 2) := by decide +kernel
theorem dX9_sides_80 : decode cX9_sides 80 = .ok (.goto 4, 3) := by decide +kernel
theorem dX9_sides_83 : decode cX9_sides 83 = .ok (.iconst 0, 1) := by decide +kernel
theorem dX9_sides_84 : decode cX9_sides 84 = .ok (.ior, 1) := by decide +kernel
theorem dX9_sides_85 : decode cX9_sides 85 = .ok (.ireturn, 1) := by decide +kernel
def FX9_sides (G : GG) (M : DD) (a : Nat) (p0 : Int32) : Option (DD × Int32) :=
  bnd (FX9_pieceAt G M a p0 ((-1 : Int32)) ((0 : Int32)) ((0 : Int32))) fun y1 =>
  bnd (FX9_mayUse G y1.1 a y1.2) fun y2 =>
  bnd (if y2.2 = ((0 : Int32)) then (some ((0 : Int32))) else
  (some ((1 : Int32)))) fun (y3 : Int32) =>
  bnd (FX9_pieceAt G y2.1 a p0 ((0 : Int32)) ((-1 : Int32)) ((0 : Int32))) fun y4 =>
  bnd (FX9_mayUse G y4.1 a y4.2) fun y5 =>
  bnd (if y5.2 = ((0 : Int32)) then (some ((0 : Int32))) else
  (some ((2 : Int32)))) fun (y6 : Int32) =>
  ltt ((y3 ||| y6)) fun x7 =>
  bnd (FX9_pieceAt G y5.1 a p0 ((-1 : Int32)) ((-1 : Int32)) ((0 : Int32))) fun y8 =>
  bnd (FX9_mayUse G y8.1 a y8.2) fun y9 =>
  bnd (if y9.2 = ((0 : Int32)) then (some ((0 : Int32))) else
  (some ((4 : Int32)))) fun (y10 : Int32) =>
  ltt ((x7 ||| y10)) fun x11 =>
  bnd (FX9_pieceAt G y9.1 a p0 ((16 : Int32)) ((-1 : Int32)) ((0 : Int32))) fun y12 =>
  bnd (FX9_mayUse G y12.1 a y12.2) fun y13 =>
  bnd (if y13.2 = ((0 : Int32)) then (some ((0 : Int32))) else
  (some ((8 : Int32)))) fun (y14 : Int32) =>
  ltt ((x11 ||| y14)) fun x15 =>
  some (y13.1, x15)
set_option maxHeartbeats 4000000 in
set_option maxRecDepth 100000 in
theorem kX9_sides (l : Launch) (D : va_G) (ct : CT) (ad : Nat → Nat) (Z : Nat → Nat) (G : GG) (M : DD) (sz : Nat) (a : Nat) (p0 : Int32) (y : DD × Int32) (hc : a < G.1) (hk : G.2.1 a = 9) (hF : FX9_sides G M a p0 = some y) : Met l yX9_sides wuX9_sides ({ frames := 1, cells := 0, slots := 0, locals := 28 }) (va_Pc [.ref (ad a), .int p0] (kB D ct ad Z G M sz)) (va_Qi (fun (q : Int32) (_ : Unit) => q = y.2) (fun _ t => kE D ct ad G (wA ad G sz) y.1 t) (wA ad G sz)) 0 0 (wA ad G sz) := by
  refine Met.ofW (cc := cX9_sides) (maxL := 2) (ret := (some .int)) (by decide) rfl ?_
  intro p e s m args below meth c s₁ B hml hv
  obtain ⟨rfl, hsz, hP, hK, hD0, hZ, hN⟩ := hv
  have hx := B.exec
  have hb := B.bytes
  have hr := B.returns
  have hts := atoms_spec (ws := wuX9_sides) B.pre
  have hown : s.vm.findClass RX9 = some m.cls := findClass_of_methodNamed B.named
  have hlocks := B.notSynchronized
  subst hsz
  have hD := wD_self (sz := s.heap.size) hD0
  have hA9 : ∀ q, s.heap.size ≤ q → wA ad G s.heap.size q := fun q h => Or.inr h
  generalize hAe : wA ad G s.heap.size = A at hD hA9 hZ ⊢
  have hS : va_S A s.heap s.heap [] := va_S.rf
  have hl := lv_entry ([.ref (ad a), .int p0]) (n := 2) (Nat.le_of_ble_eq_true rfl)
  rw [lg_entry_eq]
  generalize (lg_sl ([.ref (ad a), .int p0]) ++ List.replicate (2 - (lg_sl ([.ref (ad a), .int p0])).length) Slot.unset).toArray = ls at hl ⊢
  have hl : lv_has ls 2 [(0, .ref (ad a)), (1, .int p0)] := hl
  unfold FX9_sides at hF
  refine lv_aload_n hx hb dX9_sides_0 rfl (lv_at hl 0 rfl) ?_
  refine lv_aload_n hx hb dX9_sides_1 rfl (lv_at hl 0 rfl) ?_
  refine lv_iload_n hx hb dX9_sides_2 rfl (lv_at hl 1 rfl) ?_
  refine lv_iconst (v := (-1 : Int32)) hx hb dX9_sides_3 (by decide) ?_
  refine lv_iconst (v := (0 : Int32)) hx hb dX9_sides_4 (by decide) ?_
  refine lv_iconst (v := (0 : Int32)) hx hb dX9_sides_5 (by decide) ?_
  obtain ⟨y1, hy1, hF⟩ := bnd_some hF
  have hf9 := wA_in hD hA9 hS
  refine va_calli (va_runV (As := [.int p0, .int (-1 : Int32), .int (0 : Int32), .int (0 : Int32)]) (rest := [.ref (ad a)]) ⟨hx, hb, hml, hown, hts⟩ (kX9_pieceAt l D ct ad Z G M s.heap.size a p0 ((-1 : Int32)) ((0 : Int32)) ((0 : Int32)) y1 hc hk hy1) (cwV 4 hts gX9_sides_X9_pieceAt rfl rfl rfl (by decide +kernel) ⟨Nat.le_of_ble_eq_true rfl, Nat.le_of_ble_eq_true rfl⟩) ⟨fun a U g mk q => by obtain ⟨q0, q1, qP, qK, qD, qZ, qN⟩ := q; exact ⟨q0, q1, qP, va_K.moved (u := U) (U := U.calling g mk a) (Vm.Alike.refl U.vm) qK, qD, sF.moved (u := U) (U := U.calling g mk a) (Vm.Alike.refl U.vm) qZ, nF.same rfl qN⟩, va_recv hK hP (ci := 9) (q0 := a) rfl (wld_o ct ad G M hc hk (by decide)), fun U hU hW => ⟨rfl, by rw [hU], by rw [hU]; exact hP, va_K.moved hW.alike hK, hD.weaken (fun _ _ _ _ => trivial), by rw [hU]; exact ((hZ.kept hS.2.1).narrow hf9).moved hW.alike, hN.warm hW⟩⟩ rfl rfl hl.1 rfl (lv_room (Nat.le_of_ble_eq_true rfl)) dX9_sides_6 ⟨(Nat.zero_le _), (Nat.zero_le _)⟩) hS (fun q _ h => hf9 q h) hf9 (fun r u t H locs ht hvm hw hB hz1 hk1 hS => ?_)
  obtain ⟨hP, hK9, hD9⟩ := hB
  rw [ht] at hP
  try dsimp only at hw
  subst hw
  have hD := hD9.weaken (fun _ q _ h => hf9 q.1 h)
  obtain ⟨y2, hy2, hF⟩ := bnd_some hF
  have hf9 := wA_in hD hA9 hS
  refine va_calli (va_runV (As := [.int y1.2]) (rest := []) ⟨hx, hb, hml, hown, hts⟩ (kX9_mayUse l D ct ad Z G y1.1 H.size a y1.2 y2 hc hk hy2) (cwV 1 hts gX9_sides_X9_mayUse rfl rfl rfl (by decide +kernel) ⟨Nat.le_of_ble_eq_true rfl, Nat.le_of_ble_eq_true rfl⟩) ⟨fun a U g mk q => by obtain ⟨q0, q1, qP, qK, qD, qZ, qN⟩ := q; exact ⟨q0, q1, qP, va_K.moved (u := U) (U := U.calling g mk a) (Vm.Alike.refl U.vm) qK, qD, sF.moved (u := U) (U := U.calling g mk a) (Vm.Alike.refl U.vm) qZ, nF.same rfl qN⟩, va_recv hK hP (ci := 9) (q0 := a) rfl (wld_o ct ad G y1.1 hc hk (by decide)), fun U hU hW => ⟨rfl, by rw [hU], by rw [hU]; exact hP, va_K.moved hW.alike hK, hD.weaken (fun _ _ _ _ => trivial), by rw [hU]; exact ((hZ.kept hS.2.1).narrow hf9).moved hW.alike, hN.warm hW⟩⟩ rfl rfl hl.1 rfl (lv_room (Nat.le_of_ble_eq_true rfl)) dX9_sides_9 ⟨(Nat.zero_le _), (Nat.zero_le _)⟩) hS (fun q _ h => hf9 q h) hf9 (fun r u t H locs ht hvm hw hB hz1 hk1 hS => ?_)
  obtain ⟨hP, hK9, hD9⟩ := hB
  rw [ht] at hP
  try dsimp only at hw
  subst hw
  have hD := hD9.weaken (fun _ q _ h => hf9 q.1 h)
  obtain ⟨y3, hy3, hF⟩ := bnd_some hF
  have J3 : ∀ (H : Heap) (locs : List Loc) (ls : Array Slot), va_P D classes (wld ct ad G y2.1) H → va_D A (wld ct ad G y2.1) → va_S A s.heap H locs → lv_has ls 2 [(0, .ref (ad a)), (1, .int p0)] → W p l e (headSpec wuX9_sides ({ frames := 1, cells := 0, slots := 0, locals := 28 })).room s m ([.ref (ad a), .int p0] : List Value).toArray below meth c H locs 0 0 (MQ below (va_Qi (fun (q : Int32) (_ : Unit) => q = y.2) (fun _ t => kE D ct ad G A y.1 t) A) ([.ref (ad a), .int p0] : List Value).toArray s 0 0 A) (F0 m 20 ls [.int y3]) := by
    intro H locs ls hP hD hS hl
    refine lv_aload_n hx hb dX9_sides_20 rfl (lv_at hl 0 rfl) ?_
    refine lv_aload_n hx hb dX9_sides_21 rfl (lv_at hl 0 rfl) ?_
    refine lv_iload_n hx hb dX9_sides_22 rfl (lv_at hl 1 rfl) ?_
    refine lv_iconst (v := (0 : Int32)) hx hb dX9_sides_23 (by decide) ?_
    refine lv_iconst (v := (-1 : Int32)) hx hb dX9_sides_24 (by decide) ?_
    refine lv_iconst (v := (0 : Int32)) hx hb dX9_sides_25 (by decide) ?_
    obtain ⟨y4, hy4, hF⟩ := bnd_some hF
    have hf9 := wA_in hD hA9 hS
    refine va_calli (va_runV (As := [.int p0, .int (0 : Int32), .int (-1 : Int32), .int (0 : Int32)]) (rest := [.ref (ad a), .int y3]) ⟨hx, hb, hml, hown, hts⟩ (kX9_pieceAt l D ct ad Z G y2.1 H.size a p0 ((0 : Int32)) ((-1 : Int32)) ((0 : Int32)) y4 hc hk hy4) (cwV 4 hts gX9_sides_X9_pieceAt rfl rfl rfl (by decide +kernel) ⟨Nat.le_of_ble_eq_true rfl, Nat.le_of_ble_eq_true rfl⟩) ⟨fun a U g mk q => by obtain ⟨q0, q1, qP, qK, qD, qZ, qN⟩ := q; exact ⟨q0, q1, qP, va_K.moved (u := U) (U := U.calling g mk a) (Vm.Alike.refl U.vm) qK, qD, sF.moved (u := U) (U := U.calling g mk a) (Vm.Alike.refl U.vm) qZ, nF.same rfl qN⟩, va_recv hK hP (ci := 9) (q0 := a) rfl (wld_o ct ad G y2.1 hc hk (by decide)), fun U hU hW => ⟨rfl, by rw [hU], by rw [hU]; exact hP, va_K.moved hW.alike hK, hD.weaken (fun _ _ _ _ => trivial), by rw [hU]; exact ((hZ.kept hS.2.1).narrow hf9).moved hW.alike, hN.warm hW⟩⟩ rfl rfl hl.1 rfl (lv_room (Nat.le_of_ble_eq_true rfl)) dX9_sides_26 ⟨(Nat.zero_le _), (Nat.zero_le _)⟩) hS (fun q _ h => hf9 q h) hf9 (fun r u t H locs ht hvm hw hB hz1 hk1 hS => ?_)
    obtain ⟨hP, hK9, hD9⟩ := hB
    rw [ht] at hP
    try dsimp only at hw
    subst hw
    have hD := hD9.weaken (fun _ q _ h => hf9 q.1 h)
    obtain ⟨y5, hy5, hF⟩ := bnd_some hF
    have hf9 := wA_in hD hA9 hS
    refine va_calli (va_runV (As := [.int y4.2]) (rest := [.int y3]) ⟨hx, hb, hml, hown, hts⟩ (kX9_mayUse l D ct ad Z G y4.1 H.size a y4.2 y5 hc hk hy5) (cwV 1 hts gX9_sides_X9_mayUse rfl rfl rfl (by decide +kernel) ⟨Nat.le_of_ble_eq_true rfl, Nat.le_of_ble_eq_true rfl⟩) ⟨fun a U g mk q => by obtain ⟨q0, q1, qP, qK, qD, qZ, qN⟩ := q; exact ⟨q0, q1, qP, va_K.moved (u := U) (U := U.calling g mk a) (Vm.Alike.refl U.vm) qK, qD, sF.moved (u := U) (U := U.calling g mk a) (Vm.Alike.refl U.vm) qZ, nF.same rfl qN⟩, va_recv hK hP (ci := 9) (q0 := a) rfl (wld_o ct ad G y4.1 hc hk (by decide)), fun U hU hW => ⟨rfl, by rw [hU], by rw [hU]; exact hP, va_K.moved hW.alike hK, hD.weaken (fun _ _ _ _ => trivial), by rw [hU]; exact ((hZ.kept hS.2.1).narrow hf9).moved hW.alike, hN.warm hW⟩⟩ rfl rfl hl.1 rfl (lv_room (Nat.le_of_ble_eq_true rfl)) dX9_sides_29 ⟨(Nat.zero_le _), (Nat.zero_le _)⟩) hS (fun q _ h => hf9 q h) hf9 (fun r u t H locs ht hvm hw hB hz1 hk1 hS => ?_)
    obtain ⟨hP, hK9, hD9⟩ := hB
    rw [ht] at hP
    try dsimp only at hw
    subst hw
    have hD := hD9.weaken (fun _ q _ h => hf9 q.1 h)
    obtain ⟨y6, hy6, hF⟩ := bnd_some hF
    have J6 : ∀ (H : Heap) (locs : List Loc) (ls : Array Slot), va_P D classes (wld ct ad G y5.1) H → va_D A (wld ct ad G y5.1) → va_S A s.heap H locs → lv_has ls 2 [(0, .ref (ad a)), (1, .int p0)] → W p l e (headSpec wuX9_sides ({ frames := 1, cells := 0, slots := 0, locals := 28 })).room s m ([.ref (ad a), .int p0] : List Value).toArray below meth c H locs 0 0 (MQ below (va_Qi (fun (q : Int32) (_ : Unit) => q = y.2) (fun _ t => kE D ct ad G A y.1 t) A) ([.ref (ad a), .int p0] : List Value).toArray s 0 0 A) (F0 m 40 ls [.int y6, .int y3]) := by
      intro H locs ls hP hD hS hl
      refine lv_ior hx hb dX9_sides_40 ?_
      obtain ⟨x7, ex7, hF⟩ := ltt_some hF
      refine lv_topi (fun zx7 ezx7 => ?_)
      obtain rfl : x7 = zx7 := ex7.trans ezx7.symm
      refine lv_aload_n hx hb dX9_sides_41 rfl (lv_at hl 0 rfl) ?_
      refine lv_aload_n hx hb dX9_sides_42 rfl (lv_at hl 0 rfl) ?_
      refine lv_iload_n hx hb dX9_sides_43 rfl (lv_at hl 1 rfl) ?_
      refine lv_iconst (v := (-1 : Int32)) hx hb dX9_sides_44 (by decide) ?_
      refine lv_iconst (v := (-1 : Int32)) hx hb dX9_sides_45 (by decide) ?_
      refine lv_iconst (v := (0 : Int32)) hx hb dX9_sides_46 (by decide) ?_
      obtain ⟨y8, hy8, hF⟩ := bnd_some hF
      have hf9 := wA_in hD hA9 hS
      refine va_calli (va_runV (As := [.int p0, .int (-1 : Int32), .int (-1 : Int32), .int (0 : Int32)]) (rest := [.ref (ad a), .int x7]) ⟨hx, hb, hml, hown, hts⟩ (kX9_pieceAt l D ct ad Z G y5.1 H.size a p0 ((-1 : Int32)) ((-1 : Int32)) ((0 : Int32)) y8 hc hk hy8) (cwV 4 hts gX9_sides_X9_pieceAt rfl rfl rfl (by decide +kernel) ⟨Nat.le_of_ble_eq_true rfl, Nat.le_of_ble_eq_true rfl⟩) ⟨fun a U g mk q => by obtain ⟨q0, q1, qP, qK, qD, qZ, qN⟩ := q; exact ⟨q0, q1, qP, va_K.moved (u := U) (U := U.calling g mk a) (Vm.Alike.refl U.vm) qK, qD, sF.moved (u := U) (U := U.calling g mk a) (Vm.Alike.refl U.vm) qZ, nF.same rfl qN⟩, va_recv hK hP (ci := 9) (q0 := a) rfl (wld_o ct ad G y5.1 hc hk (by decide)), fun U hU hW => ⟨rfl, by rw [hU], by rw [hU]; exact hP, va_K.moved hW.alike hK, hD.weaken (fun _ _ _ _ => trivial), by rw [hU]; exact ((hZ.kept hS.2.1).narrow hf9).moved hW.alike, hN.warm hW⟩⟩ rfl rfl hl.1 rfl (lv_room (Nat.le_of_ble_eq_true rfl)) dX9_sides_47 ⟨(Nat.zero_le _), (Nat.zero_le _)⟩) hS (fun q _ h => hf9 q h) hf9 (fun r u t H locs ht hvm hw hB hz1 hk1 hS => ?_)
      obtain ⟨hP, hK9, hD9⟩ := hB
      rw [ht] at hP
      try dsimp only at hw
      subst hw
      have hD := hD9.weaken (fun _ q _ h => hf9 q.1 h)
      obtain ⟨y9, hy9, hF⟩ := bnd_some hF
      have hf9 := wA_in hD hA9 hS
      refine va_calli (va_runV (As := [.int y8.2]) (rest := [.int x7]) ⟨hx, hb, hml, hown, hts⟩ (kX9_mayUse l D ct ad Z G y8.1 H.size a y8.2 y9 hc hk hy9) (cwV 1 hts gX9_sides_X9_mayUse rfl rfl rfl (by decide +kernel) ⟨Nat.le_of_ble_eq_true rfl, Nat.le_of_ble_eq_true rfl⟩) ⟨fun a U g mk q => by obtain ⟨q0, q1, qP, qK, qD, qZ, qN⟩ := q; exact ⟨q0, q1, qP, va_K.moved (u := U) (U := U.calling g mk a) (Vm.Alike.refl U.vm) qK, qD, sF.moved (u := U) (U := U.calling g mk a) (Vm.Alike.refl U.vm) qZ, nF.same rfl qN⟩, va_recv hK hP (ci := 9) (q0 := a) rfl (wld_o ct ad G y8.1 hc hk (by decide)), fun U hU hW => ⟨rfl, by rw [hU], by rw [hU]; exact hP, va_K.moved hW.alike hK, hD.weaken (fun _ _ _ _ => trivial), by rw [hU]; exact ((hZ.kept hS.2.1).narrow hf9).moved hW.alike, hN.warm hW⟩⟩ rfl rfl hl.1 rfl (lv_room (Nat.le_of_ble_eq_true rfl)) dX9_sides_50 ⟨(Nat.zero_le _), (Nat.zero_le _)⟩) hS (fun q _ h => hf9 q h) hf9 (fun r u t H locs ht hvm hw hB hz1 hk1 hS => ?_)
      obtain ⟨hP, hK9, hD9⟩ := hB
      rw [ht] at hP
      try dsimp only at hw
      subst hw
      have hD := hD9.weaken (fun _ q _ h => hf9 q.1 h)
      obtain ⟨y10, hy10, hF⟩ := bnd_some hF
      have J10 : ∀ (H : Heap) (locs : List Loc) (ls : Array Slot), va_P D classes (wld ct ad G y9.1) H → va_D A (wld ct ad G y9.1) → va_S A s.heap H locs → lv_has ls 2 [(0, .ref (ad a)), (1, .int p0)] → W p l e (headSpec wuX9_sides ({ frames := 1, cells := 0, slots := 0, locals := 28 })).room s m ([.ref (ad a), .int p0] : List Value).toArray below meth c H locs 0 0 (MQ below (va_Qi (fun (q : Int32) (_ : Unit) => q = y.2) (fun _ t => kE D ct ad G A y.1 t) A) ([.ref (ad a), .int p0] : List Value).toArray s 0 0 A) (F0 m 61 ls [.int y10, .int x7]) := by
        intro H locs ls hP hD hS hl
        refine lv_ior hx hb dX9_sides_61 ?_
        obtain ⟨x11, ex11, hF⟩ := ltt_some hF
        refine lv_topi (fun zx11 ezx11 => ?_)
        obtain rfl : x11 = zx11 := ex11.trans ezx11.symm
        refine lv_aload_n hx hb dX9_sides_62 rfl (lv_at hl 0 rfl) ?_
        refine lv_aload_n hx hb dX9_sides_63 rfl (lv_at hl 0 rfl) ?_
        refine lv_iload_n hx hb dX9_sides_64 rfl (lv_at hl 1 rfl) ?_
        refine lv_bipush (v := (16 : Int32)) hx hb dX9_sides_65 (by decide) ?_
        refine lv_iconst (v := (-1 : Int32)) hx hb dX9_sides_67 (by decide) ?_
        refine lv_iconst (v := (0 : Int32)) hx hb dX9_sides_68 (by decide) ?_
        obtain ⟨y12, hy12, hF⟩ := bnd_some hF
        have hf9 := wA_in hD hA9 hS
        refine va_calli (va_runV (As := [.int p0, .int (16 : Int32), .int (-1 : Int32), .int (0 : Int32)]) (rest := [.ref (ad a), .int x11]) ⟨hx, hb, hml, hown, hts⟩ (kX9_pieceAt l D ct ad Z G y9.1 H.size a p0 ((16 : Int32)) ((-1 : Int32)) ((0 : Int32)) y12 hc hk hy12) (cwV 4 hts gX9_sides_X9_pieceAt rfl rfl rfl (by decide +kernel) ⟨Nat.le_of_ble_eq_true rfl, Nat.le_of_ble_eq_true rfl⟩) ⟨fun a U g mk q => by obtain ⟨q0, q1, qP, qK, qD, qZ, qN⟩ := q; exact ⟨q0, q1, qP, va_K.moved (u := U) (U := U.calling g mk a) (Vm.Alike.refl U.vm) qK, qD, sF.moved (u := U) (U := U.calling g mk a) (Vm.Alike.refl U.vm) qZ, nF.same rfl qN⟩, va_recv hK hP (ci := 9) (q0 := a) rfl (wld_o ct ad G y9.1 hc hk (by decide)), fun U hU hW => ⟨rfl, by rw [hU], by rw [hU]; exact hP, va_K.moved hW.alike hK, hD.weaken (fun _ _ _ _ => trivial), by rw [hU]; exact ((hZ.kept hS.2.1).narrow hf9).moved hW.alike, hN.warm hW⟩⟩ rfl rfl hl.1 rfl (lv_room (Nat.le_of_ble_eq_true rfl)) dX9_sides_69 ⟨(Nat.zero_le _), (Nat.zero_le _)⟩) hS (fun q _ h => hf9 q h) hf9 (fun r u t H locs ht hvm hw hB hz1 hk1 hS => ?_)
        obtain ⟨hP, hK9, hD9⟩ := hB
        rw [ht] at hP
        try dsimp only at hw
        subst hw
        have hD := hD9.weaken (fun _ q _ h => hf9 q.1 h)
        obtain ⟨y13, hy13, hF⟩ := bnd_some hF
        have hf9 := wA_in hD hA9 hS
        refine va_calli (va_runV (As := [.int y12.2]) (rest := [.int x11]) ⟨hx, hb, hml, hown, hts⟩ (kX9_mayUse l D ct ad Z G y12.1 H.size a y12.2 y13 hc hk hy13) (cwV 1 hts gX9_sides_X9_mayUse rfl rfl rfl (by decide +kernel) ⟨Nat.le_of_ble_eq_true rfl, Nat.le_of_ble_eq_true rfl⟩) ⟨fun a U g mk q => by obtain ⟨q0, q1, qP, qK, qD, qZ, qN⟩ := q; exact ⟨q0, q1, qP, va_K.moved (u := U) (U := U.calling g mk a) (Vm.Alike.refl U.vm) qK, qD, sF.moved (u := U) (U := U.calling g mk a) (Vm.Alike.refl U.vm) qZ, nF.same rfl qN⟩, va_recv hK hP (ci := 9) (q0 := a) rfl (wld_o ct ad G y12.1 hc hk (by decide)), fun U hU hW => ⟨rfl, by rw [hU], by rw [hU]; exact hP, va_K.moved hW.alike hK, hD.weaken (fun _ _ _ _ => trivial), by rw [hU]; exact ((hZ.kept hS.2.1).narrow hf9).moved hW.alike, hN.warm hW⟩⟩ rfl rfl hl.1 rfl (lv_room (Nat.le_of_ble_eq_true rfl)) dX9_sides_72 ⟨(Nat.zero_le _), (Nat.zero_le _)⟩) hS (fun q _ h => hf9 q h) hf9 (fun r u t H locs ht hvm hw hB hz1 hk1 hS => ?_)
        obtain ⟨hP, hK9, hD9⟩ := hB
        rw [ht] at hP
        try dsimp only at hw
        subst hw
        have hD := hD9.weaken (fun _ q _ h => hf9 q.1 h)
        obtain ⟨y14, hy14, hF⟩ := bnd_some hF
        have J14 : ∀ (H : Heap) (locs : List Loc) (ls : Array Slot), va_P D classes (wld ct ad G y13.1) H → va_D A (wld ct ad G y13.1) → va_S A s.heap H locs → lv_has ls 2 [(0, .ref (ad a)), (1, .int p0)] → W p l e (headSpec wuX9_sides ({ frames := 1, cells := 0, slots := 0, locals := 28 })).room s m ([.ref (ad a), .int p0] : List Value).toArray below meth c H locs 0 0 (MQ below (va_Qi (fun (q : Int32) (_ : Unit) => q = y.2) (fun _ t => kE D ct ad G A y.1 t) A) ([.ref (ad a), .int p0] : List Value).toArray s 0 0 A) (F0 m 84 ls [.int y14, .int x11]) := by
          intro H locs ls hP hD hS hl
          refine lv_ior hx hb dX9_sides_84 ?_
          obtain ⟨x15, ex15, hF⟩ := ltt_some hF
          refine lv_topi (fun zx15 ezx15 => ?_)
          obtain rfl : x15 = zx15 := ex15.trans ezx15.symm
          obtain rfl := Option.some.inj hF
          exact W.iret (v := x15) hx hb hr (fun t ht hW => ⟨⟨_, (), rfl, rfl, ⟨by rw [ht]; exact hP, va_K.moved hW.alike hK, hD⟩⟩, hS.F ht⟩) hS.2.2 dX9_sides_85
        clear hF
        have hF := hy14
        clear hy14
        refine lv_if_eq (tgt := 83) hx hb dX9_sides_75 (by decide) (fun c16 => ?_) (fun c16 => ?_)
        · rw [if_pos c16] at hF
          refine lv_iconst (v := (0 : Int32)) hx hb dX9_sides_83 (by decide) ?_
          obtain rfl := Option.some.inj hF
          exact J14 _ _ _ hP hD hS (lv_sub hl [0, 1] rfl)
        · rw [if_neg c16] at hF
          refine lv_bipush (v := (8 : Int32)) hx hb dX9_sides_78 (by decide) ?_
          refine lv_goto (tgt := 84) hx hb dX9_sides_80 (by decide) ?_
          obtain rfl := Option.some.inj hF
          exact J14 _ _ _ hP hD hS (lv_sub hl [0, 1] rfl)
      clear hF
      have hF := hy10
      clear hy10
      refine lv_if_eq (tgt := 60) hx hb dX9_sides_53 (by decide) (fun c17 => ?_) (fun c17 => ?_)
      · rw [if_pos c17] at hF
        refine lv_iconst (v := (0 : Int32)) hx hb dX9_sides_60 (by decide) ?_
        obtain rfl := Option.some.inj hF
        exact J10 _ _ _ hP hD hS (lv_sub hl [0, 1] rfl)
      · rw [if_neg c17] at hF
        refine lv_iconst (v := (4 : Int32)) hx hb dX9_sides_56 (by decide) ?_
        refine lv_goto (tgt := 61) hx hb dX9_sides_57 (by decide) ?_
        obtain rfl := Option.some.inj hF
        exact J10 _ _ _ hP hD hS (lv_sub hl [0, 1] rfl)
    clear hF
    have hF := hy6
    clear hy6
    refine lv_if_eq (tgt := 39) hx hb dX9_sides_32 (by decide) (fun c18 => ?_) (fun c18 => ?_)
    · rw [if_pos c18] at hF
      refine lv_iconst (v := (0 : Int32)) hx hb dX9_sides_39 (by decide) ?_
      obtain rfl := Option.some.inj hF
      exact J6 _ _ _ hP hD hS (lv_sub hl [0, 1] rfl)
    · rw [if_neg c18] at hF
      refine lv_iconst (v := (2 : Int32)) hx hb dX9_sides_35 (by decide) ?_
      refine lv_goto (tgt := 40) hx hb dX9_sides_36 (by decide) ?_
      obtain rfl := Option.some.inj hF
      exact J6 _ _ _ hP hD hS (lv_sub hl [0, 1] rfl)
  clear hF
  have hF := hy3
  clear hy3
  refine lv_if_eq (tgt := 19) hx hb dX9_sides_12 (by decide) (fun c19 => ?_) (fun c19 => ?_)
  · rw [if_pos c19] at hF
    refine lv_iconst (v := (0 : Int32)) hx hb dX9_sides_19 (by decide) ?_
    obtain rfl := Option.some.inj hF
    exact J3 _ _ _ hP hD hS (lv_sub hl [0, 1] rfl)
  · rw [if_neg c19] at hF
    refine lv_iconst (v := (1 : Int32)) hx hb dX9_sides_15 (by decide) ?_
    refine lv_goto (tgt := 20) hx hb dX9_sides_16 (by decide) ?_
    obtain rfl := Option.some.inj hF
    exact J3 _ _ _ hP hD hS (lv_sub hl [0, 1] rfl)
set_option maxRecDepth 20000 in
theorem gX9_sidesOf_X9_pieceX : GoodIn wuX9_sidesOf (va_wsS RX9 122 yX9_pieceX wuX9_pieceX) := gu_S mw_1918 mw_949 mw_171 mw_950
set_option maxRecDepth 20000 in
set_option maxRecDepth 20000 in
theorem gX9_sidesOf_X9_pieceY : GoodIn wuX9_sidesOf (va_wsS RX9 126 yX9_pieceY wuX9_pieceY) := gu_S mw_1919 mw_952 mw_171 mw_953
theorem dX9_sidesOf_0 : decode cX9_sidesOf 0 = .ok (.iload_n 0, 1) := by decide +kernel
theorem dX9_sidesOf_1 : decode cX9_sidesOf 1 = .ok (.invokestatic 122, 3) := by decide +kernel
theorem dX9_sidesOf_4 : decode cX9_sidesOf 4 = .ok (.istore_n 2, 1) := by decide +kernel
theorem dX9_sidesOf_5 : decode cX9_sidesOf 5 = .ok (.iload_n 0, 1) := by decide +kernel
theorem dX9_sidesOf_6 : decode cX9_sidesOf 6 = .ok (.invokestatic 126, 3) := by decide +kernel
theorem dX9_sidesOf_9 : decode cX9_sidesOf 9 = .ok (.istore_n 3, 1) := by decide +kernel
theorem dX9_sidesOf_10 : decode cX9_sidesOf 10 = .ok (.iload_n 2, 1) := by decide +kernel
theorem dX9_sidesOf_11 : decode cX9_sidesOf 11 = .ok (.ifCond .gt 9, 3) := by decide +kernel
theorem dX9_sidesOf_14 : decode cX9_sidesOf 14 = .ok (.iload_n 1, 1) := by decide +kernel
theorem dX9_sidesOf_15 : decode cX9_sidesOf 15 = .ok (.iconst 1, 1) := by decide +kernel
theorem dX9_sidesOf_16 : decode cX9_sidesOf 16 = .ok (.iand, 1) := by decide +kernel
theorem dX9_sidesOf_17 : decode cX9_sidesOf 17 = .ok (.ifCond .eq 7, 3) := by decide +kernel
theorem dX9_sidesOf_20 : decode cX9_sidesOf 20 = .ok (.iconst 1, 1) := by decide +kernel
theorem dX9_sidesOf_21 : decode cX9_sidesOf 21 = .ok (.goto 4, 3) := by decide +kernel
theorem dX9_sidesOf_24 : decode cX9_sidesOf 24 = .ok (.iconst 0, 1) := by decide +kernel
theorem dX9_sidesOf_25 : decode cX9_sidesOf 25 = .ok (.istore 4, 2) := by decide +kernel
theorem dX9_sidesOf_27 : decode cX9_sidesOf 27 = .ok (.iload_n 3, 1) := by decide +kernel
theorem dX9_sidesOf_28 : decode cX9_sidesOf 28 = .ok (.ifCond .gt 9, 3) := by decide +kernel
theorem dX9_sidesOf_31 : decode cX9_sidesOf 31 = .ok (.iload_n 1, 1) := by decide +kernel
theorem dX9_sidesOf_32 : decode cX9_sidesOf 32 = .ok (.iconst 2, 1) := by decide +kernel
theorem dX9_sidesOf_33 : decode cX9_sidesOf 33 = .ok (.iand, 1) := by decide +kernel
theorem dX9_sidesOf_34 : decode cX9_sidesOf 34 = .ok (.ifCond .eq 7, 3) := by decide +kernel
theorem dX9_sidesOf_37 : decode cX9_sidesOf 37 = .ok (.iconst 1, 1) := by decide +kernel
theorem dX9_sidesOf_38 : decode cX9_sidesOf 38 = .ok (.goto 4, 3) := by decide +kernel
theorem dX9_sidesOf_41 : decode cX9_sidesOf 41 = .ok (.iconst 0, 1) := by decide +kernel
theorem dX9_sidesOf_42 : decode cX9_sidesOf 42 = .ok (.istore 5, 2) := by decide +kernel
theorem dX9_sidesOf_44 : decode cX9_sidesOf 44 = .ok (.iload_n 2, 1) := by decide +kernel
theorem dX9_sidesOf_45 : decode cX9_sidesOf 45 = .ok (.ifCond .le 8, 3) := by decide +kernel
theorem dX9_sidesOf_48 : decode cX9_sidesOf 48 = .ok (.iload 5, 2) := by decide +kernel
theorem dX9_sidesOf_50 : decode cX9_sidesOf 50 = .ok (.goto 23, 3) := by decide +kernel
theorem dX9_sidesOf_53 : decode cX9_sidesOf 53 = .ok (.iload_n 3, 1) := by decide +kernel
theorem dX9_sidesOf_54 : decode cX9_sidesOf 54 = .ok (.ifCond .le 8, 3) := by decide +kernel
theorem dX9_sidesOf_57 : decode cX9_sidesOf 57 = .ok (.iload 4, 2) := by decide +kernel
theorem dX9_sidesOf_59 : decode cX9_sidesOf 59 = .ok (.goto 14, 3) := by decide +kernel
theorem dX9_sidesOf_62 : decode cX9_sidesOf 62 = .ok (.iload_n 1, 1) := by decide +kernel
theorem dX9_sidesOf_63 : decode cX9_sidesOf 63 = .ok (.iconst 4, 1) := by decide +kernel
theorem dX9_sidesOf_64 : decode cX9_sidesOf 64 = .ok (.iand, 1) := by decide +kernel
theorem dX9_sidesOf_65 : decode cX9_sidesOf 65 = .ok (.ifCond .eq 7, 3) := by decide +kernel
theorem dX9_sidesOf_68 : decode cX9_sidesOf 68 = .ok (.iconst 1, 1) := by decide +kernel
theorem dX9_sidesOf_69 : decode cX9_sidesOf 69 = .ok (.goto 4, 3) := by decide +kernel
theorem dX9_sidesOf_72 : decode cX9_sidesOf 72 = .ok (.iconst 0, 1) := by decide +kernel
theorem dX9_sidesOf_73 : decode cX9_sidesOf 73 = .ok (.istore 6, 2) := by decide +kernel
theorem dX9_sidesOf_75 : decode cX9_sidesOf 75 = .ok (.iload 5, 2) := by decide +kernel
theorem dX9_sidesOf_77 : decode cX9_sidesOf 77 = .ok (.istore 7, 2) := by decide +kernel
theorem dX9_sidesOf_79 : decode cX9_sidesOf 79 = .ok (.iload_n 0, 1) := by decide +kernel
theorem dX9_sidesOf_80 : decode cX9_sidesOf 80 = .ok (.iconst 5, 1) := by decide +kernel
theorem dX9_sidesOf_81 : decode cX9_sidesOf 81 = .ok (.if_icmp .ne 20, 3) := by decide +kernel
theorem dX9_sidesOf_84 : decode cX9_sidesOf 84 = .ok (.iload_n 1, 1) := by decide +kernel
theorem dX9_sidesOf_85 : decode cX9_sidesOf 85 = .ok (.bipush 8, 2) := by decide +kernel
theorem dX9_sidesOf_87 : decode cX9_sidesOf 87 = .ok (.iand, 1) := by decide +kernel
theorem dX9_sidesOf_88 : decode cX9_sidesOf 88 = .ok (.ifCond .eq 7, 3) := by decide +kernel
theorem dX9_sidesOf_91 : decode cX9_sidesOf 91 = .ok (.iconst 1, 1) := by decide +kernel
theorem dX9_sidesOf_92 : decode cX9_sidesOf 92 = .ok (.goto 4, 3) := by decide +kernel
theorem dX9_sidesOf_95 : decode cX9_sidesOf 95 = .ok (.iconst 0, 1) := by decide +kernel
theorem dX9_sidesOf_96 : decode cX9_sidesOf 96 = .ok (.istore 7, 2) := by decide +kernel
theorem dX9_sidesOf_98 : decode cX9_sidesOf 98 = .ok (.goto 32, 3) := by decide +kernel
theorem dX9_sidesOf_101 : decode cX9_sidesOf 101 = .ok (.iload_n 0, 1) := by decide +kernel
theorem dX9_sidesOf_102 : decode cX9_sidesOf 102 = .ok (.iconst 3, 1) := by decide +kernel
theorem dX9_sidesOf_103 : decode cX9_sidesOf 103 = .ok (.if_icmp .eq 24, 3) := by decide +kernel
theorem dX9_sidesOf_106 : decode cX9_sidesOf 106 = .ok (.iload_n 0, 1) := by decide +kernel
theorem dX9_sidesOf_107 : decode cX9_sidesOf 107 = .ok (.bipush 11, 2) := by decide +kernel
theorem dX9_sidesOf_109 : decode cX9_sidesOf 109 = .ok (.if_icmp .eq 18, 3) := by decide +kernel
theorem dX9_sidesOf_112 : decode cX9_sidesOf 112 = .ok (.iload_n 0, 1) := by decide +kernel
theorem dX9_sidesOf_113 : decode cX9_sidesOf 113 = .ok (.bipush 8, 2) := by decide +kernel
theorem dX9_sidesOf_115 : decode cX9_sidesOf 115 = .ok (.irem, 1) := by decide +kernel
theorem dX9_sidesOf_116 : decode cX9_sidesOf 116 = .ok (.bipush 7, 2) := by decide +kernel
theorem dX9_sidesOf_118 : decode cX9_sidesOf 118 = .ok (.if_icmp .eq 9, 3) := by decide +kernel
theorem dX9_sidesOf_121 : decode cX9_sidesOf 121 = .ok (.iload_n 0, 1) := by decide +kernel
theorem dX9_sidesOf_122 : decode cX9_sidesOf 122 = .ok (.bipush 13, 2) := by decide +kernel
theorem dX9_sidesOf_124 : decode cX9_sidesOf 124 = .ok (.if_icmp .ne 6, 3) := by decide +kernel
theorem dX9_sidesOf_127 : decode cX9_sidesOf 127 = .ok (.iconst 0, 1) := by decide +kernel
theorem dX9_sidesOf_128 : decode cX9_sidesOf 128 = .ok (.istore 7, 2) := by decide +kernel
theorem dX9_sidesOf_130 : decode cX9_sidesOf 130 = .ok (.iload 4, 2) := by decide +kernel
theorem dX9_sidesOf_132 : decode cX9_sidesOf 132 = .ok (.ifCond .eq 7, 3) := by decide +kernel
theorem dX9_sidesOf_135 : decode cX9_sidesOf 135 = .ok (.iconst 1, 1) := by decide +kernel
theorem dX9_sidesOf_136 : decode cX9_sidesOf 136 = .ok (.goto 4, 3) := by decide +kernel
theorem dX9_sidesOf_139 : decode cX9_sidesOf 139 = .ok (.iconst 0, 1) := by decide +kernel
theorem dX9_sidesOf_140 : decode cX9_sidesOf 140 = .ok (.iload 5, 2) := by decide +kernel
theorem dX9_sidesOf_142 : decode cX9_sidesOf 142 = .ok (.ifCond .eq 7, 3) := by decide +kernel
theorem dX9_sidesOf_145 : decode cX9_sidesOf 145 = .ok (.iconst 2, 1) := by decide +kernel
theorem dX9_sidesOf_146 : decode cX9_sidesOf 146 = .ok (.goto 4, 3) := by decide +kernel
theorem dX9_sidesOf_149 : decode cX9_sidesOf 149 = .ok (.iconst 0, 1) := by decide +kernel
theorem dX9_sidesOf_150 : decode cX9_sidesOf 150 = .ok (.ior, 1) := by decide +kernel
theorem dX9_sidesOf_151 : decode cX9_sidesOf 151 = .ok (.iload 6, 2) := by decide +kernel
theorem dX9_sidesOf_153 : decode cX9_sidesOf 153 = .ok (.ifCond .eq 7, 3) := by decide +kernel
theorem dX9_sidesOf_156 : decode cX9_sidesOf 156 = .ok (.iconst 4, 1) := by decide +kernel
theorem dX9_sidesOf_157 : decode cX9_sidesOf 157 = .ok (.goto 4, 3) := by decide +kernel
theorem dX9_sidesOf_160 : decode cX9_sidesOf 160 = .ok (.iconst 0, 1) := by decide +kernel
theorem dX9_sidesOf_161 : decode cX9_sidesOf 161 = .ok (.ior, 1) := by decide +kernel
theorem dX9_sidesOf_162 : decode cX9_sidesOf 162 = .ok (.iload 7, 2) := by decide +kernel
theorem dX9_sidesOf_164 : decode cX9_sidesOf 164 = .ok (.ifCond .eq 8, 3) := by decide +kernel
theorem dX9_sidesOf_167 : decode cX9_sidesOf 167 = .ok (.bipush 8, 2) := by decide +kernel
theorem dX9_sidesOf_169 : decode cX9_sidesOf 169 = .ok (.goto 4, 3) := by decide +kernel
theorem dX9_sidesOf_172 : decode cX9_sidesOf 172 = .ok (.iconst 0, 1) := by decide +kernel
theorem dX9_sidesOf_173 : decode cX9_sidesOf 173 = .ok (.ior, 1) := by decide +kernel
theorem dX9_sidesOf_174 : decode cX9_sidesOf 174 = .ok (.ireturn, 1) := by decide +kernel
def FX9_sidesOf (G : GG) (M : DD) (p0 : Int32) (p1 : Int32) : Option (DD × Int32) :=
  bnd (FX9_pieceX G M p0) fun y1 =>
  bnd (FX9_pieceY G y1.1 p0) fun y2 =>
  bnd (if ((0 : Int32)) < y1.2 then (some ((1 : Int32))) else
  (ltt ((p1 &&& ((1 : Int32)))) fun x42 =>
  bnd (if x42 = ((0 : Int32)) then (some ((0 : Int32))) else
  (some ((1 : Int32)))) fun (y43 : Int32) =>
  some (y43))) fun (y3 : Int32) =>
  bnd (if ((0 : Int32)) < y2.2 then (some ((1 : Int32))) else
  (ltt ((p1 &&& ((2 : Int32)))) fun x38 =>
  bnd (if x38 = ((0 : Int32)) then (some ((0 : Int32))) else
  (some ((1 : Int32)))) fun (y39 : Int32) =>
  some (y39))) fun (y4 : Int32) =>
  bnd (if y1.2 ≤ ((0 : Int32)) then (bnd (if y2.2 ≤ ((0 : Int32)) then (ltt ((p1 &&& ((4 : Int32)))) fun x34 =>
  bnd (if x34 = ((0 : Int32)) then (some ((0 : Int32))) else
  (some ((1 : Int32)))) fun (y35 : Int32) =>
  some (y35)) else
  (some (y3))) fun (y32 : Int32) =>
  some (y32)) else
  (some (y4))) fun (y5 : Int32) =>
  bnd (if p0 = ((5 : Int32)) then (ltt ((p1 &&& ((8 : Int32)))) fun x28 =>
  bnd (if x28 = ((0 : Int32)) then (some ((0 : Int32))) else
  (some ((1 : Int32)))) fun (y29 : Int32) =>
  some (y29)) else
  (bnd (if p0 = ((3 : Int32)) then (some ((0 : Int32))) else
  (bnd (if p0 = ((11 : Int32)) then (some ((0 : Int32))) else
  (ltt (p0 - p0 / ((8 : Int32)) * ((8 : Int32))) fun x23 =>
  bnd (if x23 = ((7 : Int32)) then (some ((0 : Int32))) else
  (bnd (if p0 = ((13 : Int32)) then (some ((0 : Int32))) else
  (some (y4))) fun (y26 : Int32) =>
  some (y26))) fun (y24 : Int32) =>
  some (y24))) fun (y21 : Int32) =>
  some (y21))) fun (y19 : Int32) =>
  some (y19))) fun (y6 : Int32) =>
  bnd (if y3 = ((0 : Int32)) then (some ((0 : Int32))) else
  (some ((1 : Int32)))) fun (y7 : Int32) =>
  bnd (if y4 = ((0 : Int32)) then (some ((0 : Int32))) else
  (some ((2 : Int32)))) fun (y8 : Int32) =>
  ltt ((y7 ||| y8)) fun x9 =>
  bnd (if y5 = ((0 : Int32)) then (some ((0 : Int32))) else
  (some ((4 : Int32)))) fun (y10 : Int32) =>
  ltt ((x9 ||| y10)) fun x11 =>
  bnd (if y6 = ((0 : Int32)) then (some ((0 : Int32))) else
  (some ((8 : Int32)))) fun (y12 : Int32) =>
  ltt ((x11 ||| y12)) fun x13 =>
  some (y2.1, x13)
set_option maxHeartbeats 4000000 in
set_option maxRecDepth 100000 in
theorem kX9_sidesOf (l : Launch) (D : va_G) (ct : CT) (ad : Nat → Nat) (Z : Nat → Nat) (G : GG) (M : DD) (sz : Nat) (p0 : Int32) (p1 : Int32) (y : DD × Int32) (hF : FX9_sidesOf G M p0 p1 = some y) : Met l yX9_sidesOf wuX9_sidesOf ({ frames := 1, cells := 0, slots := 0, locals := 20 }) (va_Pc [.int p0, .int p1] (kB D ct ad Z G M sz)) (va_Qi (fun (q : Int32) (_ : Unit) => q = y.2) (fun _ t => kE D ct ad G (wA ad G sz) y.1 t) (wA ad G sz)) 0 0 (wA ad G sz) := by
  refine Met.ofW (cc := cX9_sidesOf) (maxL := 8) (ret := (some .int)) (by decide) rfl ?_
  intro p e s m args below meth c s₁ B hml hv
  obtain ⟨rfl, hsz, hP, hK, hD0, hZ, hN⟩ := hv
  have hx := B.exec
  have hb := B.bytes
  have hr := B.returns
  have hts := atoms_spec (ws := wuX9_sidesOf) B.pre
  have hown : s.vm.findClass RX9 = some m.cls := findClass_of_methodNamed B.named
  have hlocks := B.notSynchronized
  subst hsz
  have hD := wD_self (sz := s.heap.size) hD0
  have hA9 : ∀ q, s.heap.size ≤ q → wA ad G s.heap.size q := fun q h => Or.inr h
  generalize hAe : wA ad G s.heap.size = A at hD hA9 hZ ⊢
  have hS : va_S A s.heap s.heap [] := va_S.rf
  have hl := lv_entry ([.int p0, .int p1]) (n := 8) (Nat.le_of_ble_eq_true rfl)
  rw [lg_entry_eq]
  generalize (lg_sl ([.int p0, .int p1]) ++ List.replicate (8 - (lg_sl ([.int p0, .int p1])).length) Slot.unset).toArray = ls at hl ⊢
  have hl : lv_has ls 8 [(0, .int p0), (1, .int p1)] := hl
  unfold FX9_sidesOf at hF
  refine lv_iload_n hx hb dX9_sidesOf_0 rfl (lv_at hl 0 rfl) ?_
  obtain ⟨y1, hy1, hF⟩ := bnd_some hF
  have hf9 := wA_in hD hA9 hS
  refine va_calli (va_runS (As := [.int p0]) (rest := []) ⟨hx, hb, hml, hown, hts⟩ (kX9_pieceX l D ct ad Z G M s.heap.size p0 y1 hy1) (va_cwS 1 hts gX9_sidesOf_X9_pieceX rfl rfl rfl (by decide +kernel) ⟨Nat.le_of_ble_eq_true rfl, Nat.le_of_ble_eq_true rfl⟩) ⟨fun a U g mk q => by obtain ⟨q0, q1, qP, qK, qD, qZ, qN⟩ := q; exact ⟨q0, q1, qP, va_K.moved (u := U) (U := U.calling g mk a) (Vm.Alike.refl U.vm) qK, qD, sF.moved (u := U) (U := U.calling g mk a) (Vm.Alike.refl U.vm) qZ, nF.same rfl qN⟩, fun U hU hW => ⟨rfl, by rw [hU], by rw [hU]; exact hP, va_K.moved hW.alike hK, hD.weaken (fun _ _ _ _ => trivial), by rw [hU]; exact ((hZ.kept hS.2.1).narrow hf9).moved hW.alike, hN.warm hW⟩⟩ rfl rfl hl.1 rfl (lv_room (Nat.le_of_ble_eq_true rfl)) dX9_sidesOf_1 ⟨(Nat.zero_le _), (Nat.zero_le _)⟩) hS (fun q _ h => hf9 q h) hf9 (fun r u t H locs ht hvm hw hB hz1 hk1 hS => ?_)
  obtain ⟨hP, hK9, hD9⟩ := hB
  rw [ht] at hP
  try dsimp only at hw
  subst hw
  have hD := hD9.weaken (fun _ q _ h => hf9 q.1 h)
  refine lv_istore_n (lv' := [(2, .int y1.2), (0, .int p0), (1, .int p1)]) hx hb dX9_sidesOf_4 rfl hl (by decide) rfl (fun ls hl => ?_)
  refine lv_iload_n hx hb dX9_sidesOf_5 rfl (lv_at hl 1 rfl) ?_
  obtain ⟨y2, hy2, hF⟩ := bnd_some hF
  have hf9 := wA_in hD hA9 hS
  refine va_calli (va_runS (As := [.int p0]) (rest := []) ⟨hx, hb, hml, hown, hts⟩ (kX9_pieceY l D ct ad Z G y1.1 H.size p0 y2 hy2) (va_cwS 1 hts gX9_sidesOf_X9_pieceY rfl rfl rfl (by decide +kernel) ⟨Nat.le_of_ble_eq_true rfl, Nat.le_of_ble_eq_true rfl⟩) ⟨fun a U g mk q => by obtain ⟨q0, q1, qP, qK, qD, qZ, qN⟩ := q; exact ⟨q0, q1, qP, va_K.moved (u := U) (U := U.calling g mk a) (Vm.Alike.refl U.vm) qK, qD, sF.moved (u := U) (U := U.calling g mk a) (Vm.Alike.refl U.vm) qZ, nF.same rfl qN⟩, fun U hU hW => ⟨rfl, by rw [hU], by rw [hU]; exact hP, va_K.moved hW.alike hK, hD.weaken (fun _ _ _ _ => trivial), by rw [hU]; exact ((hZ.kept hS.2.1).narrow hf9).moved hW.alike, hN.warm hW⟩⟩ rfl rfl hl.1 rfl (lv_room (Nat.le_of_ble_eq_true rfl)) dX9_sidesOf_6 ⟨(Nat.zero_le _), (Nat.zero_le _)⟩) hS (fun q _ h => hf9 q h) hf9 (fun r u t H locs ht hvm hw hB hz1 hk1 hS => ?_)
  obtain ⟨hP, hK9, hD9⟩ := hB
  rw [ht] at hP
  try dsimp only at hw
  subst hw
  have hD := hD9.weaken (fun _ q _ h => hf9 q.1 h)
  refine lv_istore_n (lv' := [(3, .int y2.2), (2, .int y1.2), (0, .int p0), (1, .int p1)]) hx hb dX9_sidesOf_9 rfl hl (by decide) rfl (fun ls hl => ?_)
  refine lv_iload_n hx hb dX9_sidesOf_10 rfl (lv_at hl 1 rfl) ?_
  obtain ⟨y3, hy3, hF⟩ := bnd_some hF
  have J3 : ∀ (H : Heap) (locs : List Loc) (ls : Array Slot), va_P D classes (wld ct ad G y2.1) H → va_D A (wld ct ad G y2.1) → va_S A s.heap H locs → lv_has ls 8 [(3, .int y2.2), (2, .int y1.2), (0, .int p0), (1, .int p1)] → W p l e (headSpec wuX9_sidesOf ({ frames := 1, cells := 0, slots := 0, locals := 20 })).room s m ([.int p0, .int p1] : List Value).toArray below meth c H locs 0 0 (MQ below (va_Qi (fun (q : Int32) (_ : Unit) => q = y.2) (fun _ t => kE D ct ad G A y.1 t) A) ([.int p0, .int p1] : List Value).toArray s 0 0 A) (F0 m 25 ls [.int y3]) := by
    intro H locs ls hP hD hS hl
    refine lv_istore (lv' := [(4, .int y3), (3, .int y2.2), (2, .int y1.2), (0, .int p0), (1, .int p1)]) hx hb dX9_sidesOf_25 hl (by decide) rfl (fun ls hl => ?_)
    refine lv_iload_n hx hb dX9_sidesOf_27 rfl (lv_at hl 1 rfl) ?_
    obtain ⟨y4, hy4, hF⟩ := bnd_some hF
    have J4 : ∀ (H : Heap) (locs : List Loc) (ls : Array Slot), va_P D classes (wld ct ad G y2.1) H → va_D A (wld ct ad G y2.1) → va_S A s.heap H locs → lv_has ls 8 [(4, .int y3), (3, .int y2.2), (2, .int y1.2), (0, .int p0), (1, .int p1)] → W p l e (headSpec wuX9_sidesOf ({ frames := 1, cells := 0, slots := 0, locals := 20 })).room s m ([.int p0, .int p1] : List Value).toArray below meth c H locs 0 0 (MQ below (va_Qi (fun (q : Int32) (_ : Unit) => q = y.2) (fun _ t => kE D ct ad G A y.1 t) A) ([.int p0, .int p1] : List Value).toArray s 0 0 A) (F0 m 42 ls [.int y4]) := by
      intro H locs ls hP hD hS hl
      refine lv_istore (lv' := [(5, .int y4), (4, .int y3), (3, .int y2.2), (2, .int y1.2), (0, .int p0), (1, .int p1)]) hx hb dX9_sidesOf_42 hl (by decide) rfl (fun ls hl => ?_)
      refine lv_iload_n hx hb dX9_sidesOf_44 rfl (lv_at hl 3 rfl) ?_
      obtain ⟨y5, hy5, hF⟩ := bnd_some hF
      have J5 : ∀ (H : Heap) (locs : List Loc) (ls : Array Slot), va_P D classes (wld ct ad G y2.1) H → va_D A (wld ct ad G y2.1) → va_S A s.heap H locs → lv_has ls 8 [(5, .int y4), (4, .int y3), (3, .int y2.2), (2, .int y1.2), (0, .int p0), (1, .int p1)] → W p l e (headSpec wuX9_sidesOf ({ frames := 1, cells := 0, slots := 0, locals := 20 })).room s m ([.int p0, .int p1] : List Value).toArray below meth c H locs 0 0 (MQ below (va_Qi (fun (q : Int32) (_ : Unit) => q = y.2) (fun _ t => kE D ct ad G A y.1 t) A) ([.int p0, .int p1] : List Value).toArray s 0 0 A) (F0 m 73 ls [.int y5]) := by
        intro H locs ls hP hD hS hl
        refine lv_istore (lv' := [(6, .int y5), (5, .int y4), (4, .int y3), (3, .int y2.2), (2, .int y1.2), (0, .int p0), (1, .int p1)]) hx hb dX9_sidesOf_73 hl (by decide) rfl (fun ls hl => ?_)
        refine lv_iload hx hb dX9_sidesOf_75 (lv_at hl 1 rfl) ?_
        refine lv_istore (lv' := [(7, .int y4), (6, .int y5), (5, .int y4), (4, .int y3), (3, .int y2.2), (2, .int y1.2), (0, .int p0), (1, .int p1)]) hx hb dX9_sidesOf_77 hl (by decide) rfl (fun ls hl => ?_)
        refine lv_iload_n hx hb dX9_sidesOf_79 rfl (lv_at hl 6 rfl) ?_
        refine lv_iconst (v := (5 : Int32)) hx hb dX9_sidesOf_80 (by decide) ?_
        obtain ⟨y6, hy6, hF⟩ := bnd_some hF
        have J6 : ∀ (H : Heap) (locs : List Loc) (ls : Array Slot), va_P D classes (wld ct ad G y2.1) H → va_D A (wld ct ad G y2.1) → va_S A s.heap H locs → lv_has ls 8 [(7, .int y6), (6, .int y5), (5, .int y4), (4, .int y3), (3, .int y2.2), (2, .int y1.2), (0, .int p0), (1, .int p1)] → W p l e (headSpec wuX9_sidesOf ({ frames := 1, cells := 0, slots := 0, locals := 20 })).room s m ([.int p0, .int p1] : List Value).toArray below meth c H locs 0 0 (MQ below (va_Qi (fun (q : Int32) (_ : Unit) => q = y.2) (fun _ t => kE D ct ad G A y.1 t) A) ([.int p0, .int p1] : List Value).toArray s 0 0 A) (F0 m 130 ls []) := by
          intro H locs ls hP hD hS hl
          refine lv_iload hx hb dX9_sidesOf_130 (lv_at hl 3 rfl) ?_
          obtain ⟨y7, hy7, hF⟩ := bnd_some hF
          have J7 : ∀ (H : Heap) (locs : List Loc) (ls : Array Slot), va_P D classes (wld ct ad G y2.1) H → va_D A (wld ct ad G y2.1) → va_S A s.heap H locs → lv_has ls 8 [(7, .int y6), (6, .int y5), (5, .int y4), (4, .int y3), (3, .int y2.2), (2, .int y1.2), (0, .int p0), (1, .int p1)] → W p l e (headSpec wuX9_sidesOf ({ frames := 1, cells := 0, slots := 0, locals := 20 })).room s m ([.int p0, .int p1] : List Value).toArray below meth c H locs 0 0 (MQ below (va_Qi (fun (q : Int32) (_ : Unit) => q = y.2) (fun _ t => kE D ct ad G A y.1 t) A) ([.int p0, .int p1] : List Value).toArray s 0 0 A) (F0 m 140 ls [.int y7]) := by
            intro H locs ls hP hD hS hl
            refine lv_iload hx hb dX9_sidesOf_140 (lv_at hl 2 rfl) ?_
            obtain ⟨y8, hy8, hF⟩ := bnd_some hF
            have J8 : ∀ (H : Heap) (locs : List Loc) (ls : Array Slot), va_P D classes (wld ct ad G y2.1) H → va_D A (wld ct ad G y2.1) → va_S A s.heap H locs → lv_has ls 8 [(7, .int y6), (6, .int y5), (5, .int y4), (4, .int y3), (3, .int y2.2), (2, .int y1.2), (0, .int p0), (1, .int p1)] → W p l e (headSpec wuX9_sidesOf ({ frames := 1, cells := 0, slots := 0, locals := 20 })).room s m ([.int p0, .int p1] : List Value).toArray below meth c H locs 0 0 (MQ below (va_Qi (fun (q : Int32) (_ : Unit) => q = y.2) (fun _ t => kE D ct ad G A y.1 t) A) ([.int p0, .int p1] : List Value).toArray s 0 0 A) (F0 m 150 ls [.int y8, .int y7]) := by
              intro H locs ls hP hD hS hl
              refine lv_ior hx hb dX9_sidesOf_150 ?_
              obtain ⟨x9, ex9, hF⟩ := ltt_some hF
              refine lv_topi (fun zx9 ezx9 => ?_)
              obtain rfl : x9 = zx9 := ex9.trans ezx9.symm
              refine lv_iload hx hb dX9_sidesOf_151 (lv_at hl 1 rfl) ?_
              obtain ⟨y10, hy10, hF⟩ := bnd_some hF
              have J10 : ∀ (H : Heap) (locs : List Loc) (ls : Array Slot), va_P D classes (wld ct ad G y2.1) H → va_D A (wld ct ad G y2.1) → va_S A s.heap H locs → lv_has ls 8 [(7, .int y6), (6, .int y5), (5, .int y4), (4, .int y3), (3, .int y2.2), (2, .int y1.2), (0, .int p0), (1, .int p1)] → W p l e (headSpec wuX9_sidesOf ({ frames := 1, cells := 0, slots := 0, locals := 20 })).room s m ([.int p0, .int p1] : List Value).toArray below meth c H locs 0 0 (MQ below (va_Qi (fun (q : Int32) (_ : Unit) => q = y.2) (fun _ t => kE D ct ad G A y.1 t) A) ([.int p0, .int p1] : List Value).toArray s 0 0 A) (F0 m 161 ls [.int y10, .int x9]) := by
                intro H locs ls hP hD hS hl
                refine lv_ior hx hb dX9_sidesOf_161 ?_
                obtain ⟨x11, ex11, hF⟩ := ltt_some hF
                refine lv_topi (fun zx11 ezx11 => ?_)
                obtain rfl : x11 = zx11 := ex11.trans ezx11.symm
                refine lv_iload hx hb dX9_sidesOf_162 (lv_at hl 0 rfl) ?_
                obtain ⟨y12, hy12, hF⟩ := bnd_some hF
                have J12 : ∀ (H : Heap) (locs : List Loc) (ls : Array Slot), va_P D classes (wld ct ad G y2.1) H → va_D A (wld ct ad G y2.1) → va_S A s.heap H locs → lv_has ls 8 [(7, .int y6), (6, .int y5), (5, .int y4), (4, .int y3), (3, .int y2.2), (2, .int y1.2), (0, .int p0), (1, .int p1)] → W p l e (headSpec wuX9_sidesOf ({ frames := 1, cells := 0, slots := 0, locals := 20 })).room s m ([.int p0, .int p1] : List Value).toArray below meth c H locs 0 0 (MQ below (va_Qi (fun (q : Int32) (_ : Unit) => q = y.2) (fun _ t => kE D ct ad G A y.1 t) A) ([.int p0, .int p1] : List Value).toArray s 0 0 A) (F0 m 173 ls [.int y12, .int x11]) := by
                  intro H locs ls hP hD hS hl
                  refine lv_ior hx hb dX9_sidesOf_173 ?_
                  obtain ⟨x13, ex13, hF⟩ := ltt_some hF
                  refine lv_topi (fun zx13 ezx13 => ?_)
                  obtain rfl : x13 = zx13 := ex13.trans ezx13.symm
                  obtain rfl := Option.some.inj hF
                  exact W.iret (v := x13) hx hb hr (fun t ht hW => ⟨⟨_, (), rfl, rfl, ⟨by rw [ht]; exact hP, va_K.moved hW.alike hK, hD⟩⟩, hS.F ht⟩) hS.2.2 dX9_sidesOf_174
                clear hF
                have hF := hy12
                clear hy12
                refine lv_if_eq (tgt := 172) hx hb dX9_sidesOf_164 (by decide) (fun c14 => ?_) (fun c14 => ?_)
                · rw [if_pos c14] at hF
                  refine lv_iconst (v := (0 : Int32)) hx hb dX9_sidesOf_172 (by decide) ?_
                  obtain rfl := Option.some.inj hF
                  exact J12 _ _ _ hP hD hS (lv_sub hl [0, 1, 2, 3, 4, 5, 6, 7] rfl)
                · rw [if_neg c14] at hF
                  refine lv_bipush (v := (8 : Int32)) hx hb dX9_sidesOf_167 (by decide) ?_
                  refine lv_goto (tgt := 173) hx hb dX9_sidesOf_169 (by decide) ?_
                  obtain rfl := Option.some.inj hF
                  exact J12 _ _ _ hP hD hS (lv_sub hl [0, 1, 2, 3, 4, 5, 6, 7] rfl)
              clear hF
              have hF := hy10
              clear hy10
              refine lv_if_eq (tgt := 160) hx hb dX9_sidesOf_153 (by decide) (fun c15 => ?_) (fun c15 => ?_)
              · rw [if_pos c15] at hF
                refine lv_iconst (v := (0 : Int32)) hx hb dX9_sidesOf_160 (by decide) ?_
                obtain rfl := Option.some.inj hF
                exact J10 _ _ _ hP hD hS (lv_sub hl [0, 1, 2, 3, 4, 5, 6, 7] rfl)
              · rw [if_neg c15] at hF
                refine lv_iconst (v := (4 : Int32)) hx hb dX9_sidesOf_156 (by decide) ?_
                refine lv_goto (tgt := 161) hx hb dX9_sidesOf_157 (by decide) ?_
                obtain rfl := Option.some.inj hF
                exact J10 _ _ _ hP hD hS (lv_sub hl [0, 1, 2, 3, 4, 5, 6, 7] rfl)
            clear hF
            have hF := hy8
            clear hy8
            refine lv_if_eq (tgt := 149) hx hb dX9_sidesOf_142 (by decide) (fun c16 => ?_) (fun c16 => ?_)
            · rw [if_pos c16] at hF
              refine lv_iconst (v := (0 : Int32)) hx hb dX9_sidesOf_149 (by decide) ?_
              obtain rfl := Option.some.inj hF
              exact J8 _ _ _ hP hD hS (lv_sub hl [0, 1, 2, 3, 4, 5, 6, 7] rfl)
            · rw [if_neg c16] at hF
              refine lv_iconst (v := (2 : Int32)) hx hb dX9_sidesOf_145 (by decide) ?_
              refine lv_goto (tgt := 150) hx hb dX9_sidesOf_146 (by decide) ?_
              obtain rfl := Option.some.inj hF
              exact J8 _ _ _ hP hD hS (lv_sub hl [0, 1, 2, 3, 4, 5, 6, 7] rfl)
          clear hF
          have hF := hy7
          clear hy7
          refine lv_if_eq (tgt := 139) hx hb dX9_sidesOf_132 (by decide) (fun c17 => ?_) (fun c17 => ?_)
          · rw [if_pos c17] at hF
            refine lv_iconst (v := (0 : Int32)) hx hb dX9_sidesOf_139 (by decide) ?_
            obtain rfl := Option.some.inj hF
            exact J7 _ _ _ hP hD hS (lv_sub hl [0, 1, 2, 3, 4, 5, 6, 7] rfl)
          · rw [if_neg c17] at hF
            refine lv_iconst (v := (1 : Int32)) hx hb dX9_sidesOf_135 (by decide) ?_
            refine lv_goto (tgt := 140) hx hb dX9_sidesOf_136 (by decide) ?_
            obtain rfl := Option.some.inj hF
            exact J7 _ _ _ hP hD hS (lv_sub hl [0, 1, 2, 3, 4, 5, 6, 7] rfl)
        clear hF
        have hF := hy6
        clear hy6
        refine lv_icmp_ne (tgt := 101) hx hb dX9_sidesOf_81 (by decide) (fun c18 => ?_) (fun c18 => ?_)
        · rw [if_neg c18] at hF
          refine lv_iload_n hx hb dX9_sidesOf_101 rfl (lv_at hl 6 rfl) ?_
          refine lv_iconst (v := (3 : Int32)) hx hb dX9_sidesOf_102 (by decide) ?_
          obtain ⟨y19, hy19, hF⟩ := bnd_some hF
          have J19 : ∀ (H : Heap) (locs : List Loc) (ls : Array Slot), va_P D classes (wld ct ad G y2.1) H → va_D A (wld ct ad G y2.1) → va_S A s.heap H locs → lv_has ls 8 [(7, .int y19), (6, .int y5), (5, .int y4), (4, .int y3), (3, .int y2.2), (2, .int y1.2), (0, .int p0), (1, .int p1)] → W p l e (headSpec wuX9_sidesOf ({ frames := 1, cells := 0, slots := 0, locals := 20 })).room s m ([.int p0, .int p1] : List Value).toArray below meth c H locs 0 0 (MQ below (va_Qi (fun (q : Int32) (_ : Unit) => q = y.2) (fun _ t => kE D ct ad G A y.1 t) A) ([.int p0, .int p1] : List Value).toArray s 0 0 A) (F0 m 130 ls []) := by
            intro H locs ls hP hD hS hl
            obtain rfl := Option.some.inj hF
            exact J6 _ _ _ hP hD hS (lv_sub hl [0, 1, 2, 3, 4, 5, 6, 7] rfl)
          clear hF
          have hF := hy19
          clear hy19
          refine lv_icmp_eq (tgt := 127) hx hb dX9_sidesOf_103 (by decide) (fun c20 => ?_) (fun c20 => ?_)
          · rw [if_pos c20] at hF
            refine lv_iconst (v := (0 : Int32)) hx hb dX9_sidesOf_127 (by decide) ?_
            refine lv_istore (lv' := [(7, .int (0 : Int32)), (6, .int y5), (5, .int y4), (4, .int y3), (3, .int y2.2), (2, .int y1.2), (0, .int p0), (1, .int p1)]) hx hb dX9_sidesOf_128 hl (by decide) rfl (fun ls hl => ?_)
            obtain rfl := Option.some.inj hF
            exact J19 _ _ _ hP hD hS (lv_sub hl [0, 1, 2, 3, 4, 5, 6, 7] rfl)
          · rw [if_neg c20] at hF
            refine lv_iload_n hx hb dX9_sidesOf_106 rfl (lv_at hl 6 rfl) ?_
            refine lv_bipush (v := (11 : Int32)) hx hb dX9_sidesOf_107 (by decide) ?_
            obtain ⟨y21, hy21, hF⟩ := bnd_some hF
            have J21 : ∀ (H : Heap) (locs : List Loc) (ls : Array Slot), va_P D classes (wld ct ad G y2.1) H → va_D A (wld ct ad G y2.1) → va_S A s.heap H locs → lv_has ls 8 [(7, .int y21), (6, .int y5), (5, .int y4), (4, .int y3), (3, .int y2.2), (2, .int y1.2), (0, .int p0), (1, .int p1)] → W p l e (headSpec wuX9_sidesOf ({ frames := 1, cells := 0, slots := 0, locals := 20 })).room s m ([.int p0, .int p1] : List Value).toArray below meth c H locs 0 0 (MQ below (va_Qi (fun (q : Int32) (_ : Unit) => q = y.2) (fun _ t => kE D ct ad G A y.1 t) A) ([.int p0, .int p1] : List Value).toArray s 0 0 A) (F0 m 130 ls []) := by
              intro H locs ls hP hD hS hl
              obtain rfl := Option.some.inj hF
              exact J19 _ _ _ hP hD hS (lv_sub hl [0, 1, 2, 3, 4, 5, 6, 7] rfl)
            clear hF
            have hF := hy21
            clear hy21
            refine lv_icmp_eq (tgt := 127) hx hb dX9_sidesOf_109 (by decide) (fun c22 => ?_) (fun c22 => ?_)
            · rw [if_pos c22] at hF
              refine lv_iconst (v := (0 : Int32)) hx hb dX9_sidesOf_127 (by decide) ?_
              refine lv_istore (lv' := [(7, .int (0 : Int32)), (6, .int y5), (5, .int y4), (4, .int y3), (3, .int y2.2), (2, .int y1.2), (0, .int p0), (1, .int p1)]) hx hb dX9_sidesOf_128 hl (by decide) rfl (fun ls hl => ?_)
              obtain rfl := Option.some.inj hF
              exact J21 _ _ _ hP hD hS (lv_sub hl [0, 1, 2, 3, 4, 5, 6, 7] rfl)
            · rw [if_neg c22] at hF
              refine lv_iload_n hx hb dX9_sidesOf_112 rfl (lv_at hl 6 rfl) ?_
              refine lv_bipush (v := (8 : Int32)) hx hb dX9_sidesOf_113 (by decide) ?_
              refine lv_irem hx hb dX9_sidesOf_115 (by decide) ?_
              obtain ⟨x23, ex23, hF⟩ := ltt_some hF
              refine lv_topi (fun zx23 ezx23 => ?_)
              obtain rfl : x23 = zx23 := ex23.trans ezx23.symm
              refine lv_bipush (v := (7 : Int32)) hx hb dX9_sidesOf_116 (by decide) ?_
              obtain ⟨y24, hy24, hF⟩ := bnd_some hF
              have J24 : ∀ (H : Heap) (locs : List Loc) (ls : Array Slot), va_P D classes (wld ct ad G y2.1) H → va_D A (wld ct ad G y2.1) → va_S A s.heap H locs → lv_has ls 8 [(7, .int y24), (6, .int y5), (5, .int y4), (4, .int y3), (3, .int y2.2), (2, .int y1.2), (0, .int p0), (1, .int p1)] → W p l e (headSpec wuX9_sidesOf ({ frames := 1, cells := 0, slots := 0, locals := 20 })).room s m ([.int p0, .int p1] : List Value).toArray below meth c H locs 0 0 (MQ below (va_Qi (fun (q : Int32) (_ : Unit) => q = y.2) (fun _ t => kE D ct ad G A y.1 t) A) ([.int p0, .int p1] : List Value).toArray s 0 0 A) (F0 m 130 ls []) := by
                intro H locs ls hP hD hS hl
                obtain rfl := Option.some.inj hF
                exact J21 _ _ _ hP hD hS (lv_sub hl [0, 1, 2, 3, 4, 5, 6, 7] rfl)
              clear hF
              have hF := hy24
              clear hy24
              refine lv_icmp_eq (tgt := 127) hx hb dX9_sidesOf_118 (by decide) (fun c25 => ?_) (fun c25 => ?_)
              · rw [if_pos c25] at hF
                refine lv_iconst (v := (0 : Int32)) hx hb dX9_sidesOf_127 (by decide) ?_
                refine lv_istore (lv' := [(7, .int (0 : Int32)), (6, .int y5), (5, .int y4), (4, .int y3), (3, .int y2.2), (2, .int y1.2), (0, .int p0), (1, .int p1)]) hx hb dX9_sidesOf_128 hl (by decide) rfl (fun ls hl => ?_)
                obtain rfl := Option.some.inj hF
                exact J24 _ _ _ hP hD hS (lv_sub hl [0, 1, 2, 3, 4, 5, 6, 7] rfl)
              · rw [if_neg c25] at hF
                refine lv_iload_n hx hb dX9_sidesOf_121 rfl (lv_at hl 6 rfl) ?_
                refine lv_bipush (v := (13 : Int32)) hx hb dX9_sidesOf_122 (by decide) ?_
                obtain ⟨y26, hy26, hF⟩ := bnd_some hF
                have J26 : ∀ (H : Heap) (locs : List Loc) (ls : Array Slot), va_P D classes (wld ct ad G y2.1) H → va_D A (wld ct ad G y2.1) → va_S A s.heap H locs → lv_has ls 8 [(7, .int y26), (6, .int y5), (5, .int y4), (4, .int y3), (3, .int y2.2), (2, .int y1.2), (0, .int p0), (1, .int p1)] → W p l e (headSpec wuX9_sidesOf ({ frames := 1, cells := 0, slots := 0, locals := 20 })).room s m ([.int p0, .int p1] : List Value).toArray below meth c H locs 0 0 (MQ below (va_Qi (fun (q : Int32) (_ : Unit) => q = y.2) (fun _ t => kE D ct ad G A y.1 t) A) ([.int p0, .int p1] : List Value).toArray s 0 0 A) (F0 m 130 ls []) := by
                  intro H locs ls hP hD hS hl
                  obtain rfl := Option.some.inj hF
                  exact J24 _ _ _ hP hD hS (lv_sub hl [0, 1, 2, 3, 4, 5, 6, 7] rfl)
                clear hF
                have hF := hy26
                clear hy26
                refine lv_icmp_ne (tgt := 130) hx hb dX9_sidesOf_124 (by decide) (fun c27 => ?_) (fun c27 => ?_)
                · rw [if_neg c27] at hF
                  obtain rfl := Option.some.inj hF
                  exact J26 _ _ _ hP hD hS (lv_sub hl [0, 1, 2, 3, 4, 5, 6, 7] rfl)
                · rw [if_pos c27] at hF
                  refine lv_iconst (v := (0 : Int32)) hx hb dX9_sidesOf_127 (by decide) ?_
                  refine lv_istore (lv' := [(7, .int (0 : Int32)), (6, .int y5), (5, .int y4), (4, .int y3), (3, .int y2.2), (2, .int y1.2), (0, .int p0), (1, .int p1)]) hx hb dX9_sidesOf_128 hl (by decide) rfl (fun ls hl => ?_)
                  obtain rfl := Option.some.inj hF
                  exact J26 _ _ _ hP hD hS (lv_sub hl [0, 1, 2, 3, 4, 5, 6, 7] rfl)
        · rw [if_pos c18] at hF
          refine lv_iload_n hx hb dX9_sidesOf_84 rfl (lv_at hl 7 rfl) ?_
          refine lv_bipush (v := (8 : Int32)) hx hb dX9_sidesOf_85 (by decide) ?_
          refine lv_iand hx hb dX9_sidesOf_87 ?_
          obtain ⟨x28, ex28, hF⟩ := ltt_some hF
          refine lv_topi (fun zx28 ezx28 => ?_)
          obtain rfl : x28 = zx28 := ex28.trans ezx28.symm
          obtain ⟨y29, hy29, hF⟩ := bnd_some hF
          have J29 : ∀ (H : Heap) (locs : List Loc) (ls : Array Slot), va_P D classes (wld ct ad G y2.1) H → va_D A (wld ct ad G y2.1) → va_S A s.heap H locs → lv_has ls 8 [(7, .int y4), (6, .int y5), (5, .int y4), (4, .int y3), (3, .int y2.2), (2, .int y1.2), (0, .int p0), (1, .int p1)] → W p l e (headSpec wuX9_sidesOf ({ frames := 1, cells := 0, slots := 0, locals := 20 })).room s m ([.int p0, .int p1] : List Value).toArray below meth c H locs 0 0 (MQ below (va_Qi (fun (q : Int32) (_ : Unit) => q = y.2) (fun _ t => kE D ct ad G A y.1 t) A) ([.int p0, .int p1] : List Value).toArray s 0 0 A) (F0 m 96 ls [.int y29]) := by
            intro H locs ls hP hD hS hl
            refine lv_istore (lv' := [(7, .int y29), (6, .int y5), (5, .int y4), (4, .int y3), (3, .int y2.2), (2, .int y1.2), (0, .int p0), (1, .int p1)]) hx hb dX9_sidesOf_96 hl (by decide) rfl (fun ls hl => ?_)
            refine lv_goto (tgt := 130) hx hb dX9_sidesOf_98 (by decide) ?_
            obtain rfl := Option.some.inj hF
            exact J6 _ _ _ hP hD hS (lv_sub hl [0, 1, 2, 3, 4, 5, 6, 7] rfl)
          clear hF
          have hF := hy29
          clear hy29
          refine lv_if_eq (tgt := 95) hx hb dX9_sidesOf_88 (by decide) (fun c30 => ?_) (fun c30 => ?_)
          · rw [if_pos c30] at hF
            refine lv_iconst (v := (0 : Int32)) hx hb dX9_sidesOf_95 (by decide) ?_
            obtain rfl := Option.some.inj hF
            exact J29 _ _ _ hP hD hS (lv_sub hl [0, 1, 2, 3, 4, 5, 6, 7] rfl)
          · rw [if_neg c30] at hF
            refine lv_iconst (v := (1 : Int32)) hx hb dX9_sidesOf_91 (by decide) ?_
            refine lv_goto (tgt := 96) hx hb dX9_sidesOf_92 (by decide) ?_
            obtain rfl := Option.some.inj hF
            exact J29 _ _ _ hP hD hS (lv_sub hl [0, 1, 2, 3, 4, 5, 6, 7] rfl)
      clear hF
      have hF := hy5
      clear hy5
      refine lv_if_le (tgt := 53) hx hb dX9_sidesOf_45 (by decide) (fun c31 => ?_) (fun c31 => ?_)
      · rw [if_pos c31] at hF
        refine lv_iload_n hx hb dX9_sidesOf_53 rfl (lv_at hl 2 rfl) ?_
        obtain ⟨y32, hy32, hF⟩ := bnd_some hF
        have J32 : ∀ (H : Heap) (locs : List Loc) (ls : Array Slot), va_P D classes (wld ct ad G y2.1) H → va_D A (wld ct ad G y2.1) → va_S A s.heap H locs → lv_has ls 8 [(5, .int y4), (4, .int y3), (3, .int y2.2), (2, .int y1.2), (0, .int p0), (1, .int p1)] → W p l e (headSpec wuX9_sidesOf ({ frames := 1, cells := 0, slots := 0, locals := 20 })).room s m ([.int p0, .int p1] : List Value).toArray below meth c H locs 0 0 (MQ below (va_Qi (fun (q : Int32) (_ : Unit) => q = y.2) (fun _ t => kE D ct ad G A y.1 t) A) ([.int p0, .int p1] : List Value).toArray s 0 0 A) (F0 m 73 ls [.int y32]) := by
          intro H locs ls hP hD hS hl
          obtain rfl := Option.some.inj hF
          exact J5 _ _ _ hP hD hS (lv_sub hl [0, 1, 2, 3, 4, 5] rfl)
        clear hF
        have hF := hy32
        clear hy32
        refine lv_if_le (tgt := 62) hx hb dX9_sidesOf_54 (by decide) (fun c33 => ?_) (fun c33 => ?_)
        · rw [if_pos c33] at hF
          refine lv_iload_n hx hb dX9_sidesOf_62 rfl (lv_at hl 5 rfl) ?_
          refine lv_iconst (v := (4 : Int32)) hx hb dX9_sidesOf_63 (by decide) ?_
          refine lv_iand hx hb dX9_sidesOf_64 ?_
          obtain ⟨x34, ex34, hF⟩ := ltt_some hF
          refine lv_topi (fun zx34 ezx34 => ?_)
          obtain rfl : x34 = zx34 := ex34.trans ezx34.symm
          obtain ⟨y35, hy35, hF⟩ := bnd_some hF
          have J35 : ∀ (H : Heap) (locs : List Loc) (ls : Array Slot), va_P D classes (wld ct ad G y2.1) H → va_D A (wld ct ad G y2.1) → va_S A s.heap H locs → lv_has ls 8 [(5, .int y4), (4, .int y3), (3, .int y2.2), (2, .int y1.2), (0, .int p0), (1, .int p1)] → W p l e (headSpec wuX9_sidesOf ({ frames := 1, cells := 0, slots := 0, locals := 20 })).room s m ([.int p0, .int p1] : List Value).toArray below meth c H locs 0 0 (MQ below (va_Qi (fun (q : Int32) (_ : Unit) => q = y.2) (fun _ t => kE D ct ad G A y.1 t) A) ([.int p0, .int p1] : List Value).toArray s 0 0 A) (F0 m 73 ls [.int y35]) := by
            intro H locs ls hP hD hS hl
            obtain rfl := Option.some.inj hF
            exact J32 _ _ _ hP hD hS (lv_sub hl [0, 1, 2, 3, 4, 5] rfl)
          clear hF
          have hF := hy35
          clear hy35
          refine lv_if_eq (tgt := 72) hx hb dX9_sidesOf_65 (by decide) (fun c36 => ?_) (fun c36 => ?_)
          · rw [if_pos c36] at hF
            refine lv_iconst (v := (0 : Int32)) hx hb dX9_sidesOf_72 (by decide) ?_
            obtain rfl := Option.some.inj hF
            exact J35 _ _ _ hP hD hS (lv_sub hl [0, 1, 2, 3, 4, 5] rfl)
          · rw [if_neg c36] at hF
            refine lv_iconst (v := (1 : Int32)) hx hb dX9_sidesOf_68 (by decide) ?_
            refine lv_goto (tgt := 73) hx hb dX9_sidesOf_69 (by decide) ?_
            obtain rfl := Option.some.inj hF
            exact J35 _ _ _ hP hD hS (lv_sub hl [0, 1, 2, 3, 4, 5] rfl)
        · rw [if_neg c33] at hF
          refine lv_iload hx hb dX9_sidesOf_57 (lv_at hl 1 rfl) ?_
          refine lv_goto (tgt := 73) hx hb dX9_sidesOf_59 (by decide) ?_
          obtain rfl := Option.some.inj hF
          exact J32 _ _ _ hP hD hS (lv_sub hl [0, 1, 2, 3, 4, 5] rfl)
      · rw [if_neg c31] at hF
        refine lv_iload hx hb dX9_sidesOf_48 (lv_at hl 0 rfl) ?_
        refine lv_goto (tgt := 73) hx hb dX9_sidesOf_50 (by decide) ?_
        obtain rfl := Option.some.inj hF
        exact J5 _ _ _ hP hD hS (lv_sub hl [0, 1, 2, 3, 4, 5] rfl)
    clear hF
    have hF := hy4
    clear hy4
    refine lv_if_gt (tgt := 37) hx hb dX9_sidesOf_28 (by decide) (fun c37 => ?_) (fun c37 => ?_)
    · rw [if_pos c37] at hF
      refine lv_iconst (v := (1 : Int32)) hx hb dX9_sidesOf_37 (by decide) ?_
      refine lv_goto (tgt := 42) hx hb dX9_sidesOf_38 (by decide) ?_
      obtain rfl := Option.some.inj hF
      exact J4 _ _ _ hP hD hS (lv_sub hl [0, 1, 2, 3, 4] rfl)
    · rw [if_neg c37] at hF
      refine lv_iload_n hx hb dX9_sidesOf_31 rfl (lv_at hl 4 rfl) ?_
      refine lv_iconst (v := (2 : Int32)) hx hb dX9_sidesOf_32 (by decide) ?_
      refine lv_iand hx hb dX9_sidesOf_33 ?_
      obtain ⟨x38, ex38, hF⟩ := ltt_some hF
      refine lv_topi (fun zx38 ezx38 => ?_)
      obtain rfl : x38 = zx38 := ex38.trans ezx38.symm
      obtain ⟨y39, hy39, hF⟩ := bnd_some hF
      have J39 : ∀ (H : Heap) (locs : List Loc) (ls : Array Slot), va_P D classes (wld ct ad G y2.1) H → va_D A (wld ct ad G y2.1) → va_S A s.heap H locs → lv_has ls 8 [(4, .int y3), (3, .int y2.2), (2, .int y1.2), (0, .int p0), (1, .int p1)] → W p l e (headSpec wuX9_sidesOf ({ frames := 1, cells := 0, slots := 0, locals := 20 })).room s m ([.int p0, .int p1] : List Value).toArray below meth c H locs 0 0 (MQ below (va_Qi (fun (q : Int32) (_ : Unit) => q = y.2) (fun _ t => kE D ct ad G A y.1 t) A) ([.int p0, .int p1] : List Value).toArray s 0 0 A) (F0 m 42 ls [.int y39]) := by
        intro H locs ls hP hD hS hl
        obtain rfl := Option.some.inj hF
        exact J4 _ _ _ hP hD hS (lv_sub hl [0, 1, 2, 3, 4] rfl)
      clear hF
      have hF := hy39
      clear hy39
      refine lv_if_eq (tgt := 41) hx hb dX9_sidesOf_34 (by decide) (fun c40 => ?_) (fun c40 => ?_)
      · rw [if_pos c40] at hF
        refine lv_iconst (v := (0 : Int32)) hx hb dX9_sidesOf_41 (by decide) ?_
        obtain rfl := Option.some.inj hF
        exact J39 _ _ _ hP hD hS (lv_sub hl [0, 1, 2, 3, 4] rfl)
      · rw [if_neg c40] at hF
        refine lv_iconst (v := (1 : Int32)) hx hb dX9_sidesOf_37 (by decide) ?_
        refine lv_goto (tgt := 42) hx hb dX9_sidesOf_38 (by decide) ?_
        obtain rfl := Option.some.inj hF
        exact J39 _ _ _ hP hD hS (lv_sub hl [0, 1, 2, 3, 4] rfl)
  clear hF
  have hF := hy3
  clear hy3
  refine lv_if_gt (tgt := 20) hx hb dX9_sidesOf_11 (by decide) (fun c41 => ?_) (fun c41 => ?_)
  · rw [if_pos c41] at hF
    refine lv_iconst (v := (1 : Int32)) hx hb dX9_sidesOf_20 (by decide) ?_
    refine lv_goto (tgt := 25) hx hb dX9_sidesOf_21 (by decide) ?_
    obtain rfl := Option.some.inj hF
    exact J3 _ _ _ hP hD hS (lv_sub hl [0, 1, 2, 3] rfl)
  · rw [if_neg c41] at hF
    refine lv_iload_n hx hb dX9_sidesOf_14 rfl (lv_at hl 3 rfl) ?_
    refine lv_iconst (v := (1 : Int32)) hx hb dX9_sidesOf_15 (by decide) ?_
    refine lv_iand hx hb dX9_sidesOf_16 ?_
    obtain ⟨x42, ex42, hF⟩ := ltt_some hF
    refine lv_topi (fun zx42 ezx42 => ?_)
    obtain rfl : x42 = zx42 := ex42.trans ezx42.symm
    obtain ⟨y43, hy43, hF⟩ := bnd_some hF
    have J43 : ∀ (H : Heap) (locs : List Loc) (ls : Array Slot), va_P D classes (wld ct ad G y2.1) H → va_D A (wld ct ad G y2.1) → va_S A s.heap H locs → lv_has ls 8 [(3, .int y2.2), (2, .int y1.2), (0, .int p0), (1, .int p1)] → W p l e (headSpec wuX9_sidesOf ({ frames := 1, cells := 0, slots := 0, locals := 20 })).room s m ([.int p0, .int p1] : List Value).toArray below meth c H locs 0 0 (MQ below (va_Qi (fun (q : Int32) (_ : Unit) => q = y.2) (fun _ t => kE D ct ad G A y.1 t) A) ([.int p0, .int p1] : List Value).toArray s 0 0 A) (F0 m 25 ls [.int y43]) := by
      intro H locs ls hP hD hS hl
      obtain rfl := Option.some.inj hF
      exact J3 _ _ _ hP hD hS (lv_sub hl [0, 1, 2, 3] rfl)
    clear hF
    have hF := hy43
    clear hy43
    refine lv_if_eq (tgt := 24) hx hb dX9_sidesOf_17 (by decide) (fun c44 => ?_) (fun c44 => ?_)
    · rw [if_pos c44] at hF
      refine lv_iconst (v := (0 : Int32)) hx hb dX9_sidesOf_24 (by decide) ?_
      obtain rfl := Option.some.inj hF
      exact J43 _ _ _ hP hD hS (lv_sub hl [0, 1, 2, 3] rfl)
    · rw [if_neg c44] at hF
      refine lv_iconst (v := (1 : Int32)) hx hb dX9_sidesOf_20 (by decide) ?_
      refine lv_goto (tgt := 25) hx hb dX9_sidesOf_21 (by decide) ?_
      obtain rfl := Option.some.inj hF
      exact J43 _ _ _ hP hD hS (lv_sub hl [0, 1, 2, 3] rfl)
theorem dX9_timeBetween_0 : decode cX9_timeBetween 0 = .ok (.iload_n 1, 1) := by decide +kernel
theorem dX9_timeBetween_1 : decode cX9_timeBetween 1 = .ok (.iload_n 0, 1) := by decide +kernel
theorem dX9_timeBetween_2 : decode cX9_timeBetween 2 = .ok (.isub, 1) := by decide +kernel
theorem dX9_timeBetween_3 : decode cX9_timeBetween 3 = .ok (.istore_n 2, 1) := by decide +kernel
theorem dX9_timeBetween_4 : decode cX9_timeBetween 4 = .ok (.iload_n 2, 1) := by decide +kernel
theorem dX9_timeBetween_5 : decode cX9_timeBetween 5 = .ok (.bipush (-128), 2) := by decide +kernel
theorem dX9_timeBetween_7 : decode cX9_timeBetween 7 = .ok (.if_icmp .ge 8, 3) := by decide +kernel
theorem dX9_timeBetween_10 : decode cX9_timeBetween 10 = .ok (.bipush (-128), 2) := by decide +kernel
theorem dX9_timeBetween_12 : decode cX9_timeBetween 12 = .ok (.goto 15, 3) := by decide +kernel
theorem dX9_timeBetween_15 : decode cX9_timeBetween 15 = .ok (.iload_n 2, 1) := by decide +kernel
theorem dX9_timeBetween_16 : decode cX9_timeBetween 16 = .ok (.bipush 127, 2) := by decide +kernel
theorem dX9_timeBetween_18 : decode cX9_timeBetween 18 = .ok (.if_icmp .le 8, 3) := by decide +kernel
theorem dX9_timeBetween_21 : decode cX9_timeBetween 21 = .ok (.bipush 127, 2) := by decide +kernel
theorem dX9_timeBetween_23 : decode cX9_timeBetween 23 = .ok (.goto 4, 3) := by decide +kernel
theorem dX9_timeBetween_26 : decode cX9_timeBetween 26 = .ok (.iload_n 2, 1) := by decide +kernel
theorem dX9_timeBetween_27 : decode cX9_timeBetween 27 = .ok (.ireturn, 1) := by decide +kernel
def FX9_timeBetween (G : GG) (M : DD) (p0 : Int32) (p1 : Int32) : Option (DD × Int32) :=
  ltt ((p1 - p0)) fun x1 =>
  bnd (if ((-128 : Int32)) ≤ x1 then (bnd (if x1 ≤ ((127 : Int32)) then (some (x1)) else
  (some ((127 : Int32)))) fun (y4 : Int32) =>
  some (y4)) else
  (some ((-128 : Int32)))) fun (y2 : Int32) =>
  some (M, y2)
set_option maxHeartbeats 4000000 in
set_option maxRecDepth 100000 in
theorem kX9_timeBetween (l : Launch) (D : va_G) (ct : CT) (ad : Nat → Nat) (Z : Nat → Nat) (G : GG) (M : DD) (sz : Nat) (p0 : Int32) (p1 : Int32) (y : DD × Int32) (hF : FX9_timeBetween G M p0 p1 = some y) : Met l yX9_timeBetween wuX9_timeBetween ({ frames := 0, cells := 0, slots := 0, locals := 0 }) (va_Pc [.int p0, .int p1] (kB D ct ad Z G M sz)) (va_Qi (fun (q : Int32) (_ : Unit) => q = y.2) (fun _ t => kE D ct ad G (wA ad G sz) y.1 t) (wA ad G sz)) 0 0 (wA ad G sz) := by
  refine Met.ofW (cc := cX9_timeBetween) (maxL := 3) (ret := (some .int)) (by decide) rfl ?_
  intro p e s m args below meth c s₁ B hml hv
  obtain ⟨rfl, hsz, hP, hK, hD0, hZ, hN⟩ := hv
  have hx := B.exec
  have hb := B.bytes
  have hr := B.returns
  have hts := atoms_spec (ws := wuX9_timeBetween) B.pre
  have hown : s.vm.findClass RX9 = some m.cls := findClass_of_methodNamed B.named
  have hlocks := B.notSynchronized
  subst hsz
  have hD := wD_self (sz := s.heap.size) hD0
  have hA9 : ∀ q, s.heap.size ≤ q → wA ad G s.heap.size q := fun q h => Or.inr h
  generalize hAe : wA ad G s.heap.size = A at hD hA9 hZ ⊢
  have hS : va_S A s.heap s.heap [] := va_S.rf
  have hl := lv_entry ([.int p0, .int p1]) (n := 3) (Nat.le_of_ble_eq_true rfl)
  rw [lg_entry_eq]
  generalize (lg_sl ([.int p0, .int p1]) ++ List.replicate (3 - (lg_sl ([.int p0, .int p1])).length) Slot.unset).toArray = ls at hl ⊢
  have hl : lv_has ls 3 [(0, .int p0), (1, .int p1)] := hl
  unfold FX9_timeBetween at hF
  refine lv_iload_n hx hb dX9_timeBetween_0 rfl (lv_at hl 1 rfl) ?_
  refine lv_iload_n hx hb dX9_timeBetween_1 rfl (lv_at hl 0 rfl) ?_
  refine lv_isub hx hb dX9_timeBetween_2 ?_
  obtain ⟨x1, ex1, hF⟩ := ltt_some hF
  refine lv_topi (fun zx1 ezx1 => ?_)
  obtain rfl : x1 = zx1 := ex1.trans ezx1.symm
  refine lv_istore_n (lv' := [(2, .int x1), (0, .int p0), (1, .int p1)]) hx hb dX9_timeBetween_3 rfl hl (by decide) rfl (fun ls hl => ?_)
  refine lv_iload_n hx hb dX9_timeBetween_4 rfl (lv_at hl 0 rfl) ?_
  refine lv_bipush (v := (-128 : Int32)) hx hb dX9_timeBetween_5 (by decide) ?_
  obtain ⟨y2, hy2, hF⟩ := bnd_some hF
  have J2 : ∀ (H : Heap) (locs : List Loc) (ls : Array Slot), va_P D classes (wld ct ad G M) H → va_D A (wld ct ad G M) → va_S A s.heap H locs → lv_has ls 3 [(2, .int x1), (0, .int p0), (1, .int p1)] → W p l e (headSpec wuX9_timeBetween ({ frames := 0, cells := 0, slots := 0, locals := 0 })).room s m ([.int p0, .int p1] : List Value).toArray below meth c H locs 0 0 (MQ below (va_Qi (fun (q : Int32) (_ : Unit) => q = y.2) (fun _ t => kE D ct ad G A y.1 t) A) ([.int p0, .int p1] : List Value).toArray s 0 0 A) (F0 m 27 ls [.int y2]) := by
    intro H locs ls hP hD hS hl
    obtain rfl := Option.some.inj hF
    exact W.iret (v := y2) hx hb hr (fun t ht hW => ⟨⟨_, (), rfl, rfl, ⟨by rw [ht]; exact hP, va_K.moved hW.alike hK, hD⟩⟩, hS.F ht⟩) hS.2.2 dX9_timeBetween_27
  clear hF
  have hF := hy2
  clear hy2
  refine lv_icmp_ge (tgt := 15) hx hb dX9_timeBetween_7 (by decide) (fun c3 => ?_) (fun c3 => ?_)
  · rw [if_pos c3] at hF
    refine lv_iload_n hx hb dX9_timeBetween_15 rfl (lv_at hl 0 rfl) ?_
    refine lv_bipush (v := (127 : Int32)) hx hb dX9_timeBetween_16 (by decide) ?_
    obtain ⟨y4, hy4, hF⟩ := bnd_some hF
    have J4 : ∀ (H : Heap) (locs : List Loc) (ls : Array Slot), va_P D classes (wld ct ad G M) H → va_D A (wld ct ad G M) → va_S A s.heap H locs → lv_has ls 3 [(2, .int x1), (0, .int p0), (1, .int p1)] → W p l e (headSpec wuX9_timeBetween ({ frames := 0, cells := 0, slots := 0, locals := 0 })).room s m ([.int p0, .int p1] : List Value).toArray below meth c H locs 0 0 (MQ below (va_Qi (fun (q : Int32) (_ : Unit) => q = y.2) (fun _ t => kE D ct ad G A y.1 t) A) ([.int p0, .int p1] : List Value).toArray s 0 0 A) (F0 m 27 ls [.int y4]) := by
      intro H locs ls hP hD hS hl
      obtain rfl := Option.some.inj hF
      exact J2 _ _ _ hP hD hS (lv_sub hl [0, 1, 2] rfl)
    clear hF
    have hF := hy4
    clear hy4
    refine lv_icmp_le (tgt := 26) hx hb dX9_timeBetween_18 (by decide) (fun c5 => ?_) (fun c5 => ?_)
    · rw [if_pos c5] at hF
      refine lv_iload_n hx hb dX9_timeBetween_26 rfl (lv_at hl 0 rfl) ?_
      obtain rfl := Option.some.inj hF
      exact J4 _ _ _ hP hD hS (lv_sub hl [0, 1, 2] rfl)
    · rw [if_neg c5] at hF
      refine lv_bipush (v := (127 : Int32)) hx hb dX9_timeBetween_21 (by decide) ?_
      refine lv_goto (tgt := 27) hx hb dX9_timeBetween_23 (by decide) ?_
      obtain rfl := Option.some.inj hF
      exact J4 _ _ _ hP hD hS (lv_sub hl [0, 1, 2] rfl)
  · rw [if_neg c3] at hF
    refine lv_bipush (v := (-128 : Int32)) hx hb dX9_timeBetween_10 (by decide) ?_
    refine lv_goto (tgt := 27) hx hb dX9_timeBetween_12 (by decide) ?_
    obtain rfl := Option.some.inj hF
    exact J2 _ _ _ hP hD hS (lv_sub hl [0, 1, 2] rfl)
theorem dX9_totalAt_0 : decode cX9_totalAt 0 = .ok (.iload_n 1, 1) := by decide +kernel
theorem dX9_totalAt_1 : decode cX9_totalAt 1 = .ok (.ifCond .ge 7, 3) := by decide +kernel
theorem dX9_totalAt_4 : decode cX9_totalAt 4 = .ok (.iconst (-1), 1) := by decide +kernel
theorem dX9_totalAt_5 : decode cX9_totalAt 5 = .ok (.goto 27, 3) := by decide +kernel
theorem dX9_totalAt_8 : decode cX9_totalAt 8 = .ok (.aload_n 0, 1) := by decide +kernel
theorem dX9_totalAt_9 : decode cX9_totalAt 9 = .ok (.getfield 30, 3) := by decide +kernel
theorem dX9_totalAt_12 : decode cX9_totalAt 12 = .ok (.bipush 24, 2) := by decide +kernel
theorem dX9_totalAt_14 : decode cX9_totalAt 14 = .ok (.iload_n 1, 1) := by decide +kernel
theorem dX9_totalAt_15 : decode cX9_totalAt 15 = .ok (.iconst 4, 1) := by decide +kernel
theorem dX9_totalAt_16 : decode cX9_totalAt 16 = .ok (.ishr, 1) := by decide +kernel
theorem dX9_totalAt_17 : decode cX9_totalAt 17 = .ok (.imul, 1) := by decide +kernel
theorem dX9_totalAt_18 : decode cX9_totalAt 18 = .ok (.iload_n 2, 1) := by decide +kernel
theorem dX9_totalAt_19 : decode cX9_totalAt 19 = .ok (.ifCond .ge 10, 3) := by decide +kernel
theorem dX9_totalAt_22 : decode cX9_totalAt 22 = .ok (.iload_n 1, 1) := by decide +kernel
theorem dX9_totalAt_23 : decode cX9_totalAt 23 = .ok (.bipush 15, 2) := by decide +kernel
theorem dX9_totalAt_25 : decode cX9_totalAt 25 = .ok (.iand, 1) := by decide +kernel
theorem dX9_totalAt_26 : decode cX9_totalAt 26 = .ok (.goto 4, 3) := by decide +kernel
theorem dX9_totalAt_29 : decode cX9_totalAt 29 = .ok (.iload_n 2, 1) := by decide +kernel
theorem dX9_totalAt_30 : decode cX9_totalAt 30 = .ok (.iadd, 1) := by decide +kernel
theorem dX9_totalAt_31 : decode cX9_totalAt 31 = .ok (.iaload, 1) := by decide +kernel
theorem dX9_totalAt_32 : decode cX9_totalAt 32 = .ok (.ireturn, 1) := by decide +kernel
def FX9_totalAt (G : GG) (M : DD) (a : Nat) (p0 : Int32) (p1 : Int32) : Option (DD × Int32) :=
  bnd (if ((0 : Int32)) ≤ p0 then (ltt ((p0 >>> (((4 : Int32)) &&& 31))) fun x3 =>
  ltt ((((24 : Int32)) * x3)) fun x4 =>
  bnd (if ((0 : Int32)) ≤ p1 then (some (p1)) else
  (ltt ((p0 &&& ((15 : Int32)))) fun x10 =>
  some (x10))) fun (y5 : Int32) =>
  ltt ((x4 + y5)) fun x6 =>
  dr G 13 ((M.2 a 8)) fun b7 =>
  chk (¬ (x6 < 0 ∨ G.2.2 b7 ≤ x6.toNatClampNeg)) <|
  ltt (M.1 b7 x6.toNatClampNeg) fun x8 =>
  some (x8)) else
  (some ((-1 : Int32)))) fun (y1 : Int32) =>
  some (M, y1)
set_option maxHeartbeats 4000000 in
set_option maxRecDepth 100000 in
theorem kX9_totalAt (l : Launch) (D : va_G) (ct : CT) (ad : Nat → Nat) (Z : Nat → Nat) (G : GG) (M : DD) (sz : Nat) (a : Nat) (p0 : Int32) (p1 : Int32) (y : DD × Int32) (hc : a < G.1) (hk : G.2.1 a = 9) (hF : FX9_totalAt G M a p0 p1 = some y) : Met l yX9_totalAt wuX9_totalAt ({ frames := 0, cells := 0, slots := 0, locals := 0 }) (va_Pc [.ref (ad a), .int p0, .int p1] (kB D ct ad Z G M sz)) (va_Qi (fun (q : Int32) (_ : Unit) => q = y.2) (fun _ t => kE D ct ad G (wA ad G sz) y.1 t) (wA ad G sz)) 0 0 (wA ad G sz) := by
  refine Met.ofW (cc := cX9_totalAt) (maxL := 3) (ret := (some .int)) (by decide) rfl ?_
  intro p e s m args below meth c s₁ B hml hv
  obtain ⟨rfl, hsz, hP, hK, hD0, hZ, hN⟩ := hv
  have hx := B.exec
  have hb := B.bytes
  have hr := B.returns
  have hts := atoms_spec (ws := wuX9_totalAt) B.pre
  have hown : s.vm.findClass RX9 = some m.cls := findClass_of_methodNamed B.named
  have hlocks := B.notSynchronized
  subst hsz
  have hD := wD_self (sz := s.heap.size) hD0
  have hA9 : ∀ q, s.heap.size ≤ q → wA ad G s.heap.size q := fun q h => Or.inr h
  generalize hAe : wA ad G s.heap.size = A at hD hA9 hZ ⊢
  have hS : va_S A s.heap s.heap [] := va_S.rf
  have hl := lv_entry ([.ref (ad a), .int p0, .int p1]) (n := 3) (Nat.le_of_ble_eq_true rfl)
  rw [lg_entry_eq]
  generalize (lg_sl ([.ref (ad a), .int p0, .int p1]) ++ List.replicate (3 - (lg_sl ([.ref (ad a), .int p0, .int p1])).length) Slot.unset).toArray = ls at hl ⊢
  have hl : lv_has ls 3 [(0, .ref (ad a)), (1, .int p0), (2, .int p1)] := hl
  unfold FX9_totalAt at hF
  refine lv_iload_n hx hb dX9_totalAt_0 rfl (lv_at hl 1 rfl) ?_
  obtain ⟨y1, hy1, hF⟩ := bnd_some hF
  have J1 : ∀ (H : Heap) (locs : List Loc) (ls : Array Slot), va_P D classes (wld ct ad G M) H → va_D A (wld ct ad G M) → va_S A s.heap H locs → lv_has ls 3 [(0, .ref (ad a)), (1, .int p0), (2, .int p1)] → W p l e (headSpec wuX9_totalAt ({ frames := 0, cells := 0, slots := 0, locals := 0 })).room s m ([.ref (ad a), .int p0, .int p1] : List Value).toArray below meth c H locs 0 0 (MQ below (va_Qi (fun (q : Int32) (_ : Unit) => q = y.2) (fun _ t => kE D ct ad G A y.1 t) A) ([.ref (ad a), .int p0, .int p1] : List Value).toArray s 0 0 A) (F0 m 32 ls [.int y1]) := by
    intro H locs ls hP hD hS hl
    obtain rfl := Option.some.inj hF
    exact W.iret (v := y1) hx hb hr (fun t ht hW => ⟨⟨_, (), rfl, rfl, ⟨by rw [ht]; exact hP, va_K.moved hW.alike hK, hD⟩⟩, hS.F ht⟩) hS.2.2 dX9_totalAt_32
  clear hF
  have hF := hy1
  clear hy1
  refine lv_if_ge (tgt := 8) hx hb dX9_totalAt_1 (by decide) (fun c2 => ?_) (fun c2 => ?_)
  · rw [if_pos c2] at hF
    refine lv_aload_n hx hb dX9_totalAt_8 rfl (lv_at hl 0 rfl) ?_
    refine va_get (D := D) (ci := 9) (v := va_re ad (M.2 a 8)) (C := RX9) (T := TX9) (N := 20) hx hb hts (mus hf_X9) hown hK hP a (wld_o ct ad G M hc hk (by decide)) rfl 8 (by decide) (hts (.fieldLink RX9 30 "VideoSuite$Work" "total" "[I") (mu mw_449)) (fun _ h9 => h9) rfl dX9_totalAt_9 ?_
    refine lv_bipush (v := (24 : Int32)) hx hb dX9_totalAt_12 (by decide) ?_
    refine lv_iload_n hx hb dX9_totalAt_14 rfl (lv_at hl 1 rfl) ?_
    refine lv_iconst (v := (4 : Int32)) hx hb dX9_totalAt_15 (by decide) ?_
    refine lv_ishr hx hb dX9_totalAt_16 ?_
    obtain ⟨x3, ex3, hF⟩ := ltt_some hF
    refine lv_topi (fun zx3 ezx3 => ?_)
    obtain rfl : x3 = zx3 := ex3.trans ezx3.symm
    refine lv_imul hx hb dX9_totalAt_17 ?_
    obtain ⟨x4, ex4, hF⟩ := ltt_some hF
    refine lv_topi (fun zx4 ezx4 => ?_)
    obtain rfl : x4 = zx4 := ex4.trans ezx4.symm
    refine lv_iload_n hx hb dX9_totalAt_18 rfl (lv_at hl 2 rfl) ?_
    obtain ⟨y5, hy5, hF⟩ := bnd_some hF
    have J5 : ∀ (H : Heap) (locs : List Loc) (ls : Array Slot), va_P D classes (wld ct ad G M) H → va_D A (wld ct ad G M) → va_S A s.heap H locs → lv_has ls 3 [(0, .ref (ad a)), (1, .int p0), (2, .int p1)] → W p l e (headSpec wuX9_totalAt ({ frames := 0, cells := 0, slots := 0, locals := 0 })).room s m ([.ref (ad a), .int p0, .int p1] : List Value).toArray below meth c H locs 0 0 (MQ below (va_Qi (fun (q : Int32) (_ : Unit) => q = y.2) (fun _ t => kE D ct ad G A y.1 t) A) ([.ref (ad a), .int p0, .int p1] : List Value).toArray s 0 0 A) (F0 m 30 ls [.int y5, .int x4, va_re ad (M.2 a 8)]) := by
      intro H locs ls hP hD hS hl
      refine lv_iadd hx hb dX9_totalAt_30 ?_
      obtain ⟨x6, ex6, hF⟩ := ltt_some hF
      refine lv_topi (fun zx6 ezx6 => ?_)
      obtain rfl : x6 = zx6 := ex6.trans ezx6.symm
      obtain ⟨b7, ho7, hc7, hk7, hF⟩ := dr_some hF
      refine W_st (st' := [.int x6, .ref (ad b7)]) (by rw [va_some ho7]) ?_
      obtain ⟨hvc, hF⟩ := chk_some hF
      refine va_iald hx hb hK hP b7 1 (wld_i ct ad G M hc7 hk7) rfl hvc dX9_totalAt_31 ?_
      obtain ⟨x8, ex8, hF⟩ := ltt_some hF
      refine lv_topi (fun zx8 ezx8 => ?_)
      obtain rfl : x8 = zx8 := ex8.trans ezx8.symm
      obtain rfl := Option.some.inj hF
      exact J1 _ _ _ hP hD hS (lv_sub hl [0, 1, 2] rfl)
    clear hF
    have hF := hy5
    clear hy5
    refine lv_if_ge (tgt := 29) hx hb dX9_totalAt_19 (by decide) (fun c9 => ?_) (fun c9 => ?_)
    · rw [if_pos c9] at hF
      refine lv_iload_n hx hb dX9_totalAt_29 rfl (lv_at hl 2 rfl) ?_
      obtain rfl := Option.some.inj hF
      exact J5 _ _ _ hP hD hS (lv_sub hl [0, 1, 2] rfl)
    · rw [if_neg c9] at hF
      refine lv_iload_n hx hb dX9_totalAt_22 rfl (lv_at hl 1 rfl) ?_
      refine lv_bipush (v := (15 : Int32)) hx hb dX9_totalAt_23 (by decide) ?_
      refine lv_iand hx hb dX9_totalAt_25 ?_
      obtain ⟨x10, ex10, hF⟩ := ltt_some hF
      refine lv_topi (fun zx10 ezx10 => ?_)
      obtain rfl : x10 = zx10 := ex10.trans ezx10.symm
      refine lv_goto (tgt := 30) hx hb dX9_totalAt_26 (by decide) ?_
      obtain rfl := Option.some.inj hF
      exact J5 _ _ _ hP hD hS (lv_sub hl [0, 1, 2] rfl)
  · rw [if_neg c2] at hF
    refine lv_iconst (v := (-1 : Int32)) hx hb dX9_totalAt_4 (by decide) ?_
    refine lv_goto (tgt := 32) hx hb dX9_totalAt_5 (by decide) ?_
    obtain rfl := Option.some.inj hF
    exact J1 _ _ _ hP hD hS (lv_sub hl [0, 1, 2] rfl)
set_option maxRecDepth 20000 in
theorem gJ7_fill_fda19_J7_rangeCheck_23922 : GoodIn wuJ7_fill_fda19 (va_wsS RJ7 13 yJ7_rangeCheck_23922 wuJ7_rangeCheck_23922) := gu_S mw_1558 mw_1559 mw_182 mw_1560
theorem dJ7_fill_fda19_0 : decode cJ7_fill_fda19 0 = .ok (.aload_n 0, 1) := by decide +kernel
theorem dJ7_fill_fda19_1 : decode cJ7_fill_fda19 1 = .ok (.arraylength, 1) := by decide +kernel
theorem dJ7_fill_fda19_2 : decode cJ7_fill_fda19 2 = .ok (.iload_n 1, 1) := by decide +kernel
theorem dJ7_fill_fda19_3 : decode cJ7_fill_fda19 3 = .ok (.iload_n 2, 1) := by decide +kernel
theorem dJ7_fill_fda19_4 : decode cJ7_fill_fda19 4 = .ok (.invokestatic 13, 3) := by decide +kernel
theorem dJ7_fill_fda19_7 : decode cJ7_fill_fda19 7 = .ok (.iload_n 1, 1) := by decide +kernel
theorem dJ7_fill_fda19_8 : decode cJ7_fill_fda19 8 = .ok (.istore 4, 2) := by decide +kernel
theorem dJ7_fill_fda19_10 : decode cJ7_fill_fda19 10 = .ok (.iload 4, 2) := by decide +kernel
theorem dJ7_fill_fda19_12 : decode cJ7_fill_fda19 12 = .ok (.iload_n 2, 1) := by decide +kernel
theorem dJ7_fill_fda19_13 : decode cJ7_fill_fda19 13 = .ok (.if_icmp .ge 14, 3) := by decide +kernel
theorem dJ7_fill_fda19_16 : decode cJ7_fill_fda19 16 = .ok (.aload_n 0, 1) := by decide +kernel
theorem dJ7_fill_fda19_17 : decode cJ7_fill_fda19 17 = .ok (.iload 4, 2) := by decide +kernel
theorem dJ7_fill_fda19_19 : decode cJ7_fill_fda19 19 = .ok (.iload_n 3, 1) := by decide +kernel
theorem dJ7_fill_fda19_20 : decode cJ7_fill_fda19 20 = .ok (.iastore, 1) := by decide +kernel
theorem dJ7_fill_fda19_21 : decode cJ7_fill_fda19 21 = .ok (.iinc 4 1, 3) := by decide +kernel
theorem dJ7_fill_fda19_24 : decode cJ7_fill_fda19 24 = .ok (.goto (-14), 3) := by decide +kernel
theorem dJ7_fill_fda19_27 : decode cJ7_fill_fda19 27 = .ok (.return_, 1) := by decide +kernel
def FJ7_fill_fda19 (G : GG) (M : DD) (p0 : Option Nat) (p1 : Int32) (p2 : Int32) (p3 : Int32) : Option (DD) :=
  dr G 13 p0 fun b2 =>
  ltt (Int32.ofNat (G.2.2 b2)) fun x3 =>
  bnd (FJ7_rangeCheck_23922 G M x3 p1 p2) fun y4 =>
  bnd (itr (fun (s6 : Int32 × DD) => ((if p2 ≤ s6.1 then (some (.inr (s6.1, s6.2))) else
  (chk (¬ (s6.1 < 0 ∨ G.2.2 b2 ≤ s6.1.toNatClampNeg)) <|
  ltt (uI s6.2 b2 s6.1.toNatClampNeg p3) fun M10 =>
  ltt (s6.1 + (1 : Int32)) fun x11 =>
  some (.inl (x11, M10)))) : Option ((Int32 × DD) ⊕ (Int32 × DD)))) 1000000 (p1, y4)) fun (y5 : Int32 × DD) =>
  some y5.2
set_option maxHeartbeats 4000000 in
set_option maxRecDepth 100000 in
theorem kJ7_fill_fda19 (l : Launch) (D : va_G) (ct : CT) (ad : Nat → Nat) (Z : Nat → Nat) (G : GG) (M : DD) (sz : Nat) (p0 : Option Nat) (p1 : Int32) (p2 : Int32) (p3 : Int32) (y : DD) (hF : FJ7_fill_fda19 G M p0 p1 p2 p3 = some y) : Met l yJ7_fill_fda19 wuJ7_fill_fda19 ({ frames := 1, cells := 0, slots := 0, locals := 22 }) (va_Pc [va_re ad p0, .int p1, .int p2, .int p3] (kB D ct ad Z G M sz)) (va_Qv (fun (_ : Unit) => True) (fun _ t => kE D ct ad G (wA ad G sz) y t) (wA ad G sz)) 0 0 (wA ad G sz) := by
  refine Met.ofW (cc := cJ7_fill_fda19) (maxL := 5) (ret := none) (by decide) rfl ?_
  intro p e s m args below meth c s₁ B hml hv
  obtain ⟨rfl, hsz, hP, hK, hD0, hZ, hN⟩ := hv
  have hx := B.exec
  have hb := B.bytes
  have hr := B.returns
  have hts := atoms_spec (ws := wuJ7_fill_fda19) B.pre
  have hown : s.vm.findClass RJ7 = some m.cls := findClass_of_methodNamed B.named
  have hlocks := B.notSynchronized
  subst hsz
  have hD := wD_self (sz := s.heap.size) hD0
  have hA9 : ∀ q, s.heap.size ≤ q → wA ad G s.heap.size q := fun q h => Or.inr h
  generalize hAe : wA ad G s.heap.size = A at hD hA9 hZ ⊢
  have hS : va_S A s.heap s.heap [] := va_S.rf
  have hl := lv_entry ([va_re ad p0, .int p1, .int p2, .int p3]) (n := 5) (by cases p0 <;> exact Nat.le_of_ble_eq_true rfl)
  rw [lg_entry_eq]
  generalize (lg_sl ([va_re ad p0, .int p1, .int p2, .int p3]) ++ List.replicate (5 - (lg_sl ([va_re ad p0, .int p1, .int p2, .int p3])).length) Slot.unset).toArray = ls at hl ⊢
  have hl : lv_has ls 5 [(0, va_re ad p0), (1, .int p1), (2, .int p2), (3, .int p3)] := by have e9 : lv_args 0 [va_re ad p0, .int p1, .int p2, .int p3] = [(0, va_re ad p0), (1, .int p1), (2, .int p2), (3, .int p3)] := (by cases p0 <;> rfl); rw [e9] at hl; exact hl
  unfold FJ7_fill_fda19 at hF
  refine lv_aloadq_n hx hb dJ7_fill_fda19_0 rfl (lv_at hl 0 rfl) ?_
  obtain ⟨b2, ho2, hc2, hk2, hF⟩ := dr_some hF
  refine W_st (st' := [.ref (ad b2)]) (by rw [va_some ho2]) ?_
  refine va_alen (v := Int32.ofNat (G.2.2 b2)) hx hb hK hP b2 1 (wld_i ct ad G M hc2 hk2) rfl rfl dJ7_fill_fda19_1 ?_
  obtain ⟨x3, ex3, hF⟩ := ltt_some hF
  refine lv_topi (fun zx3 ezx3 => ?_)
  obtain rfl : x3 = zx3 := ex3.trans ezx3.symm
  refine lv_iload_n hx hb dJ7_fill_fda19_2 rfl (lv_at hl 1 rfl) ?_
  refine lv_iload_n hx hb dJ7_fill_fda19_3 rfl (lv_at hl 2 rfl) ?_
  obtain ⟨y4, hy4, hF⟩ := bnd_some hF
  have hf9 := wA_in hD hA9 hS
  refine va_callv (va_runS (As := [.int x3, .int p1, .int p2]) (rest := []) ⟨hx, hb, hml, hown, hts⟩ (kJ7_rangeCheck_23922 l D ct ad Z G M s.heap.size x3 p1 p2 y4 hy4) (va_cwS 3 hts gJ7_fill_fda19_J7_rangeCheck_23922 rfl rfl rfl (by decide +kernel) ⟨Nat.le_of_ble_eq_true rfl, Nat.le_of_ble_eq_true rfl⟩) ⟨fun a U g mk q => by obtain ⟨q0, q1, qP, qK, qD, qZ, qN⟩ := q; exact ⟨q0, q1, qP, va_K.moved (u := U) (U := U.calling g mk a) (Vm.Alike.refl U.vm) qK, qD, sF.moved (u := U) (U := U.calling g mk a) (Vm.Alike.refl U.vm) qZ, nF.same rfl qN⟩, fun U hU hW => ⟨rfl, by rw [hU], by rw [hU]; exact hP, va_K.moved hW.alike hK, hD.weaken (fun _ _ _ _ => trivial), by rw [hU]; exact ((hZ.kept hS.2.1).narrow hf9).moved hW.alike, hN.warm hW⟩⟩ rfl rfl hl.1 rfl (lv_room (Nat.le_of_ble_eq_true rfl)) dJ7_fill_fda19_4 ⟨(Nat.zero_le _), (Nat.zero_le _)⟩) hS (fun q _ h => hf9 q h) hf9 (fun u t H locs ht hvm hw hB hz1 hk1 hS => ?_)
  obtain ⟨hP, hK9, hD9⟩ := hB
  rw [ht] at hP
  have hD := hD9.weaken (fun _ q _ h => hf9 q.1 h)
  refine lv_iload_n hx hb dJ7_fill_fda19_7 rfl (lv_at hl 1 rfl) ?_
  refine lv_istore (lv' := [(4, .int p1), (0, va_re ad p0), (1, .int p1), (2, .int p2), (3, .int p3)]) hx hb dJ7_fill_fda19_8 hl (by decide) rfl (fun ls hl => ?_)
  obtain ⟨y5, hy5, hF⟩ := bnd_some hF
  have K5 : ∀ (H : Heap) (locs : List Loc) (ls : Array Slot), va_P D classes (wld ct ad G y5.2) H → va_D A (wld ct ad G y5.2) → va_S A s.heap H locs → lv_has ls 5 [(4, .int y5.1), (0, va_re ad p0), (1, .int p1), (2, .int p2), (3, .int p3)] → W p l e (headSpec wuJ7_fill_fda19 ({ frames := 1, cells := 0, slots := 0, locals := 22 })).room s m ([va_re ad p0, .int p1, .int p2, .int p3] : List Value).toArray below meth c H locs 0 0 (MQ below (va_Qv (fun (_ : Unit) => True) (fun _ t => kE D ct ad G A y t) A) ([va_re ad p0, .int p1, .int p2, .int p3] : List Value).toArray s 0 0 A) (F0 m 27 ls []) := by
    intro H locs ls hP hD hS hl
    obtain rfl := Option.some.inj hF
    exact W.vret hx hb hr (fun t ht hW => ⟨⟨(), rfl, trivial, ⟨by rw [ht]; exact hP, va_K.moved hW.alike hK, hD⟩⟩, hS.F ht⟩) hS.2.2 dJ7_fill_fda19_27
  clear hF
  refine itr_rule (fun (s6 : Int32 × DD) => ∀ (H : Heap) (locs : List Loc) (ls : Array Slot), va_P D classes (wld ct ad G s6.2) H → va_D A (wld ct ad G s6.2) → va_S A s.heap H locs → lv_has ls 5 [(4, .int s6.1), (0, va_re ad p0), (1, .int p1), (2, .int p2), (3, .int p3)] → W p l e (headSpec wuJ7_fill_fda19 ({ frames := 1, cells := 0, slots := 0, locals := 22 })).room s m ([va_re ad p0, .int p1, .int p2, .int p3] : List Value).toArray below meth c H locs 0 0 (MQ below (va_Qv (fun (_ : Unit) => True) (fun _ t => kE D ct ad G A y t) A) ([va_re ad p0, .int p1, .int p2, .int p3] : List Value).toArray s 0 0 A) (F0 m 10 ls [])) ?_ _ _ hy5 _ _ _ hP hD hS (lv_sub hl [0, 1, 2, 3, 4] rfl)
  rintro s6 ⟨z8, hF, hwz8⟩ H locs ls hP hD hS hl
  try dsimp only at hF
  refine lv_iload hx hb dJ7_fill_fda19_10 (lv_at hl 0 rfl) ?_
  refine lv_iload_n hx hb dJ7_fill_fda19_12 rfl (lv_at hl 3 rfl) ?_
  refine lv_icmp_ge (tgt := 27) hx hb dJ7_fill_fda19_13 (by decide) (fun c9 => ?_) (fun c9 => ?_)
  · rw [if_pos c9] at hF
    obtain rfl := Option.some.inj hF
    subst hwz8
    exact K5 _ _ _ hP hD hS (lv_sub hl [0, 1, 2, 3, 4] rfl)
  · rw [if_neg c9] at hF
    refine lv_aloadq_n hx hb dJ7_fill_fda19_16 rfl (lv_at hl 1 rfl) ?_
    refine lv_iload hx hb dJ7_fill_fda19_17 (lv_at hl 0 rfl) ?_
    refine lv_iload_n hx hb dJ7_fill_fda19_19 rfl (lv_at hl 4 rfl) ?_
    refine W_st (st' := [.int p3, .int s6.1, .ref (ad b2)]) (by rw [va_some ho2]) ?_
    obtain ⟨hvc, hF⟩ := chk_some hF
    refine va_iast hx hb hK hP hD hS b2 1 (wld_i ct ad G s6.2 hc2 hk2) rfl hvc dJ7_fill_fda19_20 (fun H locs hP hD hS => ?_)
    obtain ⟨M10, eM10, hF⟩ := ltt_some hF
    rw [set_i ct ad G s6.2 hc2 hk2, ← eM10] at hP hD
    obtain ⟨x11, ex11, hF⟩ := ltt_some hF
    refine lv_iinc (v := x11) (lv' := [(4, .int x11), (0, va_re ad p0), (1, .int p1), (2, .int p2), (3, .int p3)]) hx hb dJ7_fill_fda19_21 hl (k := 0) rfl (by rw [ex11]; rfl) (by decide) rfl (fun ls hl => ?_)
    refine lv_goto (tgt := 10) hx hb dJ7_fill_fda19_24 (by decide) ?_
    obtain rfl := Option.some.inj hF
    exact hwz8 _ _ _ hP hD hS (lv_sub hl [0, 1, 2, 3, 4] rfl)
set_option maxRecDepth 20000 in
theorem gL_coded_X11_coded : GoodIn wuL_coded (wsV RL 43 RX11 yX11_coded wuX11_coded) := gu_V mw_2770 mw_2771 mw_2772 mw_166 mw_2773
theorem dL_coded_0 : decode cL_coded 0 = .ok (.aload_n 3, 1) := by decide +kernel
theorem dL_coded_1 : decode cL_coded 1 = .ok (.iconst 0, 1) := by decide +kernel
theorem dL_coded_2 : decode cL_coded 2 = .ok (.aload_n 0, 1) := by decide +kernel
theorem dL_coded_3 : decode cL_coded 3 = .ok (.iload_n 1, 1) := by decide +kernel
theorem dL_coded_4 : decode cL_coded 4 = .ok (.iload_n 2, 1) := by decide +kernel
theorem dL_coded_5 : decode cL_coded 5 = .ok (.invokevirtual 43, 3) := by decide +kernel
theorem dL_coded_8 : decode cL_coded 8 = .ok (.iastore, 1) := by decide +kernel
theorem dL_coded_9 : decode cL_coded 9 = .ok (.goto 11, 3) := by decide +kernel
theorem dL_coded_12 : decode cL_coded 12 = .ok (.astore 4, 2) := by decide +kernel
theorem dL_coded_14 : decode cL_coded 14 = .ok (.iconst 1, 1) := by decide +kernel
theorem dL_coded_15 : decode cL_coded 15 = .ok (.ireturn, 1) := by decide +kernel
theorem dL_coded_16 : decode cL_coded 16 = .ok (.astore 4, 2) := by decide +kernel
theorem dL_coded_18 : decode cL_coded 18 = .ok (.iconst 2, 1) := by decide +kernel
theorem dL_coded_19 : decode cL_coded 19 = .ok (.ireturn, 1) := by decide +kernel
theorem dL_coded_20 : decode cL_coded 20 = .ok (.iconst 0, 1) := by decide +kernel
theorem dL_coded_21 : decode cL_coded 21 = .ok (.ireturn, 1) := by decide +kernel
def FL_coded (G : GG) (M : DD) (p0 : Option Nat) (p1 : Int32) (p2 : Int32) (p3 : Option Nat) : Option (DD × Int32) :=
  dr G 11 p0 fun b2 =>
  bnd (FX11_coded G M b2 p1 p2) fun y3 =>
  dr G 13 p3 fun b4 =>
  chk (¬ (((0 : Int32)) < 0 ∨ G.2.2 b4 ≤ ((0 : Int32)).toNatClampNeg)) <|
  ltt (uI y3.1 b4 ((0 : Int32)).toNatClampNeg y3.2) fun M5 =>
  some (M5, (0 : Int32))
set_option maxHeartbeats 4000000 in
set_option maxRecDepth 100000 in
theorem kL_coded (l : Launch) (D : va_G) (ct : CT) (ad : Nat → Nat) (Z : Nat → Nat) (G : GG) (M : DD) (sz : Nat) (p0 : Option Nat) (p1 : Int32) (p2 : Int32) (p3 : Option Nat) (y : DD × Int32) (hF : FL_coded G M p0 p1 p2 p3 = some y) : Met l yL_coded wuL_coded ({ frames := 1, cells := 0, slots := 0, locals := 22 }) (va_Pc [va_re ad p0, .int p1, .int p2, va_re ad p3] (kB D ct ad Z G M sz)) (va_Qi (fun (q : Int32) (_ : Unit) => q = y.2) (fun _ t => kE D ct ad G (wA ad G sz) y.1 t) (wA ad G sz)) 0 0 (wA ad G sz) := by
  refine mt_ofWH (cc := cL_coded) (maxL := 5) (ret := (some .int)) (hh := [(0, 9, 12, 13), (0, 9, 16, 21)]) (by decide) rfl ?_
  intro p e s m args below meth c s₁ B hml hv
  obtain ⟨rfl, hsz, hP, hK, hD0, hZ, hN⟩ := hv
  have hx := B.exec
  have hb := B.bytes
  have hr := B.returns
  have hts := atoms_spec (ws := wuL_coded) B.pre
  have hown : s.vm.findClass RL = some m.cls := findClass_of_methodNamed B.named
  have hlocks := B.notSynchronized
  subst hsz
  have hD := wD_self (sz := s.heap.size) hD0
  have hA9 : ∀ q, s.heap.size ≤ q → wA ad G s.heap.size q := fun q h => Or.inr h
  generalize hAe : wA ad G s.heap.size = A at hD hA9 hZ ⊢
  have hS : va_S A s.heap s.heap [] := va_S.rf
  have hl := lv_entry ([va_re ad p0, .int p1, .int p2, va_re ad p3]) (n := 5) (by cases p0 <;> cases p3 <;> exact Nat.le_of_ble_eq_true rfl)
  rw [lg_entry_eq]
  generalize (lg_sl ([va_re ad p0, .int p1, .int p2, va_re ad p3]) ++ List.replicate (5 - (lg_sl ([va_re ad p0, .int p1, .int p2, va_re ad p3])).length) Slot.unset).toArray = ls at hl ⊢
  have hl : lv_has ls 5 [(0, va_re ad p0), (1, .int p1), (2, .int p2), (3, va_re ad p3)] := by have e9 : lv_args 0 [va_re ad p0, .int p1, .int p2, va_re ad p3] = [(0, va_re ad p0), (1, .int p1), (2, .int p2), (3, va_re ad p3)] := (by cases p0 <;> cases p3 <;> rfl); rw [e9] at hl; exact hl
  unfold FL_coded at hF
  refine lv_aloadq_n hx hb dL_coded_0 rfl (lv_at hl 3 rfl) ?_
  refine lv_iconst (v := (0 : Int32)) hx hb dL_coded_1 (by decide) ?_
  refine lv_aloadq_n hx hb dL_coded_2 rfl (lv_at hl 0 rfl) ?_
  refine lv_iload_n hx hb dL_coded_3 rfl (lv_at hl 1 rfl) ?_
  refine lv_iload_n hx hb dL_coded_4 rfl (lv_at hl 2 rfl) ?_
  obtain ⟨b2, ho2, hc2, hk2, hF⟩ := dr_some hF
  refine W_st (st' := [.int p2, .int p1, .ref (ad b2), .int (0 : Int32), va_re ad p3]) (by rw [va_some ho2]) ?_
  obtain ⟨y3, hy3, hF⟩ := bnd_some hF
  have hf9 := wA_in hD hA9 hS
  refine va_calli (va_runV (As := [.int p1, .int p2]) (rest := [.int (0 : Int32), va_re ad p3]) ⟨hx, hb, hml, hown, hts⟩ (kX11_coded l D ct ad Z G M s.heap.size b2 p1 p2 y3 hc2 hk2 hy3) (cwV 2 hts gL_coded_X11_coded rfl rfl rfl (by decide +kernel) ⟨Nat.le_of_ble_eq_true rfl, Nat.le_of_ble_eq_true rfl⟩) ⟨fun a U g mk q => by obtain ⟨q0, q1, qP, qK, qD, qZ, qN⟩ := q; exact ⟨q0, q1, qP, va_K.moved (u := U) (U := U.calling g mk a) (Vm.Alike.refl U.vm) qK, qD, sF.moved (u := U) (U := U.calling g mk a) (Vm.Alike.refl U.vm) qZ, nF.same rfl qN⟩, va_recv hK hP (ci := 11) (q0 := b2) rfl (wld_o ct ad G M hc2 hk2 (by decide)), fun U hU hW => ⟨rfl, by rw [hU], by rw [hU]; exact hP, va_K.moved hW.alike hK, hD.weaken (fun _ _ _ _ => trivial), by rw [hU]; exact ((hZ.kept hS.2.1).narrow hf9).moved hW.alike, hN.warm hW⟩⟩ rfl rfl hl.1 rfl (lv_room (by simp only [List.map, va_re_cat]; exact Nat.le_of_ble_eq_true rfl)) dL_coded_5 ⟨(Nat.zero_le _), (Nat.zero_le _)⟩) hS (fun q _ h => hf9 q h) hf9 (fun r u t H locs ht hvm hw hB hz1 hk1 hS => ?_)
  obtain ⟨hP, hK9, hD9⟩ := hB
  rw [ht] at hP
  try dsimp only at hw
  subst hw
  have hD := hD9.weaken (fun _ q _ h => hf9 q.1 h)
  obtain ⟨b4, ho4, hc4, hk4, hF⟩ := dr_some hF
  refine W_st (st' := [.int y3.2, .int (0 : Int32), .ref (ad b4)]) (by rw [va_some ho4]) ?_
  obtain ⟨hvc, hF⟩ := chk_some hF
  refine va_iast hx hb hK hP hD hS b4 1 (wld_i ct ad G y3.1 hc4 hk4) rfl hvc dL_coded_8 (fun H locs hP hD hS => ?_)
  obtain ⟨M5, eM5, hF⟩ := ltt_some hF
  rw [set_i ct ad G y3.1 hc4 hk4, ← eM5] at hP hD
  refine lv_goto (tgt := 20) hx hb dL_coded_9 (by decide) ?_
  refine lv_iconst (v := (0 : Int32)) hx hb dL_coded_20 (by decide) ?_
  obtain rfl := Option.some.inj hF
  exact W.iret (v := (0 : Int32)) hx hb hr (fun t ht hW => ⟨⟨_, (), rfl, rfl, ⟨by rw [ht]; exact hP, va_K.moved hW.alike hK, hD⟩⟩, hS.F ht⟩) hS.2.2 dL_coded_21
set_option maxRecDepth 20000 in
theorem gL_setting_X11_setting : GoodIn wuL_setting (wsV RL 26 RX11 yX11_setting wuX11_setting) := gu_V mw_2345 mw_2346 mw_2347 mw_166 mw_2348
theorem dL_setting_0 : decode cL_setting 0 = .ok (.aload_n 3, 1) := by decide +kernel
theorem dL_setting_1 : decode cL_setting 1 = .ok (.iconst 0, 1) := by decide +kernel
theorem dL_setting_2 : decode cL_setting 2 = .ok (.aload_n 0, 1) := by decide +kernel
theorem dL_setting_3 : decode cL_setting 3 = .ok (.iload_n 1, 1) := by decide +kernel
theorem dL_setting_4 : decode cL_setting 4 = .ok (.iload_n 2, 1) := by decide +kernel
theorem dL_setting_5 : decode cL_setting 5 = .ok (.invokevirtual 26, 3) := by decide +kernel
theorem dL_setting_8 : decode cL_setting 8 = .ok (.iastore, 1) := by decide +kernel
theorem dL_setting_9 : decode cL_setting 9 = .ok (.goto 7, 3) := by decide +kernel
theorem dL_setting_12 : decode cL_setting 12 = .ok (.astore 4, 2) := by decide +kernel
theorem dL_setting_14 : decode cL_setting 14 = .ok (.iconst 1, 1) := by decide +kernel
theorem dL_setting_15 : decode cL_setting 15 = .ok (.ireturn, 1) := by decide +kernel
theorem dL_setting_16 : decode cL_setting 16 = .ok (.iconst 0, 1) := by decide +kernel
theorem dL_setting_17 : decode cL_setting 17 = .ok (.ireturn, 1) := by decide +kernel
def FL_setting (G : GG) (M : DD) (p0 : Option Nat) (p1 : Int32) (p2 : Int32) (p3 : Option Nat) : Option (DD × Int32) :=
  dr G 11 p0 fun b2 =>
  bnd (FX11_setting G M b2 p1 p2) fun y3 =>
  dr G 13 p3 fun b4 =>
  chk (¬ (((0 : Int32)) < 0 ∨ G.2.2 b4 ≤ ((0 : Int32)).toNatClampNeg)) <|
  ltt (uI y3.1 b4 ((0 : Int32)).toNatClampNeg y3.2) fun M5 =>
  some (M5, (0 : Int32))
set_option maxHeartbeats 4000000 in
set_option maxRecDepth 100000 in
theorem kL_setting (l : Launch) (D : va_G) (ct : CT) (ad : Nat → Nat) (Z : Nat → Nat) (G : GG) (M : DD) (sz : Nat) (p0 : Option Nat) (p1 : Int32) (p2 : Int32) (p3 : Option Nat) (y : DD × Int32) (hF : FL_setting G M p0 p1 p2 p3 = some y) : Met l yL_setting wuL_setting ({ frames := 2, cells := 0, slots := 0, locals := 45 }) (va_Pc [va_re ad p0, .int p1, .int p2, va_re ad p3] (kB D ct ad Z G M sz)) (va_Qi (fun (q : Int32) (_ : Unit) => q = y.2) (fun _ t => kE D ct ad G (wA ad G sz) y.1 t) (wA ad G sz)) 0 0 (wA ad G sz) := by
  refine mt_ofWH (cc := cL_setting) (maxL := 5) (ret := (some .int)) (hh := [(0, 9, 12, 13)]) (by decide) rfl ?_
  intro p e s m args below meth c s₁ B hml hv
  obtain ⟨rfl, hsz, hP, hK, hD0, hZ, hN⟩ := hv
  have hx := B.exec
  have hb := B.bytes
  have hr := B.returns
  have hts := atoms_spec (ws := wuL_setting) B.pre
  have hown : s.vm.findClass RL = some m.cls := findClass_of_methodNamed B.named
  have hlocks := B.notSynchronized
  subst hsz
  have hD := wD_self (sz := s.heap.size) hD0
  have hA9 : ∀ q, s.heap.size ≤ q → wA ad G s.heap.size q := fun q h => Or.inr h
  generalize hAe : wA ad G s.heap.size = A at hD hA9 hZ ⊢
  have hS : va_S A s.heap s.heap [] := va_S.rf
  have hl := lv_entry ([va_re ad p0, .int p1, .int p2, va_re ad p3]) (n := 5) (by cases p0 <;> cases p3 <;> exact Nat.le_of_ble_eq_true rfl)
  rw [lg_entry_eq]
  generalize (lg_sl ([va_re ad p0, .int p1, .int p2, va_re ad p3]) ++ List.replicate (5 - (lg_sl ([va_re ad p0, .int p1, .int p2, va_re ad p3])).length) Slot.unset).toArray = ls at hl ⊢
  have hl : lv_has ls 5 [(0, va_re ad p0), (1, .int p1), (2, .int p2), (3, va_re ad p3)] := by have e9 : lv_args 0 [va_re ad p0, .int p1, .int p2, va_re ad p3] = [(0, va_re ad p0), (1, .int p1), (2, .int p2), (3, va_re ad p3)] := (by cases p0 <;> cases p3 <;> rfl); rw [e9] at hl; exact hl
  unfold FL_setting at hF
  refine lv_aloadq_n hx hb dL_setting_0 rfl (lv_at hl 3 rfl) ?_
  refine lv_iconst (v := (0 : Int32)) hx hb dL_setting_1 (by decide) ?_
  refine lv_aloadq_n hx hb dL_setting_2 rfl (lv_at hl 0 rfl) ?_
  refine lv_iload_n hx hb dL_setting_3 rfl (lv_at hl 1 rfl) ?_
  refine lv_iload_n hx hb dL_setting_4 rfl (lv_at hl 2 rfl) ?_
  obtain ⟨b2, ho2, hc2, hk2, hF⟩ := dr_some hF
  refine W_st (st' := [.int p2, .int p1, .ref (ad b2), .int (0 : Int32), va_re ad p3]) (by rw [va_some ho2]) ?_
  obtain ⟨y3, hy3, hF⟩ := bnd_some hF
  have hf9 := wA_in hD hA9 hS
  refine va_calli (va_runV (As := [.int p1, .int p2]) (rest := [.int (0 : Int32), va_re ad p3]) ⟨hx, hb, hml, hown, hts⟩ (kX11_setting l D ct ad Z G M s.heap.size b2 p1 p2 y3 hc2 hk2 hy3) (cwV 2 hts gL_setting_X11_setting rfl rfl rfl (by decide +kernel) ⟨Nat.le_of_ble_eq_true rfl, Nat.le_of_ble_eq_true rfl⟩) ⟨fun a U g mk q => by obtain ⟨q0, q1, qP, qK, qD, qZ, qN⟩ := q; exact ⟨q0, q1, qP, va_K.moved (u := U) (U := U.calling g mk a) (Vm.Alike.refl U.vm) qK, qD, sF.moved (u := U) (U := U.calling g mk a) (Vm.Alike.refl U.vm) qZ, nF.same rfl qN⟩, va_recv hK hP (ci := 11) (q0 := b2) rfl (wld_o ct ad G M hc2 hk2 (by decide)), fun U hU hW => ⟨rfl, by rw [hU], by rw [hU]; exact hP, va_K.moved hW.alike hK, hD.weaken (fun _ _ _ _ => trivial), by rw [hU]; exact ((hZ.kept hS.2.1).narrow hf9).moved hW.alike, hN.warm hW⟩⟩ rfl rfl hl.1 rfl (lv_room (by simp only [List.map, va_re_cat]; exact Nat.le_of_ble_eq_true rfl)) dL_setting_5 ⟨(Nat.zero_le _), (Nat.zero_le _)⟩) hS (fun q _ h => hf9 q h) hf9 (fun r u t H locs ht hvm hw hB hz1 hk1 hS => ?_)
  obtain ⟨hP, hK9, hD9⟩ := hB
  rw [ht] at hP
  try dsimp only at hw
  subst hw
  have hD := hD9.weaken (fun _ q _ h => hf9 q.1 h)
  obtain ⟨b4, ho4, hc4, hk4, hF⟩ := dr_some hF
  refine W_st (st' := [.int y3.2, .int (0 : Int32), .ref (ad b4)]) (by rw [va_some ho4]) ?_
  obtain ⟨hvc, hF⟩ := chk_some hF
  refine va_iast hx hb hK hP hD hS b4 1 (wld_i ct ad G y3.1 hc4 hk4) rfl hvc dL_setting_8 (fun H locs hP hD hS => ?_)
  obtain ⟨M5, eM5, hF⟩ := ltt_some hF
  rw [set_i ct ad G y3.1 hc4 hk4, ← eM5] at hP hD
  refine lv_goto (tgt := 16) hx hb dL_setting_9 (by decide) ?_
  refine lv_iconst (v := (0 : Int32)) hx hb dL_setting_16 (by decide) ?_
  obtain rfl := Option.some.inj hF
  exact W.iret (v := (0 : Int32)) hx hb hr (fun t ht hW => ⟨⟨_, (), rfl, rfl, ⟨by rw [ht]; exact hP, va_K.moved hW.alike hK, hD⟩⟩, hS.F ht⟩) hS.2.2 dL_setting_17
set_option maxRecDepth 20000 in
theorem gX0_drawStep_X0_draw : GoodIn wuX0_drawStep (wsV RX0 334 RX0 yX0_draw wuX0_draw) := gu_V mw_2470 mw_2472 mw_121 mw_175 mw_2473
set_option maxRecDepth 20000 in
set_option maxRecDepth 20000 in
theorem gX0_drawStep_X11_clamp_n286 : GoodIn wuX0_drawStep wuX11_clamp := gu_P mw_939
theorem dX0_drawStep_0 : decode cX0_drawStep 0 = .ok (.aload_n 0, 1) := by decide +kernel
theorem dX0_drawStep_1 : decode cX0_drawStep 1 = .ok (.getfield 36, 3) := by decide +kernel
theorem dX0_drawStep_4 : decode cX0_drawStep 4 = .ok (.getfield 81, 3) := by decide +kernel
theorem dX0_drawStep_7 : decode cX0_drawStep 7 = .ok (.getfield 252, 3) := by decide +kernel
theorem dX0_drawStep_10 : decode cX0_drawStep 10 = .ok (.bipush 12, 2) := by decide +kernel
theorem dX0_drawStep_12 : decode cX0_drawStep 12 = .ok (.iaload, 1) := by decide +kernel
theorem dX0_drawStep_13 : decode cX0_drawStep 13 = .ok (.istore_n 2, 1) := by decide +kernel
theorem dX0_drawStep_14 : decode cX0_drawStep 14 = .ok (.bipush 8, 2) := by decide +kernel
theorem dX0_drawStep_16 : decode cX0_drawStep 16 = .ok (.iload_n 1, 1) := by decide +kernel
theorem dX0_drawStep_17 : decode cX0_drawStep 17 = .ok (.imul, 1) := by decide +kernel
theorem dX0_drawStep_18 : decode cX0_drawStep 18 = .ok (.istore_n 3, 1) := by decide +kernel
theorem dX0_drawStep_19 : decode cX0_drawStep 19 = .ok (.aload_n 0, 1) := by decide +kernel
theorem dX0_drawStep_20 : decode cX0_drawStep 20 = .ok (.getfield 36, 3) := by decide +kernel
theorem dX0_drawStep_23 : decode cX0_drawStep 23 = .ok (.getfield 216, 3) := by decide +kernel
theorem dX0_drawStep_26 : decode cX0_drawStep 26 = .ok (.iload_n 3, 1) := by decide +kernel
theorem dX0_drawStep_27 : decode cX0_drawStep 27 = .ok (.iconst 0, 1) := by decide +kernel
theorem dX0_drawStep_28 : decode cX0_drawStep 28 = .ok (.iadd, 1) := by decide +kernel
theorem dX0_drawStep_29 : decode cX0_drawStep 29 = .ok (.iaload, 1) := by decide +kernel
theorem dX0_drawStep_30 : decode cX0_drawStep 30 = .ok (.iconst 3, 1) := by decide +kernel
theorem dX0_drawStep_31 : decode cX0_drawStep 31 = .ok (.if_icmp .ne 21, 3) := by decide +kernel
theorem dX0_drawStep_34 : decode cX0_drawStep 34 = .ok (.aload_n 0, 1) := by decide +kernel
theorem dX0_drawStep_35 : decode cX0_drawStep 35 = .ok (.getfield 36, 3) := by decide +kernel
theorem dX0_drawStep_38 : decode cX0_drawStep 38 = .ok (.getfield 216, 3) := by decide +kernel
theorem dX0_drawStep_41 : decode cX0_drawStep 41 = .ok (.iload_n 3, 1) := by decide +kernel
theorem dX0_drawStep_42 : decode cX0_drawStep 42 = .ok (.iconst 1, 1) := by decide +kernel
theorem dX0_drawStep_43 : decode cX0_drawStep 43 = .ok (.iadd, 1) := by decide +kernel
theorem dX0_drawStep_44 : decode cX0_drawStep 44 = .ok (.iaload, 1) := by decide +kernel
theorem dX0_drawStep_45 : decode cX0_drawStep 45 = .ok (.ifCond .ge 7, 3) := by decide +kernel
theorem dX0_drawStep_48 : decode cX0_drawStep 48 = .ok (.iconst 1, 1) := by decide +kernel
theorem dX0_drawStep_49 : decode cX0_drawStep 49 = .ok (.goto 4, 3) := by decide +kernel
theorem dX0_drawStep_52 : decode cX0_drawStep 52 = .ok (.iconst 0, 1) := by decide +kernel
theorem dX0_drawStep_53 : decode cX0_drawStep 53 = .ok (.istore 4, 2) := by decide +kernel
theorem dX0_drawStep_55 : decode cX0_drawStep 55 = .ok (.aload_n 0, 1) := by decide +kernel
theorem dX0_drawStep_56 : decode cX0_drawStep 56 = .ok (.getfield 23, 3) := by decide +kernel
theorem dX0_drawStep_59 : decode cX0_drawStep 59 = .ok (.bipush 8, 2) := by decide +kernel
theorem dX0_drawStep_61 : decode cX0_drawStep 61 = .ok (.iaload, 1) := by decide +kernel
theorem dX0_drawStep_62 : decode cX0_drawStep 62 = .ok (.ifCond .eq 31, 3) := by decide +kernel
theorem dX0_drawStep_65 : decode cX0_drawStep 65 = .ok (.aload_n 0, 1) := by decide +kernel
theorem dX0_drawStep_66 : decode cX0_drawStep 66 = .ok (.getfield 36, 3) := by decide +kernel
theorem dX0_drawStep_69 : decode cX0_drawStep 69 = .ok (.getfield 216, 3) := by decide +kernel
theorem dX0_drawStep_72 : decode cX0_drawStep 72 = .ok (.iload_n 3, 1) := by decide +kernel
theorem dX0_drawStep_73 : decode cX0_drawStep 73 = .ok (.iconst 0, 1) := by decide +kernel
theorem dX0_drawStep_74 : decode cX0_drawStep 74 = .ok (.iadd, 1) := by decide +kernel
theorem dX0_drawStep_75 : decode cX0_drawStep 75 = .ok (.iaload, 1) := by decide +kernel
theorem dX0_drawStep_76 : decode cX0_drawStep 76 = .ok (.iconst 2, 1) := by decide +kernel
theorem dX0_drawStep_77 : decode cX0_drawStep 77 = .ok (.if_icmp .eq 16, 3) := by decide +kernel
theorem dX0_drawStep_80 : decode cX0_drawStep 80 = .ok (.iload 4, 2) := by decide +kernel
theorem dX0_drawStep_82 : decode cX0_drawStep 82 = .ok (.ifCond .ne 11, 3) := by decide +kernel
theorem dX0_drawStep_85 : decode cX0_drawStep 85 = .ok (.aload_n 0, 1) := by decide +kernel
theorem dX0_drawStep_86 : decode cX0_drawStep 86 = .ok (.iconst 4, 1) := by decide +kernel
theorem dX0_drawStep_87 : decode cX0_drawStep 87 = .ok (.invokevirtual 334, 3) := by decide +kernel
theorem dX0_drawStep_90 : decode cX0_drawStep 90 = .ok (.ifCond .eq 5, 3) := by decide +kernel
theorem dX0_drawStep_93 : decode cX0_drawStep 93 = .ok (.iload_n 2, 1) := by decide +kernel
theorem dX0_drawStep_94 : decode cX0_drawStep 94 = .ok (.ireturn, 1) := by decide +kernel
theorem dX0_drawStep_95 : decode cX0_drawStep 95 = .ok (.bipush 12, 2) := by decide +kernel
theorem dX0_drawStep_97 : decode cX0_drawStep 97 = .ok (.bipush 51, 2) := by decide +kernel
theorem dX0_drawStep_99 : decode cX0_drawStep 99 = .ok (.iload_n 2, 1) := by decide +kernel
theorem dX0_drawStep_100 : decode cX0_drawStep 100 = .ok (.aload_n 0, 1) := by decide +kernel
theorem dX0_drawStep_101 : decode cX0_drawStep 101 = .ok (.iconst 5, 1) := by decide +kernel
theorem dX0_drawStep_102 : decode cX0_drawStep 102 = .ok (.invokevirtual 334, 3) := by decide +kernel
theorem dX0_drawStep_105 : decode cX0_drawStep 105 = .ok (.iadd, 1) := by decide +kernel
theorem dX0_drawStep_106 : decode cX0_drawStep 106 = .ok (.iconst 2, 1) := by decide +kernel
theorem dX0_drawStep_107 : decode cX0_drawStep 107 = .ok (.isub, 1) := by decide +kernel
theorem dX0_drawStep_108 : decode cX0_drawStep 108 = .ok (.invokestatic 286, 3) := by decide +kernel
theorem dX0_drawStep_111 : decode cX0_drawStep 111 = .ok (.ireturn, 1) := by decide +kernel
def FX0_drawStep (G : GG) (M : DD) (a : Nat) (p0 : Int32) : Option (DD × Int32) :=
  dr G 9 ((M.2 a 3)) fun b2 =>
  dr G 3 ((M.2 b2 1)) fun b3 =>
  dr G 13 ((M.2 b3 0)) fun b4 =>
  chk (¬ (((12 : Int32)) < 0 ∨ G.2.2 b4 ≤ ((12 : Int32)).toNatClampNeg)) <|
  ltt (M.1 b4 ((12 : Int32)).toNatClampNeg) fun x5 =>
  ltt ((((8 : Int32)) * p0)) fun x6 =>
  ltt ((x6 + ((0 : Int32)))) fun x7 =>
  dr G 13 ((M.2 b2 6)) fun b8 =>
  chk (¬ (x7 < 0 ∨ G.2.2 b8 ≤ x7.toNatClampNeg)) <|
  ltt (M.1 b8 x7.toNatClampNeg) fun x9 =>
  bnd (if x9 = ((3 : Int32)) then (ltt ((x6 + ((1 : Int32)))) fun x25 =>
  chk (¬ (x25 < 0 ∨ G.2.2 b8 ≤ x25.toNatClampNeg)) <|
  ltt (M.1 b8 x25.toNatClampNeg) fun x26 =>
  bnd (if ((0 : Int32)) ≤ x26 then (some ((0 : Int32))) else
  (some ((1 : Int32)))) fun (y27 : Int32) =>
  some (y27)) else
  (some ((0 : Int32)))) fun (y10 : Int32) =>
  dr G 13 ((M.2 a 1)) fun b11 =>
  chk (¬ (((8 : Int32)) < 0 ∨ G.2.2 b11 ≤ ((8 : Int32)).toNatClampNeg)) <|
  ltt (M.1 b11 ((8 : Int32)).toNatClampNeg) fun x12 =>
  if x12 = ((0 : Int32)) then (some (M, x5)) else
  (ltt ((x6 + ((0 : Int32)))) fun x14 =>
  chk (¬ (x14 < 0 ∨ G.2.2 b8 ≤ x14.toNatClampNeg)) <|
  ltt (M.1 b8 x14.toNatClampNeg) fun x15 =>
  if x15 = ((2 : Int32)) then (some (M, x5)) else
  (if y10 = ((0 : Int32)) then (bnd (FX0_draw G M a ((4 : Int32))) fun y18 =>
  if y18.2 = ((0 : Int32)) then (bnd (FX0_draw G y18.1 a ((5 : Int32))) fun y20 =>
  ltt ((x5 + y20.2)) fun x21 =>
  ltt ((x21 - ((2 : Int32)))) fun x22 =>
  bnd (FX11_clamp G y20.1 ((12 : Int32)) ((51 : Int32)) x22) fun y23 =>
  some (y23.1, y23.2)) else
  (some (y18.1, x5))) else
  (some (M, x5))))
set_option maxHeartbeats 4000000 in
set_option maxRecDepth 100000 in
theorem kX0_drawStep (l : Launch) (D : va_G) (ct : CT) (ad : Nat → Nat) (Z : Nat → Nat) (G : GG) (M : DD) (sz : Nat) (a : Nat) (p0 : Int32) (y : DD × Int32) (hc : a < G.1) (hk : G.2.1 a = 0) (hF : FX0_drawStep G M a p0 = some y) : Met l yX0_drawStep wuX0_drawStep ({ frames := 1, cells := 0, slots := 0, locals := 22 }) (va_Pc [.ref (ad a), .int p0] (kB D ct ad Z G M sz)) (va_Qi (fun (q : Int32) (_ : Unit) => q = y.2) (fun _ t => kE D ct ad G (wA ad G sz) y.1 t) (wA ad G sz)) 0 0 (wA ad G sz) := by
  refine Met.ofW (cc := cX0_drawStep) (maxL := 5) (ret := (some .int)) (by decide) rfl ?_
  intro p e s m args below meth c s₁ B hml hv
  obtain ⟨rfl, hsz, hP, hK, hD0, hZ, hN⟩ := hv
  have hx := B.exec
  have hb := B.bytes
  have hr := B.returns
  have hts := atoms_spec (ws := wuX0_drawStep) B.pre
  have hown : s.vm.findClass RX0 = some m.cls := findClass_of_methodNamed B.named
  have hlocks := B.notSynchronized
  subst hsz
  have hD := wD_self (sz := s.heap.size) hD0
  have hA9 : ∀ q, s.heap.size ≤ q → wA ad G s.heap.size q := fun q h => Or.inr h
  generalize hAe : wA ad G s.heap.size = A at hD hA9 hZ ⊢
  have hS : va_S A s.heap s.heap [] := va_S.rf
  have hl := lv_entry ([.ref (ad a), .int p0]) (n := 5) (Nat.le_of_ble_eq_true rfl)
  rw [lg_entry_eq]
  generalize (lg_sl ([.ref (ad a), .int p0]) ++ List.replicate (5 - (lg_sl ([.ref (ad a), .int p0])).length) Slot.unset).toArray = ls at hl ⊢
  have hl : lv_has ls 5 [(0, .ref (ad a)), (1, .int p0)] := hl
  unfold FX0_drawStep at hF
  refine lv_aload_n hx hb dX0_drawStep_0 rfl (lv_at hl 0 rfl) ?_
  refine va_get (D := D) (ci := 0) (v := va_re ad (M.2 a 3)) (C := RX0) (T := TX0) (N := 21) hx hb hts (mus hf_X0) hown hK hP a (wld_o ct ad G M hc hk (by decide)) rfl 3 (by decide) (hts (.fieldLink RX0 36 "VideoSuite$Coder" "work" "LVideoSuite$Work;") (mu mw_817)) (fun _ h9 => h9) rfl dX0_drawStep_1 ?_
  obtain ⟨b2, ho2, hc2, hk2, hF⟩ := dr_some hF
  refine W_st (st' := [.ref (ad b2)]) (by rw [va_some ho2]) ?_
  refine va_get (D := D) (ci := 9) (v := va_re ad (M.2 b2 1)) (C := RX9) (T := TX9) (N := 20) hx hb hts (mus hf_X9) hown hK hP b2 (wld_o ct ad G M hc2 hk2 (by decide)) rfl 1 (by decide) (hts (.fieldLink RX0 81 "VideoSuite$Work" "head" "LVideoSuite$Header;") (mu mw_425)) (fun _ h9 => h9) rfl dX0_drawStep_4 ?_
  obtain ⟨b3, ho3, hc3, hk3, hF⟩ := dr_some hF
  refine W_st (st' := [.ref (ad b3)]) (by rw [va_some ho3]) ?_
  refine va_get (D := D) (ci := 3) (v := va_re ad (M.2 b3 0)) (C := RX3) (T := TX3) (N := 4) hx hb hts (mus hf_X3) hown hK hP b3 (wld_o ct ad G M hc3 hk3 (by decide)) rfl 0 (by decide) (hts (.fieldLink RX0 252 "VideoSuite$Header" "v" "[I") (mu mw_620)) (fun _ h9 => h9) rfl dX0_drawStep_7 ?_
  refine lv_bipush (v := (12 : Int32)) hx hb dX0_drawStep_10 (by decide) ?_
  obtain ⟨b4, ho4, hc4, hk4, hF⟩ := dr_some hF
  refine W_st (st' := [.int (12 : Int32), .ref (ad b4)]) (by rw [va_some ho4]) ?_
  obtain ⟨hvc, hF⟩ := chk_some hF
  refine va_iald hx hb hK hP b4 1 (wld_i ct ad G M hc4 hk4) rfl hvc dX0_drawStep_12 ?_
  obtain ⟨x5, ex5, hF⟩ := ltt_some hF
  refine lv_topi (fun zx5 ezx5 => ?_)
  obtain rfl : x5 = zx5 := ex5.trans ezx5.symm
  refine lv_istore_n (lv' := [(2, .int x5), (0, .ref (ad a)), (1, .int p0)]) hx hb dX0_drawStep_13 rfl hl (by decide) rfl (fun ls hl => ?_)
  refine lv_bipush (v := (8 : Int32)) hx hb dX0_drawStep_14 (by decide) ?_
  refine lv_iload_n hx hb dX0_drawStep_16 rfl (lv_at hl 2 rfl) ?_
  refine lv_imul hx hb dX0_drawStep_17 ?_
  obtain ⟨x6, ex6, hF⟩ := ltt_some hF
  refine lv_topi (fun zx6 ezx6 => ?_)
  obtain rfl : x6 = zx6 := ex6.trans ezx6.symm
  refine lv_istore_n (lv' := [(3, .int x6), (2, .int x5), (0, .ref (ad a)), (1, .int p0)]) hx hb dX0_drawStep_18 rfl hl (by decide) rfl (fun ls hl => ?_)
  refine lv_aload_n hx hb dX0_drawStep_19 rfl (lv_at hl 2 rfl) ?_
  refine va_get (D := D) (ci := 0) (v := va_re ad (M.2 a 3)) (C := RX0) (T := TX0) (N := 21) hx hb hts (mus hf_X0) hown hK hP a (wld_o ct ad G M hc hk (by decide)) rfl 3 (by decide) (hts (.fieldLink RX0 36 "VideoSuite$Coder" "work" "LVideoSuite$Work;") (mu mw_817)) (fun _ h9 => h9) rfl dX0_drawStep_20 ?_
  refine W_st (st' := [.ref (ad b2)]) (by rw [va_some ho2]) ?_
  refine va_get (D := D) (ci := 9) (v := va_re ad (M.2 b2 6)) (C := RX9) (T := TX9) (N := 20) hx hb hts (mus hf_X9) hown hK hP b2 (wld_o ct ad G M hc2 hk2 (by decide)) rfl 6 (by decide) (hts (.fieldLink RX0 216 "VideoSuite$Work" "info" "[I") (mu mw_445)) (fun _ h9 => h9) rfl dX0_drawStep_23 ?_
  refine lv_iload_n hx hb dX0_drawStep_26 rfl (lv_at hl 0 rfl) ?_
  refine lv_iconst (v := (0 : Int32)) hx hb dX0_drawStep_27 (by decide) ?_
  refine lv_iadd hx hb dX0_drawStep_28 ?_
  obtain ⟨x7, ex7, hF⟩ := ltt_some hF
  refine lv_topi (fun zx7 ezx7 => ?_)
  obtain rfl : x7 = zx7 := ex7.trans ezx7.symm
  obtain ⟨b8, ho8, hc8, hk8, hF⟩ := dr_some hF
  refine W_st (st' := [.int x7, .ref (ad b8)]) (by rw [va_some ho8]) ?_
  obtain ⟨hvc, hF⟩ := chk_some hF
  refine va_iald hx hb hK hP b8 1 (wld_i ct ad G M hc8 hk8) rfl hvc dX0_drawStep_29 ?_
  obtain ⟨x9, ex9, hF⟩ := ltt_some hF
  refine lv_topi (fun zx9 ezx9 => ?_)
  obtain rfl : x9 = zx9 := ex9.trans ezx9.symm
  refine lv_iconst (v := (3 : Int32)) hx hb dX0_drawStep_30 (by decide) ?_
  obtain ⟨y10, hy10, hF⟩ := bnd_some hF
  have J10 : ∀ (H : Heap) (locs : List Loc) (ls : Array Slot), va_P D classes (wld ct ad G M) H → va_D A (wld ct ad G M) → va_S A s.heap H locs → lv_has ls 5 [(3, .int x6), (2, .int x5), (0, .ref (ad a)), (1, .int p0)] → W p l e (headSpec wuX0_drawStep ({ frames := 1, cells := 0, slots := 0, locals := 22 })).room s m ([.ref (ad a), .int p0] : List Value).toArray below meth c H locs 0 0 (MQ below (va_Qi (fun (q : Int32) (_ : Unit) => q = y.2) (fun _ t => kE D ct ad G A y.1 t) A) ([.ref (ad a), .int p0] : List Value).toArray s 0 0 A) (F0 m 53 ls [.int y10]) := by
    intro H locs ls hP hD hS hl
    refine lv_istore (lv' := [(4, .int y10), (3, .int x6), (2, .int x5), (0, .ref (ad a)), (1, .int p0)]) hx hb dX0_drawStep_53 hl (by decide) rfl (fun ls hl => ?_)
    refine lv_aload_n hx hb dX0_drawStep_55 rfl (lv_at hl 3 rfl) ?_
    refine va_get (D := D) (ci := 0) (v := va_re ad (M.2 a 1)) (C := RX0) (T := TX0) (N := 21) hx hb hts (mus hf_X0) hown hK hP a (wld_o ct ad G M hc hk (by decide)) rfl 1 (by decide) (hts (.fieldLink RX0 23 "VideoSuite$Coder" "now" "[I") (mu mw_813)) (fun _ h9 => h9) rfl dX0_drawStep_56 ?_
    refine lv_bipush (v := (8 : Int32)) hx hb dX0_drawStep_59 (by decide) ?_
    obtain ⟨b11, ho11, hc11, hk11, hF⟩ := dr_some hF
    refine W_st (st' := [.int (8 : Int32), .ref (ad b11)]) (by rw [va_some ho11]) ?_
    obtain ⟨hvc, hF⟩ := chk_some hF
    refine va_iald hx hb hK hP b11 1 (wld_i ct ad G M hc11 hk11) rfl hvc dX0_drawStep_61 ?_
    obtain ⟨x12, ex12, hF⟩ := ltt_some hF
    refine lv_topi (fun zx12 ezx12 => ?_)
    obtain rfl : x12 = zx12 := ex12.trans ezx12.symm
    refine lv_if_eq (tgt := 93) hx hb dX0_drawStep_62 (by decide) (fun c13 => ?_) (fun c13 => ?_)
    · rw [if_pos c13] at hF
      refine lv_iload_n hx hb dX0_drawStep_93 rfl (lv_at hl 2 rfl) ?_
      obtain rfl := Option.some.inj hF
      exact W.iret (v := x5) hx hb hr (fun t ht hW => ⟨⟨_, (), rfl, rfl, ⟨by rw [ht]; exact hP, va_K.moved hW.alike hK, hD⟩⟩, hS.F ht⟩) hS.2.2 dX0_drawStep_94
    · rw [if_neg c13] at hF
      refine lv_aload_n hx hb dX0_drawStep_65 rfl (lv_at hl 3 rfl) ?_
      refine va_get (D := D) (ci := 0) (v := va_re ad (M.2 a 3)) (C := RX0) (T := TX0) (N := 21) hx hb hts (mus hf_X0) hown hK hP a (wld_o ct ad G M hc hk (by decide)) rfl 3 (by decide) (hts (.fieldLink RX0 36 "VideoSuite$Coder" "work" "LVideoSuite$Work;") (mu mw_817)) (fun _ h9 => h9) rfl dX0_drawStep_66 ?_
      refine W_st (st' := [.ref (ad b2)]) (by rw [va_some ho2]) ?_
      refine va_get (D := D) (ci := 9) (v := va_re ad (M.2 b2 6)) (C := RX9) (T := TX9) (N := 20) hx hb hts (mus hf_X9) hown hK hP b2 (wld_o ct ad G M hc2 hk2 (by decide)) rfl 6 (by decide) (hts (.fieldLink RX0 216 "VideoSuite$Work" "info" "[I") (mu mw_445)) (fun _ h9 => h9) rfl dX0_drawStep_69 ?_
      refine lv_iload_n hx hb dX0_drawStep_72 rfl (lv_at hl 1 rfl) ?_
      refine lv_iconst (v := (0 : Int32)) hx hb dX0_drawStep_73 (by decide) ?_
      refine lv_iadd hx hb dX0_drawStep_74 ?_
      obtain ⟨x14, ex14, hF⟩ := ltt_some hF
      refine lv_topi (fun zx14 ezx14 => ?_)
      obtain rfl : x14 = zx14 := ex14.trans ezx14.symm
      refine W_st (st' := [.int x14, .ref (ad b8)]) (by rw [va_some ho8]) ?_
      obtain ⟨hvc, hF⟩ := chk_some hF
      refine va_iald hx hb hK hP b8 1 (wld_i ct ad G M hc8 hk8) rfl hvc dX0_drawStep_75 ?_
      obtain ⟨x15, ex15, hF⟩ := ltt_some hF
      refine lv_topi (fun zx15 ezx15 => ?_)
      obtain rfl : x15 = zx15 := ex15.trans ezx15.symm
      refine lv_iconst (v := (2 : Int32)) hx hb dX0_drawStep_76 (by decide) ?_
      refine lv_icmp_eq (tgt := 93) hx hb dX0_drawStep_77 (by decide) (fun c16 => ?_) (fun c16 => ?_)
      · rw [if_pos c16] at hF
        refine lv_iload_n hx hb dX0_drawStep_93 rfl (lv_at hl 2 rfl) ?_
        obtain rfl := Option.some.inj hF
        exact W.iret (v := x5) hx hb hr (fun t ht hW => ⟨⟨_, (), rfl, rfl, ⟨by rw [ht]; exact hP, va_K.moved hW.alike hK, hD⟩⟩, hS.F ht⟩) hS.2.2 dX0_drawStep_94
      · rw [if_neg c16] at hF
        refine lv_iload hx hb dX0_drawStep_80 (lv_at hl 0 rfl) ?_
        refine lv_if_ne (tgt := 93) hx hb dX0_drawStep_82 (by decide) (fun c17 => ?_) (fun c17 => ?_)
        · rw [if_neg c17] at hF
          refine lv_iload_n hx hb dX0_drawStep_93 rfl (lv_at hl 2 rfl) ?_
          obtain rfl := Option.some.inj hF
          exact W.iret (v := x5) hx hb hr (fun t ht hW => ⟨⟨_, (), rfl, rfl, ⟨by rw [ht]; exact hP, va_K.moved hW.alike hK, hD⟩⟩, hS.F ht⟩) hS.2.2 dX0_drawStep_94
        · rw [if_pos c17] at hF
          refine lv_aload_n hx hb dX0_drawStep_85 rfl (lv_at hl 3 rfl) ?_
          refine lv_iconst (v := (4 : Int32)) hx hb dX0_drawStep_86 (by decide) ?_
          obtain ⟨y18, hy18, hF⟩ := bnd_some hF
          have hf9 := wA_in hD hA9 hS
          refine va_calli (va_runV (As := [.int (4 : Int32)]) (rest := []) ⟨hx, hb, hml, hown, hts⟩ (kX0_draw l D ct ad Z G M H.size a ((4 : Int32)) y18 hc hk hy18) (cwV 1 hts gX0_drawStep_X0_draw rfl rfl rfl (by decide +kernel) ⟨Nat.le_of_ble_eq_true rfl, Nat.le_of_ble_eq_true rfl⟩) ⟨fun a U g mk q => by obtain ⟨q0, q1, qP, qK, qD, qZ, qN⟩ := q; exact ⟨q0, q1, qP, va_K.moved (u := U) (U := U.calling g mk a) (Vm.Alike.refl U.vm) qK, qD, sF.moved (u := U) (U := U.calling g mk a) (Vm.Alike.refl U.vm) qZ, nF.same rfl qN⟩, va_recv hK hP (ci := 0) (q0 := a) rfl (wld_o ct ad G M hc hk (by decide)), fun U hU hW => ⟨rfl, by rw [hU], by rw [hU]; exact hP, va_K.moved hW.alike hK, hD.weaken (fun _ _ _ _ => trivial), by rw [hU]; exact ((hZ.kept hS.2.1).narrow hf9).moved hW.alike, hN.warm hW⟩⟩ rfl rfl hl.1 rfl (lv_room (Nat.le_of_ble_eq_true rfl)) dX0_drawStep_87 ⟨(Nat.zero_le _), (Nat.zero_le _)⟩) hS (fun q _ h => hf9 q h) hf9 (fun r u t H locs ht hvm hw hB hz1 hk1 hS => ?_)
          obtain ⟨hP, hK9, hD9⟩ := hB
          rw [ht] at hP
          try dsimp only at hw
          subst hw
          have hD := hD9.weaken (fun _ q _ h => hf9 q.1 h)
          refine lv_if_eq (tgt := 95) hx hb dX0_drawStep_90 (by decide) (fun c19 => ?_) (fun c19 => ?_)
          · rw [if_pos c19] at hF
            refine lv_bipush (v := (12 : Int32)) hx hb dX0_drawStep_95 (by decide) ?_
            refine lv_bipush (v := (51 : Int32)) hx hb dX0_drawStep_97 (by decide) ?_
            refine lv_iload_n hx hb dX0_drawStep_99 rfl (lv_at hl 2 rfl) ?_
            refine lv_aload_n hx hb dX0_drawStep_100 rfl (lv_at hl 3 rfl) ?_
            refine lv_iconst (v := (5 : Int32)) hx hb dX0_drawStep_101 (by decide) ?_
            obtain ⟨y20, hy20, hF⟩ := bnd_some hF
            have hf9 := wA_in hD hA9 hS
            refine va_calli (va_runV (As := [.int (5 : Int32)]) (rest := [.int x5, .int (51 : Int32), .int (12 : Int32)]) ⟨hx, hb, hml, hown, hts⟩ (kX0_draw l D ct ad Z G y18.1 H.size a ((5 : Int32)) y20 hc hk hy20) (cwV 1 hts gX0_drawStep_X0_draw rfl rfl rfl (by decide +kernel) ⟨Nat.le_of_ble_eq_true rfl, Nat.le_of_ble_eq_true rfl⟩) ⟨fun a U g mk q => by obtain ⟨q0, q1, qP, qK, qD, qZ, qN⟩ := q; exact ⟨q0, q1, qP, va_K.moved (u := U) (U := U.calling g mk a) (Vm.Alike.refl U.vm) qK, qD, sF.moved (u := U) (U := U.calling g mk a) (Vm.Alike.refl U.vm) qZ, nF.same rfl qN⟩, va_recv hK hP (ci := 0) (q0 := a) rfl (wld_o ct ad G y18.1 hc hk (by decide)), fun U hU hW => ⟨rfl, by rw [hU], by rw [hU]; exact hP, va_K.moved hW.alike hK, hD.weaken (fun _ _ _ _ => trivial), by rw [hU]; exact ((hZ.kept hS.2.1).narrow hf9).moved hW.alike, hN.warm hW⟩⟩ rfl rfl hl.1 rfl (lv_room (Nat.le_of_ble_eq_true rfl)) dX0_drawStep_102 ⟨(Nat.zero_le _), (Nat.zero_le _)⟩) hS (fun q _ h => hf9 q h) hf9 (fun r u t H locs ht hvm hw hB hz1 hk1 hS => ?_)
            obtain ⟨hP, hK9, hD9⟩ := hB
            rw [ht] at hP
            try dsimp only at hw
            subst hw
            have hD := hD9.weaken (fun _ q _ h => hf9 q.1 h)
            refine lv_iadd hx hb dX0_drawStep_105 ?_
            obtain ⟨x21, ex21, hF⟩ := ltt_some hF
            refine lv_topi (fun zx21 ezx21 => ?_)
            obtain rfl : x21 = zx21 := ex21.trans ezx21.symm
            refine lv_iconst (v := (2 : Int32)) hx hb dX0_drawStep_106 (by decide) ?_
            refine lv_isub hx hb dX0_drawStep_107 ?_
            obtain ⟨x22, ex22, hF⟩ := ltt_some hF
            refine lv_topi (fun zx22 ezx22 => ?_)
            obtain rfl : x22 = zx22 := ex22.trans ezx22.symm
            obtain ⟨y23, hy23, hF⟩ := bnd_some hF
            have hf9 := wA_in hD hA9 hS
            refine va_calli (va_runSN (As := [.int (12 : Int32), .int (51 : Int32), .int x22]) (rest := []) ⟨hx, hb, hml, hown, hts⟩ (kX11_clamp l D ct ad Z G y20.1 H.size ((12 : Int32)) ((51 : Int32)) x22 y23 hy23) ⟨va_cnB 3 hts gX0_drawStep_X11_clamp_n286 rfl rfl rfl (hN.1 (RX0, 286, yX11_clamp, RX11) (List.mem_of_getElem? (i := 5) rfl)) (hts (.initialized RX11) (mu mw_166)) (by decide +kernel) ⟨Nat.le_of_ble_eq_true rfl, Nat.le_of_ble_eq_true rfl⟩, hts (.static yX11_clamp) (mu mw_938), trivial⟩ ⟨fun a U g mk q => by obtain ⟨q0, q1, qP, qK, qD, qZ, qN⟩ := q; exact ⟨q0, q1, qP, va_K.moved (u := U) (U := U.calling g mk a) (Vm.Alike.refl U.vm) qK, qD, sF.moved (u := U) (U := U.calling g mk a) (Vm.Alike.refl U.vm) qZ, nF.same rfl qN⟩, fun U hU hW => ⟨rfl, by rw [hU], by rw [hU]; exact hP, va_K.moved hW.alike hK, hD.weaken (fun _ _ _ _ => trivial), by rw [hU]; exact ((hZ.kept hS.2.1).narrow hf9).moved hW.alike, hN.warm hW⟩⟩ rfl rfl hl.1 rfl (lv_room (Nat.le_of_ble_eq_true rfl)) dX0_drawStep_108 ⟨(Nat.zero_le _), (Nat.zero_le _)⟩) hS (fun q _ h => hf9 q h) hf9 (fun r u t H locs ht hvm hw hB hz1 hk1 hS => ?_)
            obtain ⟨hP, hK9, hD9⟩ := hB
            rw [ht] at hP
            try dsimp only at hw
            subst hw
            have hD := hD9.weaken (fun _ q _ h => hf9 q.1 h)
            obtain rfl := Option.some.inj hF
            exact W.iret (v := y23.2) hx hb hr (fun t ht hW => ⟨⟨_, (), rfl, rfl, ⟨by rw [ht]; exact hP, va_K.moved hW.alike hK, hD⟩⟩, hS.F ht⟩) hS.2.2 dX0_drawStep_111
          · rw [if_neg c19] at hF
            refine lv_iload_n hx hb dX0_drawStep_93 rfl (lv_at hl 2 rfl) ?_
            obtain rfl := Option.some.inj hF
            exact W.iret (v := x5) hx hb hr (fun t ht hW => ⟨⟨_, (), rfl, rfl, ⟨by rw [ht]; exact hP, va_K.moved hW.alike hK, hD⟩⟩, hS.F ht⟩) hS.2.2 dX0_drawStep_94
  clear hF
  have hF := hy10
  clear hy10
  refine lv_icmp_ne (tgt := 52) hx hb dX0_drawStep_31 (by decide) (fun c24 => ?_) (fun c24 => ?_)
  · rw [if_neg c24] at hF
    refine lv_iconst (v := (0 : Int32)) hx hb dX0_drawStep_52 (by decide) ?_
    obtain rfl := Option.some.inj hF
    exact J10 _ _ _ hP hD hS (lv_sub hl [0, 1, 2, 3] rfl)
  · rw [if_pos c24] at hF
    refine lv_aload_n hx hb dX0_drawStep_34 rfl (lv_at hl 2 rfl) ?_
    refine va_get (D := D) (ci := 0) (v := va_re ad (M.2 a 3)) (C := RX0) (T := TX0) (N := 21) hx hb hts (mus hf_X0) hown hK hP a (wld_o ct ad G M hc hk (by decide)) rfl 3 (by decide) (hts (.fieldLink RX0 36 "VideoSuite$Coder" "work" "LVideoSuite$Work;") (mu mw_817)) (fun _ h9 => h9) rfl dX0_drawStep_35 ?_
    refine W_st (st' := [.ref (ad b2)]) (by rw [va_some ho2]) ?_
    refine va_get (D := D) (ci := 9) (v := va_re ad (M.2 b2 6)) (C := RX9) (T := TX9) (N := 20) hx hb hts (mus hf_X9) hown hK hP b2 (wld_o ct ad G M hc2 hk2 (by decide)) rfl 6 (by decide) (hts (.fieldLink RX0 216 "VideoSuite$Work" "info" "[I") (mu mw_445)) (fun _ h9 => h9) rfl dX0_drawStep_38 ?_
    refine lv_iload_n hx hb dX0_drawStep_41 rfl (lv_at hl 0 rfl) ?_
    refine lv_iconst (v := (1 : Int32)) hx hb dX0_drawStep_42 (by decide) ?_
    refine lv_iadd hx hb dX0_drawStep_43 ?_
    obtain ⟨x25, ex25, hF⟩ := ltt_some hF
    refine lv_topi (fun zx25 ezx25 => ?_)
    obtain rfl : x25 = zx25 := ex25.trans ezx25.symm
    refine W_st (st' := [.int x25, .ref (ad b8)]) (by rw [va_some ho8]) ?_
    obtain ⟨hvc, hF⟩ := chk_some hF
    refine va_iald hx hb hK hP b8 1 (wld_i ct ad G M hc8 hk8) rfl hvc dX0_drawStep_44 ?_
    obtain ⟨x26, ex26, hF⟩ := ltt_some hF
    refine lv_topi (fun zx26 ezx26 => ?_)
    obtain rfl : x26 = zx26 := ex26.trans ezx26.symm
    obtain ⟨y27, hy27, hF⟩ := bnd_some hF
    have J27 : ∀ (H : Heap) (locs : List Loc) (ls : Array Slot), va_P D classes (wld ct ad G M) H → va_D A (wld ct ad G M) → va_S A s.heap H locs → lv_has ls 5 [(3, .int x6), (2, .int x5), (0, .ref (ad a)), (1, .int p0)] → W p l e (headSpec wuX0_drawStep ({ frames := 1, cells := 0, slots := 0, locals := 22 })).room s m ([.ref (ad a), .int p0] : List Value).toArray below meth c H locs 0 0 (MQ below (va_Qi (fun (q : Int32) (_ : Unit) => q = y.2) (fun _ t => kE D ct ad G A y.1 t) A) ([.ref (ad a), .int p0] : List Value).toArray s 0 0 A) (F0 m 53 ls [.int y27]) := by
      intro H locs ls hP hD hS hl
      obtain rfl := Option.some.inj hF
      exact J10 _ _ _ hP hD hS (lv_sub hl [0, 1, 2, 3] rfl)
    clear hF
    have hF := hy27
    clear hy27
    refine lv_if_ge (tgt := 52) hx hb dX0_drawStep_45 (by decide) (fun c28 => ?_) (fun c28 => ?_)
    · rw [if_pos c28] at hF
      refine lv_iconst (v := (0 : Int32)) hx hb dX0_drawStep_52 (by decide) ?_
      obtain rfl := Option.some.inj hF
      exact J27 _ _ _ hP hD hS (lv_sub hl [0, 1, 2, 3] rfl)
    · rw [if_neg c28] at hF
      refine lv_iconst (v := (1 : Int32)) hx hb dX0_drawStep_48 (by decide) ?_
      refine lv_goto (tgt := 53) hx hb dX0_drawStep_49 (by decide) ?_
      obtain rfl := Option.some.inj hF
      exact J27 _ _ _ hP hD hS (lv_sub hl [0, 1, 2, 3] rfl)
set_option maxRecDepth 20000 in
theorem gX0_hold_X0_wide : GoodIn wuX0_hold (wsV RX0 176 RX0 yX0_wide wuX0_wide) := gu_V mw_2376 mw_2378 mw_112 mw_175 mw_2379
set_option maxRecDepth 20000 in
set_option maxRecDepth 20000 in
theorem gX0_hold_X0_high : GoodIn wuX0_hold (wsV RX0 180 RX0 yX0_high wuX0_high) := gu_V mw_2380 mw_2382 mw_113 mw_175 mw_2383
theorem dX0_hold_0 : decode cX0_hold 0 = .ok (.iconst 0, 1) := by decide +kernel
theorem dX0_hold_1 : decode cX0_hold 1 = .ok (.istore_n 1, 1) := by decide +kernel
theorem dX0_hold_2 : decode cX0_hold 2 = .ok (.iload_n 1, 1) := by decide +kernel
theorem dX0_hold_3 : decode cX0_hold 3 = .ok (.iconst 3, 1) := by decide +kernel
theorem dX0_hold_4 : decode cX0_hold 4 = .ok (.if_icmp .ge 47, 3) := by decide +kernel
theorem dX0_hold_7 : decode cX0_hold 7 = .ok (.aload_n 0, 1) := by decide +kernel
theorem dX0_hold_8 : decode cX0_hold 8 = .ok (.getfield 66, 3) := by decide +kernel
theorem dX0_hold_11 : decode cX0_hold 11 = .ok (.bipush 9, 2) := by decide +kernel
theorem dX0_hold_13 : decode cX0_hold 13 = .ok (.iload_n 1, 1) := by decide +kernel
theorem dX0_hold_14 : decode cX0_hold 14 = .ok (.iadd, 1) := by decide +kernel
theorem dX0_hold_15 : decode cX0_hold 15 = .ok (.aaload, 1) := by decide +kernel
theorem dX0_hold_16 : decode cX0_hold 16 = .ok (.iconst 0, 1) := by decide +kernel
theorem dX0_hold_17 : decode cX0_hold 17 = .ok (.aload_n 0, 1) := by decide +kernel
theorem dX0_hold_18 : decode cX0_hold 18 = .ok (.getfield 66, 3) := by decide +kernel
theorem dX0_hold_21 : decode cX0_hold 21 = .ok (.iconst 3, 1) := by decide +kernel
theorem dX0_hold_22 : decode cX0_hold 22 = .ok (.aload_n 0, 1) := by decide +kernel
theorem dX0_hold_23 : decode cX0_hold 23 = .ok (.getfield 100, 3) := by decide +kernel
theorem dX0_hold_26 : decode cX0_hold 26 = .ok (.imul, 1) := by decide +kernel
theorem dX0_hold_27 : decode cX0_hold 27 = .ok (.iload_n 1, 1) := by decide +kernel
theorem dX0_hold_28 : decode cX0_hold 28 = .ok (.iadd, 1) := by decide +kernel
theorem dX0_hold_29 : decode cX0_hold 29 = .ok (.aaload, 1) := by decide +kernel
theorem dX0_hold_30 : decode cX0_hold 30 = .ok (.iconst 0, 1) := by decide +kernel
theorem dX0_hold_31 : decode cX0_hold 31 = .ok (.aload_n 0, 1) := by decide +kernel
theorem dX0_hold_32 : decode cX0_hold 32 = .ok (.iload_n 1, 1) := by decide +kernel
theorem dX0_hold_33 : decode cX0_hold 33 = .ok (.invokevirtual 176, 3) := by decide +kernel
theorem dX0_hold_36 : decode cX0_hold 36 = .ok (.aload_n 0, 1) := by decide +kernel
theorem dX0_hold_37 : decode cX0_hold 37 = .ok (.iload_n 1, 1) := by decide +kernel
theorem dX0_hold_38 : decode cX0_hold 38 = .ok (.invokevirtual 180, 3) := by decide +kernel
theorem dX0_hold_41 : decode cX0_hold 41 = .ok (.imul, 1) := by decide +kernel
theorem dX0_hold_42 : decode cX0_hold 42 = .ok (.invokestatic 94, 3) := by decide +kernel
theorem dX0_hold_45 : decode cX0_hold 45 = .ok (.iinc 1 1, 3) := by decide +kernel
theorem dX0_hold_48 : decode cX0_hold 48 = .ok (.goto (-46), 3) := by decide +kernel
theorem dX0_hold_51 : decode cX0_hold 51 = .ok (.aload_n 0, 1) := by decide +kernel
theorem dX0_hold_52 : decode cX0_hold 52 = .ok (.dup, 1) := by decide +kernel
theorem dX0_hold_53 : decode cX0_hold 53 = .ok (.getfield 100, 3) := by decide +kernel
theorem dX0_hold_56 : decode cX0_hold 56 = .ok (.iconst 1, 1) := by decide +kernel
theorem dX0_hold_57 : decode cX0_hold 57 = .ok (.iadd, 1) := by decide +kernel
theorem dX0_hold_58 : decode cX0_hold 58 = .ok (.putfield 100, 3) := by decide +kernel
theorem dX0_hold_61 : decode cX0_hold 61 = .ok (.aload_n 0, 1) := by decide +kernel
theorem dX0_hold_62 : decode cX0_hold 62 = .ok (.dup, 1) := by decide +kernel
theorem dX0_hold_63 : decode cX0_hold 63 = .ok (.getfield 104, 3) := by decide +kernel
theorem dX0_hold_66 : decode cX0_hold 66 = .ok (.iconst 1, 1) := by decide +kernel
theorem dX0_hold_67 : decode cX0_hold 67 = .ok (.iadd, 1) := by decide +kernel
theorem dX0_hold_68 : decode cX0_hold 68 = .ok (.putfield 104, 3) := by decide +kernel
theorem dX0_hold_71 : decode cX0_hold 71 = .ok (.return_, 1) := by decide +kernel
def FX0_hold (G : GG) (M : DD) (a : Nat)  : Option (DD) :=
  bnd (itr (fun (s2 : Int32 × DD) => ((if ((3 : Int32)) ≤ s2.1 then (some (.inr (s2.1, s2.2))) else
  (ltt ((((9 : Int32)) + s2.1)) fun x12 =>
  dr G 15 ((s2.2.2 a 8)) fun b13 =>
  chk (¬ (x12 < 0 ∨ G.2.2 b13 ≤ x12.toNatClampNeg)) <|
  ltt (s2.2.1 a 10) fun x14 =>
  ltt ((((3 : Int32)) * x14)) fun x15 =>
  ltt ((x15 + s2.1)) fun x16 =>
  chk (¬ (x16 < 0 ∨ G.2.2 b13 ≤ x16.toNatClampNeg)) <|
  bnd (FX0_wide G s2.2 a s2.1) fun y17 =>
  bnd (FX0_high G y17.1 a s2.1) fun y18 =>
  ltt ((y17.2 * y18.2)) fun x19 =>
  dr G 13 ((s2.2.2 b13 x12.toNatClampNeg)) fun b20 =>
  dr G 13 ((s2.2.2 b13 x16.toNatClampNeg)) fun b21 =>
  chk (¬ ((0 : Int32)) < 0 ∧ ¬ ((0 : Int32)) < 0 ∧ ¬ x19 < 0 ∧ ((0 : Int32)).toNatClampNeg + x19.toNatClampNeg ≤ G.2.2 b20 ∧ ((0 : Int32)).toNatClampNeg + x19.toNatClampNeg ≤ G.2.2 b21) <|
  ltt (rI y18.1 b21 (va_cpy (y18.1.1 b20) (y18.1.1 b21) ((0 : Int32)).toNatClampNeg ((0 : Int32)).toNatClampNeg x19.toNatClampNeg)) fun M22 =>
  ltt (s2.1 + (1 : Int32)) fun x23 =>
  some (.inl (x23, M22)))) : Option ((Int32 × DD) ⊕ (Int32 × DD)))) 1000000 ((0 : Int32), M)) fun (y1 : Int32 × DD) =>
  ltt (y1.2.1 a 10) fun x4 =>
  ltt ((x4 + ((1 : Int32)))) fun x5 =>
  ltt (uI y1.2 a 10 x5) fun M6 =>
  ltt (M6.1 a 11) fun x7 =>
  ltt ((x7 + ((1 : Int32)))) fun x8 =>
  ltt (uI M6 a 11 x8) fun M9 =>
  some M9
set_option maxHeartbeats 4000000 in
set_option maxRecDepth 100000 in
theorem kX0_hold (l : Launch) (D : va_G) (ct : CT) (ad : Nat → Nat) (Z : Nat → Nat) (G : GG) (M : DD) (sz : Nat) (a : Nat)  (y : DD) (hc : a < G.1) (hk : G.2.1 a = 0) (hF : FX0_hold G M a  = some y) : Met l yX0_hold wuX0_hold ({ frames := 1, cells := 0, slots := 0, locals := 80 }) (va_Pc [.ref (ad a)] (kB D ct ad Z G M sz)) (va_Qv (fun (_ : Unit) => True) (fun _ t => kE D ct ad G (wA ad G sz) y t) (wA ad G sz)) 0 0 (wA ad G sz) := by
  refine Met.ofW (cc := cX0_hold) (maxL := 2) (ret := none) (by decide) rfl ?_
  intro p e s m args below meth c s₁ B hml hv
  obtain ⟨rfl, hsz, hP, hK, hD0, hZ, hN⟩ := hv
  have hx := B.exec
  have hb := B.bytes
  have hr := B.returns
  have hts := atoms_spec (ws := wuX0_hold) B.pre
  have hown : s.vm.findClass RX0 = some m.cls := findClass_of_methodNamed B.named
  have hlocks := B.notSynchronized
  subst hsz
  have hD := wD_self (sz := s.heap.size) hD0
  have hA9 : ∀ q, s.heap.size ≤ q → wA ad G s.heap.size q := fun q h => Or.inr h
  generalize hAe : wA ad G s.heap.size = A at hD hA9 hZ ⊢
  have hS : va_S A s.heap s.heap [] := va_S.rf
  have hl := lv_entry ([.ref (ad a)]) (n := 2) (Nat.le_of_ble_eq_true rfl)
  rw [lg_entry_eq]
  generalize (lg_sl ([.ref (ad a)]) ++ List.replicate (2 - (lg_sl ([.ref (ad a)])).length) Slot.unset).toArray = ls at hl ⊢
  have hl : lv_has ls 2 [(0, .ref (ad a))] := hl
  unfold FX0_hold at hF
  refine lv_iconst (v := (0 : Int32)) hx hb dX0_hold_0 (by decide) ?_
  refine lv_istore_n (lv' := [(1, .int (0 : Int32)), (0, .ref (ad a))]) hx hb dX0_hold_1 rfl hl (by decide) rfl (fun ls hl => ?_)
  obtain ⟨y1, hy1, hF⟩ := bnd_some hF
  have K1 : ∀ (H : Heap) (locs : List Loc) (ls : Array Slot), va_P D classes (wld ct ad G y1.2) H → va_D A (wld ct ad G y1.2) → va_S A s.heap H locs → lv_has ls 2 [(1, .int y1.1), (0, .ref (ad a))] → W p l e (headSpec wuX0_hold ({ frames := 1, cells := 0, slots := 0, locals := 80 })).room s m ([.ref (ad a)] : List Value).toArray below meth c H locs 0 0 (MQ below (va_Qv (fun (_ : Unit) => True) (fun _ t => kE D ct ad G A y t) A) ([.ref (ad a)] : List Value).toArray s 0 0 A) (F0 m 51 ls []) := by
    intro H locs ls hP hD hS hl
    refine lv_aload_n hx hb dX0_hold_51 rfl (lv_at hl 1 rfl) ?_
    refine lv_dup hx hb dX0_hold_52 rfl ?_
    refine va_get (D := D) (ci := 0) (v := .int (y1.2.1 a 10)) (C := RX0) (T := TX0) (N := 21) hx hb hts (mus hf_X0) hown hK hP a (wld_o ct ad G y1.2 hc hk (by decide)) rfl 10 (by decide) (hts (.fieldLink RX0 100 "VideoSuite$Coder" "waiting" "I") (mu mw_824)) (fun _ h9 => h9) rfl dX0_hold_53 ?_
    obtain ⟨x4, ex4, hF⟩ := ltt_some hF
    refine lv_topi (fun zx4 ezx4 => ?_)
    obtain rfl : x4 = zx4 := ex4.trans ezx4.symm
    refine lv_iconst (v := (1 : Int32)) hx hb dX0_hold_56 (by decide) ?_
    refine lv_iadd hx hb dX0_hold_57 ?_
    obtain ⟨x5, ex5, hF⟩ := ltt_some hF
    refine lv_topi (fun zx5 ezx5 => ?_)
    obtain rfl : x5 = zx5 := ex5.trans ezx5.symm
    refine va_put (D := D) (ci := 0) (v := .int x5) (ty := .int) (C := RX0) (T := TX0) (N := 21) hx hb hts (mus hf_X0) tyX0 tyX0_ok nmX0 hown hK hP hD hS a (wld_o ct ad G y1.2 hc hk (by decide)) rfl 10 (by decide) (hts (.fieldLink RX0 100 "VideoSuite$Coder" "waiting" "I") (mu mw_824)) (fun _ h9 => h9) rfl (by decide +kernel) rfl rfl (Nat.le_of_ble_eq_true rfl) dX0_hold_58 (fun H locs hP hD hS => ?_)
    obtain ⟨M6, eM6, hF⟩ := ltt_some hF
    rw [set_oI ct ad G y1.2 hc hk (by decide) (by rfl), ← eM6] at hP hD
    refine lv_aload_n hx hb dX0_hold_61 rfl (lv_at hl 1 rfl) ?_
    refine lv_dup hx hb dX0_hold_62 rfl ?_
    refine va_get (D := D) (ci := 0) (v := .int (M6.1 a 11)) (C := RX0) (T := TX0) (N := 21) hx hb hts (mus hf_X0) hown hK hP a (wld_o ct ad G M6 hc hk (by decide)) rfl 11 (by decide) (hts (.fieldLink RX0 104 "VideoSuite$Coder" "come" "I") (mu mw_826)) (fun _ h9 => h9) rfl dX0_hold_63 ?_
    obtain ⟨x7, ex7, hF⟩ := ltt_some hF
    refine lv_topi (fun zx7 ezx7 => ?_)
    obtain rfl : x7 = zx7 := ex7.trans ezx7.symm
    refine lv_iconst (v := (1 : Int32)) hx hb dX0_hold_66 (by decide) ?_
    refine lv_iadd hx hb dX0_hold_67 ?_
    obtain ⟨x8, ex8, hF⟩ := ltt_some hF
    refine lv_topi (fun zx8 ezx8 => ?_)
    obtain rfl : x8 = zx8 := ex8.trans ezx8.symm
    refine va_put (D := D) (ci := 0) (v := .int x8) (ty := .int) (C := RX0) (T := TX0) (N := 21) hx hb hts (mus hf_X0) tyX0 tyX0_ok nmX0 hown hK hP hD hS a (wld_o ct ad G M6 hc hk (by decide)) rfl 11 (by decide) (hts (.fieldLink RX0 104 "VideoSuite$Coder" "come" "I") (mu mw_826)) (fun _ h9 => h9) rfl (by decide +kernel) rfl rfl (Nat.le_of_ble_eq_true rfl) dX0_hold_68 (fun H locs hP hD hS => ?_)
    obtain ⟨M9, eM9, hF⟩ := ltt_some hF
    rw [set_oI ct ad G M6 hc hk (by decide) (by rfl), ← eM9] at hP hD
    obtain rfl := Option.some.inj hF
    exact W.vret hx hb hr (fun t ht hW => ⟨⟨(), rfl, trivial, ⟨by rw [ht]; exact hP, va_K.moved hW.alike hK, hD⟩⟩, hS.F ht⟩) hS.2.2 dX0_hold_71
  clear hF
  refine itr_rule (fun (s2 : Int32 × DD) => ∀ (H : Heap) (locs : List Loc) (ls : Array Slot), va_P D classes (wld ct ad G s2.2) H → va_D A (wld ct ad G s2.2) → va_S A s.heap H locs → lv_has ls 2 [(1, .int s2.1), (0, .ref (ad a))] → W p l e (headSpec wuX0_hold ({ frames := 1, cells := 0, slots := 0, locals := 80 })).room s m ([.ref (ad a)] : List Value).toArray below meth c H locs 0 0 (MQ below (va_Qv (fun (_ : Unit) => True) (fun _ t => kE D ct ad G A y t) A) ([.ref (ad a)] : List Value).toArray s 0 0 A) (F0 m 2 ls [])) ?_ _ _ hy1 _ _ _ hP hD hS (lv_sub hl [0, 1] rfl)
  rintro s2 ⟨z10, hF, hwz10⟩ H locs ls hP hD hS hl
  try dsimp only at hF
  refine lv_iload_n hx hb dX0_hold_2 rfl (lv_at hl 0 rfl) ?_
  refine lv_iconst (v := (3 : Int32)) hx hb dX0_hold_3 (by decide) ?_
  refine lv_icmp_ge (tgt := 51) hx hb dX0_hold_4 (by decide) (fun c11 => ?_) (fun c11 => ?_)
  · rw [if_pos c11] at hF
    obtain rfl := Option.some.inj hF
    subst hwz10
    exact K1 _ _ _ hP hD hS (lv_sub hl [0, 1] rfl)
  · rw [if_neg c11] at hF
    refine lv_aload_n hx hb dX0_hold_7 rfl (lv_at hl 1 rfl) ?_
    refine va_get (D := D) (ci := 0) (v := va_re ad (s2.2.2 a 8)) (C := RX0) (T := TX0) (N := 21) hx hb hts (mus hf_X0) hown hK hP a (wld_o ct ad G s2.2 hc hk (by decide)) rfl 8 (by decide) (hts (.fieldLink RX0 66 "VideoSuite$Coder" "planes" "[[I") (mu mw_822)) (fun _ h9 => h9) rfl dX0_hold_8 ?_
    refine lv_bipush (v := (9 : Int32)) hx hb dX0_hold_11 (by decide) ?_
    refine lv_iload_n hx hb dX0_hold_13 rfl (lv_at hl 0 rfl) ?_
    refine lv_iadd hx hb dX0_hold_14 ?_
    obtain ⟨x12, ex12, hF⟩ := ltt_some hF
    refine lv_topi (fun zx12 ezx12 => ?_)
    obtain rfl : x12 = zx12 := ex12.trans ezx12.symm
    obtain ⟨b13, ho13, hc13, hk13, hF⟩ := dr_some hF
    refine W_st (st' := [.int x12, .ref (ad b13)]) (by rw [va_some ho13]) ?_
    obtain ⟨hvc, hF⟩ := chk_some hF
    refine ld_g hx hb hK hP hc13 hk13 hvc dX0_hold_15 ?_
    refine lv_iconst (v := (0 : Int32)) hx hb dX0_hold_16 (by decide) ?_
    refine lv_aload_n hx hb dX0_hold_17 rfl (lv_at hl 1 rfl) ?_
    refine va_get (D := D) (ci := 0) (v := va_re ad (s2.2.2 a 8)) (C := RX0) (T := TX0) (N := 21) hx hb hts (mus hf_X0) hown hK hP a (wld_o ct ad G s2.2 hc hk (by decide)) rfl 8 (by decide) (hts (.fieldLink RX0 66 "VideoSuite$Coder" "planes" "[[I") (mu mw_822)) (fun _ h9 => h9) rfl dX0_hold_18 ?_
    refine lv_iconst (v := (3 : Int32)) hx hb dX0_hold_21 (by decide) ?_
    refine lv_aload_n hx hb dX0_hold_22 rfl (lv_at hl 1 rfl) ?_
    refine va_get (D := D) (ci := 0) (v := .int (s2.2.1 a 10)) (C := RX0) (T := TX0) (N := 21) hx hb hts (mus hf_X0) hown hK hP a (wld_o ct ad G s2.2 hc hk (by decide)) rfl 10 (by decide) (hts (.fieldLink RX0 100 "VideoSuite$Coder" "waiting" "I") (mu mw_824)) (fun _ h9 => h9) rfl dX0_hold_23 ?_
    obtain ⟨x14, ex14, hF⟩ := ltt_some hF
    refine lv_topi (fun zx14 ezx14 => ?_)
    obtain rfl : x14 = zx14 := ex14.trans ezx14.symm
    refine lv_imul hx hb dX0_hold_26 ?_
    obtain ⟨x15, ex15, hF⟩ := ltt_some hF
    refine lv_topi (fun zx15 ezx15 => ?_)
    obtain rfl : x15 = zx15 := ex15.trans ezx15.symm
    refine lv_iload_n hx hb dX0_hold_27 rfl (lv_at hl 0 rfl) ?_
    refine lv_iadd hx hb dX0_hold_28 ?_
    obtain ⟨x16, ex16, hF⟩ := ltt_some hF
    refine lv_topi (fun zx16 ezx16 => ?_)
    obtain rfl : x16 = zx16 := ex16.trans ezx16.symm
    refine W_st (st' := [.int x16, .ref (ad b13), .int (0 : Int32), va_re ad (s2.2.2 b13 x12.toNatClampNeg)]) (by rw [va_some ho13]) ?_
    obtain ⟨hvc, hF⟩ := chk_some hF
    refine ld_g hx hb hK hP hc13 hk13 hvc dX0_hold_29 ?_
    refine lv_iconst (v := (0 : Int32)) hx hb dX0_hold_30 (by decide) ?_
    refine lv_aload_n hx hb dX0_hold_31 rfl (lv_at hl 1 rfl) ?_
    refine lv_iload_n hx hb dX0_hold_32 rfl (lv_at hl 0 rfl) ?_
    obtain ⟨y17, hy17, hF⟩ := bnd_some hF
    have hf9 := wA_in hD hA9 hS
    refine va_calli (va_runV (As := [.int s2.1]) (rest := [.int (0 : Int32), va_re ad (s2.2.2 b13 x16.toNatClampNeg), .int (0 : Int32), va_re ad (s2.2.2 b13 x12.toNatClampNeg)]) ⟨hx, hb, hml, hown, hts⟩ (kX0_wide l D ct ad Z G s2.2 H.size a s2.1 y17 hc hk hy17) (cwV 1 hts gX0_hold_X0_wide rfl rfl rfl (by decide +kernel) ⟨Nat.le_of_ble_eq_true rfl, Nat.le_of_ble_eq_true rfl⟩) ⟨fun a U g mk q => by obtain ⟨q0, q1, qP, qK, qD, qZ, qN⟩ := q; exact ⟨q0, q1, qP, va_K.moved (u := U) (U := U.calling g mk a) (Vm.Alike.refl U.vm) qK, qD, sF.moved (u := U) (U := U.calling g mk a) (Vm.Alike.refl U.vm) qZ, nF.same rfl qN⟩, va_recv hK hP (ci := 0) (q0 := a) rfl (wld_o ct ad G s2.2 hc hk (by decide)), fun U hU hW => ⟨rfl, by rw [hU], by rw [hU]; exact hP, va_K.moved hW.alike hK, hD.weaken (fun _ _ _ _ => trivial), by rw [hU]; exact ((hZ.kept hS.2.1).narrow hf9).moved hW.alike, hN.warm hW⟩⟩ rfl rfl hl.1 rfl (lv_room (by simp only [List.map, va_re_cat]; exact Nat.le_of_ble_eq_true rfl)) dX0_hold_33 ⟨(Nat.zero_le _), (Nat.zero_le _)⟩) hS (fun q _ h => hf9 q h) hf9 (fun r u t H locs ht hvm hw hB hz1 hk1 hS => ?_)
    obtain ⟨hP, hK9, hD9⟩ := hB
    rw [ht] at hP
    try dsimp only at hw
    subst hw
    have hD := hD9.weaken (fun _ q _ h => hf9 q.1 h)
    refine lv_aload_n hx hb dX0_hold_36 rfl (lv_at hl 1 rfl) ?_
    refine lv_iload_n hx hb dX0_hold_37 rfl (lv_at hl 0 rfl) ?_
    obtain ⟨y18, hy18, hF⟩ := bnd_some hF
    have hf9 := wA_in hD hA9 hS
    refine va_calli (va_runV (As := [.int s2.1]) (rest := [.int y17.2, .int (0 : Int32), va_re ad (s2.2.2 b13 x16.toNatClampNeg), .int (0 : Int32), va_re ad (s2.2.2 b13 x12.toNatClampNeg)]) ⟨hx, hb, hml, hown, hts⟩ (kX0_high l D ct ad Z G y17.1 H.size a s2.1 y18 hc hk hy18) (cwV 1 hts gX0_hold_X0_high rfl rfl rfl (by decide +kernel) ⟨Nat.le_of_ble_eq_true rfl, Nat.le_of_ble_eq_true rfl⟩) ⟨fun a U g mk q => by obtain ⟨q0, q1, qP, qK, qD, qZ, qN⟩ := q; exact ⟨q0, q1, qP, va_K.moved (u := U) (U := U.calling g mk a) (Vm.Alike.refl U.vm) qK, qD, sF.moved (u := U) (U := U.calling g mk a) (Vm.Alike.refl U.vm) qZ, nF.same rfl qN⟩, va_recv hK hP (ci := 0) (q0 := a) rfl (wld_o ct ad G y17.1 hc hk (by decide)), fun U hU hW => ⟨rfl, by rw [hU], by rw [hU]; exact hP, va_K.moved hW.alike hK, hD.weaken (fun _ _ _ _ => trivial), by rw [hU]; exact ((hZ.kept hS.2.1).narrow hf9).moved hW.alike, hN.warm hW⟩⟩ rfl rfl hl.1 rfl (lv_room (by simp only [List.map, va_re_cat]; exact Nat.le_of_ble_eq_true rfl)) dX0_hold_38 ⟨(Nat.zero_le _), (Nat.zero_le _)⟩) hS (fun q _ h => hf9 q h) hf9 (fun r u t H locs ht hvm hw hB hz1 hk1 hS => ?_)
    obtain ⟨hP, hK9, hD9⟩ := hB
    rw [ht] at hP
    try dsimp only at hw
    subst hw
    have hD := hD9.weaken (fun _ q _ h => hf9 q.1 h)
    refine lv_imul hx hb dX0_hold_41 ?_
    obtain ⟨x19, ex19, hF⟩ := ltt_some hF
    refine lv_topi (fun zx19 ezx19 => ?_)
    obtain rfl : x19 = zx19 := ex19.trans ezx19.symm
    obtain ⟨b20, ho20, hc20, hk20, hF⟩ := dr_some hF
    refine W_st (st' := [.int x19, .int (0 : Int32), va_re ad (s2.2.2 b13 x16.toNatClampNeg), .int (0 : Int32), .ref (ad b20)]) (by rw [va_some ho20]) ?_
    obtain ⟨b21, ho21, hc21, hk21, hF⟩ := dr_some hF
    refine W_st (st' := [.int x19, .int (0 : Int32), .ref (ad b21), .int (0 : Int32), .ref (ad b20)]) (by rw [va_some ho21]) ?_
    obtain ⟨hv9, hF⟩ := chk_some hF
    refine va_copyi (ty := .int) hx hb (hml.trans hl.1.symm) hown (hts (.methodLink RX0 94 arraycopyName) (mu mw_1115)) (hts (.native arraycopyName) (mu mw_1093)) (hts (.static arraycopyName) (mu mw_1092)) (hts (.initialized "java/lang/System") (mu mw_181)) hK hP hD hS b20 b21 1 1 (wld_i ct ad G y18.1 hc20 hk20) (wld_i ct ad G y18.1 hc21 hk21) rfl rfl rfl hv9.1 hv9.2.1 hv9.2.2.1 hv9.2.2.2.1 hv9.2.2.2.2 (fun _ _ => rfl) (Nat.le_of_ble_eq_true rfl) (by decide +kernel) dX0_hold_42 (fun H locs hP hD hS => ?_)
    obtain ⟨M22, eM22, hF⟩ := ltt_some hF
    rw [set_ri ct ad G y18.1 hc21 hk21, ← eM22] at hP hD
    obtain ⟨x23, ex23, hF⟩ := ltt_some hF
    refine lv_iinc (v := x23) (lv' := [(1, .int x23), (0, .ref (ad a))]) hx hb dX0_hold_45 hl (k := 0) rfl (by rw [ex23]; rfl) (by decide) rfl (fun ls hl => ?_)
    refine lv_goto (tgt := 2) hx hb dX0_hold_48 (by decide) ?_
    obtain rfl := Option.some.inj hF
    exact hwz10 _ _ _ hP hD hS (lv_sub hl [0, 1] rfl)
set_option maxRecDepth 20000 in
theorem gX0_init_X10_init_n28 : GoodIn wuX0_init wuX10_init := gu_P mw_733
set_option maxRecDepth 20000 in
set_option maxRecDepth 20000 in
theorem gX0_init_X9_init_n35 : GoodIn wuX0_init wuX9_init := gu_P mw_416
set_option maxRecDepth 20000 in
set_option maxRecDepth 20000 in
theorem gX0_init_X6_init_n42 : GoodIn wuX0_init wuX6_init := gu_P mw_531
set_option maxRecDepth 20000 in
set_option maxRecDepth 20000 in
theorem gX0_init_X2_init_n49 : GoodIn wuX0_init wuX2_init := gu_P mw_583
set_option maxRecDepth 20000 in
set_option maxRecDepth 20000 in
theorem gX0_init_X7_init_n56 : GoodIn wuX0_init wuX7_init := gu_P mw_349
set_option maxRecDepth 20000 in
set_option maxRecDepth 20000 in
theorem gX0_init_X3_init_n80 : GoodIn wuX0_init wuX3_init := gu_P mw_613
theorem dX0_init_0 : decode cX0_init 0 = .ok (.aload_n 0, 1) := by decide +kernel
theorem dX0_init_1 : decode cX0_init 1 = .ok (.invokespecial 3, 3) := by decide +kernel
theorem dX0_init_4 : decode cX0_init 4 = .ok (.aload_n 0, 1) := by decide +kernel
theorem dX0_init_5 : decode cX0_init 5 = .ok (.getstatic 9, 3) := by decide +kernel
theorem dX0_init_8 : decode cX0_init 8 = .ok (.invokevirtual 15, 3) := by decide +kernel
theorem dX0_init_11 : decode cX0_init 11 = .ok (.checkcast 16, 3) := by decide +kernel
theorem dX0_init_14 : decode cX0_init 14 = .ok (.putfield 20, 3) := by decide +kernel
theorem dX0_init_17 : decode cX0_init 17 = .ok (.aload_n 0, 1) := by decide +kernel
theorem dX0_init_18 : decode cX0_init 18 = .ok (.bipush 24, 2) := by decide +kernel
theorem dX0_init_20 : decode cX0_init 20 = .ok (.newarray .int, 2) := by decide +kernel
theorem dX0_init_22 : decode cX0_init 22 = .ok (.putfield 23, 3) := by decide +kernel
theorem dX0_init_25 : decode cX0_init 25 = .ok (.aload_n 0, 1) := by decide +kernel
theorem dX0_init_26 : decode cX0_init 26 = .ok (.new 26, 3) := by decide +kernel
theorem dX0_init_29 : decode cX0_init 29 = .ok (.dup, 1) := by decide +kernel
theorem dX0_init_30 : decode cX0_init 30 = .ok (.invokespecial 28, 3) := by decide +kernel
theorem dX0_init_33 : decode cX0_init 33 = .ok (.putfield 29, 3) := by decide +kernel
theorem dX0_init_36 : decode cX0_init 36 = .ok (.aload_n 0, 1) := by decide +kernel
theorem dX0_init_37 : decode cX0_init 37 = .ok (.new 33, 3) := by decide +kernel
theorem dX0_init_40 : decode cX0_init 40 = .ok (.dup, 1) := by decide +kernel
theorem dX0_init_41 : decode cX0_init 41 = .ok (.invokespecial 35, 3) := by decide +kernel
theorem dX0_init_44 : decode cX0_init 44 = .ok (.putfield 36, 3) := by decide +kernel
theorem dX0_init_47 : decode cX0_init 47 = .ok (.aload_n 0, 1) := by decide +kernel
theorem dX0_init_48 : decode cX0_init 48 = .ok (.new 40, 3) := by decide +kernel
theorem dX0_init_51 : decode cX0_init 51 = .ok (.dup, 1) := by decide +kernel
theorem dX0_init_52 : decode cX0_init 52 = .ok (.invokespecial 42, 3) := by decide +kernel
theorem dX0_init_55 : decode cX0_init 55 = .ok (.putfield 43, 3) := by decide +kernel
theorem dX0_init_58 : decode cX0_init 58 = .ok (.aload_n 0, 1) := by decide +kernel
theorem dX0_init_59 : decode cX0_init 59 = .ok (.new 47, 3) := by decide +kernel
theorem dX0_init_62 : decode cX0_init 62 = .ok (.dup, 1) := by decide +kernel
theorem dX0_init_63 : decode cX0_init 63 = .ok (.invokespecial 49, 3) := by decide +kernel
theorem dX0_init_66 : decode cX0_init 66 = .ok (.putfield 50, 3) := by decide +kernel
theorem dX0_init_69 : decode cX0_init 69 = .ok (.aload_n 0, 1) := by decide +kernel
theorem dX0_init_70 : decode cX0_init 70 = .ok (.new 54, 3) := by decide +kernel
theorem dX0_init_73 : decode cX0_init 73 = .ok (.dup, 1) := by decide +kernel
theorem dX0_init_74 : decode cX0_init 74 = .ok (.invokespecial 56, 3) := by decide +kernel
theorem dX0_init_77 : decode cX0_init 77 = .ok (.putfield 57, 3) := by decide +kernel
theorem dX0_init_80 : decode cX0_init 80 = .ok (.aload_n 0, 1) := by decide +kernel
theorem dX0_init_81 : decode cX0_init 81 = .ok (.bipush 24, 2) := by decide +kernel
theorem dX0_init_83 : decode cX0_init 83 = .ok (.newarray .int, 2) := by decide +kernel
theorem dX0_init_85 : decode cX0_init 85 = .ok (.putfield 61, 3) := by decide +kernel
theorem dX0_init_88 : decode cX0_init 88 = .ok (.aload_n 0, 1) := by decide +kernel
theorem dX0_init_89 : decode cX0_init 89 = .ok (.bipush 12, 2) := by decide +kernel
theorem dX0_init_91 : decode cX0_init 91 = .ok (.iconst 0, 1) := by decide +kernel
theorem dX0_init_92 : decode cX0_init 92 = .ok (.multianewarray 64 2, 4) := by decide +kernel
theorem dX0_init_96 : decode cX0_init 96 = .ok (.putfield 66, 3) := by decide +kernel
theorem dX0_init_99 : decode cX0_init 99 = .ok (.aload_n 0, 1) := by decide +kernel
theorem dX0_init_100 : decode cX0_init 100 = .ok (.iconst 3, 1) := by decide +kernel
theorem dX0_init_101 : decode cX0_init 101 = .ok (.iconst 0, 1) := by decide +kernel
theorem dX0_init_102 : decode cX0_init 102 = .ok (.multianewarray 64 2, 4) := by decide +kernel
theorem dX0_init_106 : decode cX0_init 106 = .ok (.putfield 69, 3) := by decide +kernel
theorem dX0_init_109 : decode cX0_init 109 = .ok (.aload_n 0, 1) := by decide +kernel
theorem dX0_init_110 : decode cX0_init 110 = .ok (.sipush 420, 3) := by decide +kernel
theorem dX0_init_113 : decode cX0_init 113 = .ok (.newarray .int, 2) := by decide +kernel
theorem dX0_init_115 : decode cX0_init 115 = .ok (.putfield 72, 3) := by decide +kernel
theorem dX0_init_118 : decode cX0_init 118 = .ok (.aload_n 0, 1) := by decide +kernel
theorem dX0_init_119 : decode cX0_init 119 = .ok (.bipush 29, 2) := by decide +kernel
theorem dX0_init_121 : decode cX0_init 121 = .ok (.newarray .int, 2) := by decide +kernel
theorem dX0_init_123 : decode cX0_init 123 = .ok (.putfield 75, 3) := by decide +kernel
theorem dX0_init_126 : decode cX0_init 126 = .ok (.aload_n 0, 1) := by decide +kernel
theorem dX0_init_127 : decode cX0_init 127 = .ok (.getfield 36, 3) := by decide +kernel
theorem dX0_init_130 : decode cX0_init 130 = .ok (.new 78, 3) := by decide +kernel
theorem dX0_init_133 : decode cX0_init 133 = .ok (.dup, 1) := by decide +kernel
theorem dX0_init_134 : decode cX0_init 134 = .ok (.invokespecial 80, 3) := by decide +kernel
theorem dX0_init_137 : decode cX0_init 137 = .ok (.putfield 81, 3) := by decide +kernel
theorem dX0_init_140 : decode cX0_init 140 = .ok (.aload_n 0, 1) := by decide +kernel
theorem dX0_init_141 : decode cX0_init 141 = .ok (.getfield 36, 3) := by decide +kernel
theorem dX0_init_144 : decode cX0_init 144 = .ok (.bipush 12, 2) := by decide +kernel
theorem dX0_init_146 : decode cX0_init 146 = .ok (.newarray .int, 2) := by decide +kernel
theorem dX0_init_148 : decode cX0_init 148 = .ok (.putfield 85, 3) := by decide +kernel
theorem dX0_init_151 : decode cX0_init 151 = .ok (.return_, 1) := by decide +kernel
noncomputable def FX0_init (G : GG) (M : DD) (a : Nat)  : Option (NN × DD) :=
  chkP (Clo (xt G []) M) <|
  ltt ((xt G []).1) fun c2 =>
  app [(13, 24)] <|
  ltt ([] ++ [(13, 24)]) fun L4 =>
  ltt (rI (rO M c2) c2 (fun j => (sT 0).getD j 0)) fun M5 =>
  ltt (uP M5 a 0 (some c2)) fun M8 =>
  chkP (Clo (xt G L4) M8) <|
  chk (¬ ((24 : Int32)) < 0 ∧ ((24 : Int32)).toNatClampNeg * 4 ≤ 536870912) <|
  ltt ((xt G L4).1) fun c10 =>
  app [(13, ((24 : Int32)).toNatClampNeg)] <|
  ltt (L4 ++ [(13, ((24 : Int32)).toNatClampNeg)]) fun L12 =>
  ltt (rO M8 c10) fun M13 =>
  ltt (uP M13 a 1 (some c10)) fun M16 =>
  chkP (Clo (xt G L12) M16) <|
  ltt ((xt G L12).1) fun c18 =>
  app [(10, 0)] <|
  ltt (L12 ++ [(10, 0)]) fun L20 =>
  ltt (rO M16 c18) fun M21 =>
  bnd (FX10_init (xt G L20) M21 c18) fun y24 =>
  app y24.1 <|
  ltt (L20 ++ y24.1) fun L26 =>
  ltt (uP y24.2 a 2 (some c18)) fun M29 =>
  chkP (Clo (xt G L26) M29) <|
  ltt ((xt G L26).1) fun c31 =>
  app [(9, 0)] <|
  ltt (L26 ++ [(9, 0)]) fun L33 =>
  ltt (rO M29 c31) fun M34 =>
  bnd (FX9_init (xt G L33) M34 c31) fun y37 =>
  app y37.1 <|
  ltt (L33 ++ y37.1) fun L39 =>
  ltt (uP y37.2 a 3 (some c31)) fun M42 =>
  chkP (Clo (xt G L39) M42) <|
  ltt ((xt G L39).1) fun c44 =>
  app [(6, 0)] <|
  ltt (L39 ++ [(6, 0)]) fun L46 =>
  ltt (rO M42 c44) fun M47 =>
  bnd (FX6_init (xt G L46) M47 c44) fun y50 =>
  app y50.1 <|
  ltt (L46 ++ y50.1) fun L52 =>
  ltt (uP y50.2 a 4 (some c44)) fun M55 =>
  chkP (Clo (xt G L52) M55) <|
  ltt ((xt G L52).1) fun c57 =>
  app [(2, 0)] <|
  ltt (L52 ++ [(2, 0)]) fun L59 =>
  ltt (rO M55 c57) fun M60 =>
  bnd (FX2_init (xt G L59) M60 c57) fun y63 =>
  app y63.1 <|
  ltt (L59 ++ y63.1) fun L65 =>
  ltt (uP y63.2 a 5 (some c57)) fun M68 =>
  chkP (Clo (xt G L65) M68) <|
  ltt ((xt G L65).1) fun c70 =>
  app [(7, 0)] <|
  ltt (L65 ++ [(7, 0)]) fun L72 =>
  ltt (rO M68 c70) fun M73 =>
  bnd (FX7_init (xt G L72) M73 c70) fun y76 =>
  app y76.1 <|
  ltt (L72 ++ y76.1) fun L78 =>
  ltt (uP y76.2 a 6 (some c70)) fun M81 =>
  chkP (Clo (xt G L78) M81) <|
  chk (¬ ((24 : Int32)) < 0 ∧ ((24 : Int32)).toNatClampNeg * 4 ≤ 536870912) <|
  ltt ((xt G L78).1) fun c83 =>
  app [(13, ((24 : Int32)).toNatClampNeg)] <|
  ltt (L78 ++ [(13, ((24 : Int32)).toNatClampNeg)]) fun L85 =>
  ltt (rO M81 c83) fun M86 =>
  ltt (uP M86 a 7 (some c83)) fun M89 =>
  chkP (Clo (xt G L85) M89) <|
  ltt ((xt G L85).1) fun c91 =>
  app (mrel 12 0) <|
  ltt (L85 ++ mrel 12 0) fun L93 =>
  ltt (mM M89 c91 12) fun M94 =>
  ltt (uP M94 a 8 (some c91)) fun M97 =>
  chkP (Clo (xt G L93) M97) <|
  ltt ((xt G L93).1) fun c99 =>
  app (mrel 3 0) <|
  ltt (L93 ++ mrel 3 0) fun L101 =>
  ltt (mM M97 c99 3) fun M102 =>
  ltt (uP M102 a 9 (some c99)) fun M105 =>
  chkP (Clo (xt G L101) M105) <|
  chk (¬ ((420 : Int32)) < 0 ∧ ((420 : Int32)).toNatClampNeg * 4 ≤ 536870912) <|
  ltt ((xt G L101).1) fun c107 =>
  app [(13, ((420 : Int32)).toNatClampNeg)] <|
  ltt (L101 ++ [(13, ((420 : Int32)).toNatClampNeg)]) fun L109 =>
  ltt (rO M105 c107) fun M110 =>
  ltt (uP M110 a 17 (some c107)) fun M113 =>
  chkP (Clo (xt G L109) M113) <|
  chk (¬ ((29 : Int32)) < 0 ∧ ((29 : Int32)).toNatClampNeg * 4 ≤ 536870912) <|
  ltt ((xt G L109).1) fun c115 =>
  app [(13, ((29 : Int32)).toNatClampNeg)] <|
  ltt (L109 ++ [(13, ((29 : Int32)).toNatClampNeg)]) fun L117 =>
  ltt (rO M113 c115) fun M118 =>
  ltt (uP M118 a 20 (some c115)) fun M121 =>
  chkP (Clo (xt G L117) M121) <|
  chk (okd (xt G L117) ((M121.2 a 3)) = true) <|
  ltt ((xt G L117).1) fun c124 =>
  app [(3, 0)] <|
  ltt (L117 ++ [(3, 0)]) fun L126 =>
  ltt (rO M121 c124) fun M127 =>
  chk (okd (xt G L126) ((M121.2 a 3)) = true) <|
  bnd (FX3_init (xt G L126) M127 c124) fun y130 =>
  app y130.1 <|
  ltt (L126 ++ y130.1) fun L133 =>
  dr (xt G L133) 9 ((M121.2 a 3)) fun b136 =>
  ltt (uP y130.2 b136 1 (some c124)) fun M137 =>
  chkP (Clo (xt G L133) M137) <|
  chk (¬ ((12 : Int32)) < 0 ∧ ((12 : Int32)).toNatClampNeg * 4 ≤ 536870912) <|
  chk (okd (xt G L133) ((M137.2 a 3)) = true) <|
  ltt ((xt G L133).1) fun c140 =>
  app [(13, ((12 : Int32)).toNatClampNeg)] <|
  ltt (L133 ++ [(13, ((12 : Int32)).toNatClampNeg)]) fun L142 =>
  ltt (rO M137 c140) fun M143 =>
  dr (xt G L142) 9 ((M137.2 a 3)) fun b146 =>
  ltt (uP M143 b146 2 (some c140)) fun M147 =>
  some ([], M147)
set_option maxHeartbeats 4000000 in
set_option maxRecDepth 100000 in
theorem kX0_init (l : Launch) (D : va_G) (ct : CT) (ad : Nat → Nat) (Z : Nat → Nat) (G : GG) (M : DD) (sz : Nat) (a : Nat)  (y : NN × DD) (hc : a < G.1) (hk : G.2.1 a = 0) (hF : FX0_init G M a  = some y) : Met l yX0_init wuX0_init ({ frames := 2, cells := y.1.length, slots := wt y.1, locals := 40 }) (va_Pc [.ref (ad a)] (kB D ct ad Z G M sz)) (va_Qv (fun (u : Nat → Nat) => agr G.1 ad u) (fun u t => kE D ct u (xt G y.1) (wA ad G sz) y.2 t) (wA ad G sz)) y.1.length (wt y.1) (wA ad G sz) := by
  refine Met.ofW (cc := cX0_init) (maxL := 1) (ret := none) (by decide) rfl ?_
  intro p e s m args below meth c s₁ B hml hv
  obtain ⟨rfl, hsz, hP, hK, hD0, hZ, hN⟩ := hv
  have hx := B.exec
  have hb := B.bytes
  have hr := B.returns
  have hts := atoms_spec (ws := wuX0_init) B.pre
  have hown : s.vm.findClass RX0 = some m.cls := findClass_of_methodNamed B.named
  have hlocks := B.notSynchronized
  have hin : meth.name = "<init>" := (name_of_methodNamed B.named B.method).1
  subst hsz
  have hD := wD_self (sz := s.heap.size) hD0
  have hA9 : ∀ q, s.heap.size ≤ q → wA ad G s.heap.size q := fun q h => Or.inr h
  generalize hAe : wA ad G s.heap.size = A at hD hA9 hZ ⊢
  have hS : va_S A s.heap s.heap [] := va_S.rf
  have hl := lv_entry ([.ref (ad a)]) (n := 1) (Nat.le_of_ble_eq_true rfl)
  rw [lg_entry_eq]
  generalize (lg_sl ([.ref (ad a)]) ++ List.replicate (1 - (lg_sl ([.ref (ad a)])).length) Slot.unset).toArray = ls at hl ⊢
  have hl : lv_has ls 1 [(0, .ref (ad a))] := hl
  unfold FX0_init at hF
  rw [← wld_0 ct ad G M] at hP hD
  have hk := xt_k0 hc hk
  have hc := xt_l0 hc
  have hag := agr_rf G.1 ad
  obtain ⟨w0, hw0⟩ : ∃ z, z = y := ⟨_, rfl⟩
  rw [← hw0] at hF
  have hT : y.1 = [] ++ w0.1 := by rw [hw0]; rfl
  have h2 : y.2 = w0.2 := by rw [hw0]
  have hbl : y.1.length ≤ y.1.length ∧ wt y.1 ≤ wt y.1 := ⟨Nat.le_refl _, Nat.le_refl _⟩
  refine lv_aload_n hx hb dX0_init_0 rfl (lv_at hl 0 rfl) ?_
  refine W.objInit hx hb hown (hts (.methodLink RX0 3 objectInit) (mu mw_719)) (hts (.instanceMethod objectInit) (mu mw_202)) (hts (.code objectInit ⟨#[0xb1]⟩ 1 none) (mu mw_203)) rfl (by rw [hml]; exact hl.1) rfl dX0_init_1 (Nat.le_of_ble_eq_true rfl) (Nat.le_of_ble_eq_true rfl) ?_
  refine W.eq (g2 := F0 m 4 ls []) rfl ?_
  refine lv_aload_n hx hb dX0_init_4 rfl (lv_at hl 0 rfl) ?_
  refine va_gets hx hb (hZ.1 0 (by decide)).1 hS hown (hts (.fieldLink RX0 9 "VideoSuite$Coder" "AT_FIRST" "[I") (mu mw_720)) (fun _ h => h) dX0_init_5 ?_
  obtain ⟨hC1, hF⟩ := chkP_some hF
  obtain ⟨c2, ec2, hF⟩ := ltt_some hF
  obtain ⟨w3, hF, ew3⟩ := app_some hF
  obtain ⟨L4, eL4, hF⟩ := ltt_some hF
  have hT4 : y.1 = ([] ++ [(13, 24)]) ++ w3.1 := by rw [hT, ew3]; simp only [List.append_assoc]
  obtain ⟨M5, eM5, hF⟩ := ltt_some hF
  refine new_c (Z := Z) hx hb (hml.trans hl.1.symm) hown (hts (.methodLink RX0 15 ⟨"[I", "clone", "()Ljava/lang/Object;"⟩) (mu mw_722)) (hts (.sameMethod "[I" "java/lang/Object" "clone" "()Ljava/lang/Object;") (mu mw_723)) (hts (.native ⟨"java/lang/Object", "clone", "()Ljava/lang/Object;"⟩) (mu mw_724)) (hts (.instanceMethod ⟨"java/lang/Object", "clone", "()Ljava/lang/Object;"⟩) (mu mw_725)) (hts (.selects "[I" ⟨"[I", "clone", "()Ljava/lang/Object;"⟩ ⟨"java/lang/Object", "clone", "()Ljava/lang/Object;"⟩) (mu mw_726)) hN.2.2.2 hZ hK hP hD hS hA9 hC1 (Nat.le_of_ble_eq_true rfl) (Nat.le_of_ble_eq_true rfl) (room_1s hT4 hbl) dX0_init_8 (fun ad6 H hn7 hP hD hS => ?_)
  rw [← ec2, ← eL4] at hP hD
  rw [← eM5] at hP hD
  refine W_cs (k := L4.length) (n := wt L4) (by rw [eL4]) (by rw [eL4]) ?_
  refine W_st (st' := [.ref (ad6 c2), .ref (ad a)]) (by rw [ec2]) ?_
  have hT : y.1 = L4 ++ w3.1 := by rw [hT4, eL4]
  have h2 : y.2 = w3.2 := by rw [h2, ew3]
  have hl := lv_sub (l' := [(0, .ref (ad a))]) hl [0] rfl
  have e9 : ([(0, .ref (ad a))] : List (Nat × Value)) = [(0, .ref (ad6 a))] := (by first | rfl | simp only [hn7 a hc])
  rw [e9] at hl
  clear e9
  refine W_st (st' := [.ref (ad6 c2), .ref (ad6 a)]) (by first | rfl | simp only [hn7 a hc]) ?_
  have hk : (xt G L4).2.1 a = 0 := by rw [eL4]; exact xt_k _ hc hk
  have hc : a < (xt G L4).1 := by rw [eL4]; exact xt_l _ hc
  have hag := agr_t (xt_ge _ _) hag hn7
  have hc2 : c2 < (xt G L4).1 := by rw [ec2, eL4]; exact cnt_new _ _ _
  have hk2 : (xt G L4).2.1 c2 = 13 := by rw [ec2, eL4]; exact (kind_new _ _ _ _).1
  refine va_castA hx hb hown (hts (.classLink RX0 16 "[I") (mu mw_728)) hP c2 (wld_i ct ad6 (xt G L4) M5 hc2 hk2) (hK.2 1 (ct.2.1, .int) rfl).2 dX0_init_11 ?_
  refine va_putF (D := D) (ci := 0) (v := va_re ad6 (some c2)) (ty := (.array .int)) (C := RX0) (T := TX0) (N := 21) hx hb hts (mus hf_X0) tyX0 tyX0_ok nmX0 hown hK hP hD hS a (wld_o ct ad6 (xt G L4) M5 hc hk (by decide)) rfl 0 (by decide) (hts (.fieldLink RX0 20 "VideoSuite$Coder" "setting" "[I") (mu mw_811)) (fun _ h9 => h9) rfl hin rfl (by decide +kernel) (nar_q ad6 (Or.inr ⟨_, rfl⟩) (some c2)).1 (nar_q ad6 (Or.inr ⟨_, rfl⟩) (some c2)).2 (Nat.le_of_ble_eq_true rfl) dX0_init_14 (fun H locs hP hD hS => ?_)
  obtain ⟨M8, eM8, hF⟩ := ltt_some hF
  rw [set_oP ct ad6 (xt G L4) M5 hc hk (by decide) (by rfl), ← eM8] at hP hD
  refine lv_aload_n hx hb dX0_init_17 rfl (lv_at hl 0 rfl) ?_
  refine lv_bipush (v := (24 : Int32)) hx hb dX0_init_18 (by decide) ?_
  obtain ⟨hC9, hF⟩ := chkP_some hF
  obtain ⟨hz9, hF⟩ := chk_some hF
  obtain ⟨c10, ec10, hF⟩ := ltt_some hF
  obtain ⟨w11, hF, ew11⟩ := app_some hF
  obtain ⟨L12, eL12, hF⟩ := ltt_some hF
  have hT12 : y.1 = (L4 ++ [(13, ((24 : Int32)).toNatClampNeg)]) ++ w11.1 := by rw [hT, ew11]; simp only [List.append_assoc]
  obtain ⟨M13, eM13, hF⟩ := ltt_some hF
  refine new_i hx hb (hts (.arrayClass .int) (mu mw_266)) hK hP hD hS hA9 hz9.1 hz9.2 hC9 (room_1s hT12 hbl) dX0_init_20 (fun ad14 H hn15 hP hD hS => ?_)
  rw [← ec10, ← eL12, ← eM13] at hP hD
  refine W_cs (k := L12.length) (n := wt L12) (by rw [eL12]) (by rw [eL12]) ?_
  refine W_st (st' := [.ref (ad14 c10), .ref (ad6 a)]) (by rw [ec10]) ?_
  have hT : y.1 = L12 ++ w11.1 := by rw [hT12, eL12]
  have h2 : y.2 = w11.2 := by rw [h2, ew11]
  have hl := lv_sub (l' := [(0, .ref (ad6 a))]) hl [0] rfl
  have e9 : ([(0, .ref (ad6 a))] : List (Nat × Value)) = [(0, .ref (ad14 a))] := (by first | rfl | simp only [hn15 a hc])
  rw [e9] at hl
  clear e9
  refine W_st (st' := [.ref (ad14 c10), .ref (ad14 a)]) (by first | rfl | simp only [hn15 a hc]) ?_
  have hk : (xt G L12).2.1 a = 0 := by rw [eL12]; exact xt_k _ hc hk
  have hc : a < (xt G L12).1 := by rw [eL12]; exact xt_l _ hc
  have hk2 : (xt G L12).2.1 c2 = 13 := by rw [eL12]; exact xt_k _ hc2 hk2
  have hc2 : c2 < (xt G L12).1 := by rw [eL12]; exact xt_l _ hc2
  have hag := agr_t (xt_ge _ _) hag hn15
  have hc10 : c10 < (xt G L12).1 := by rw [ec10, eL12]; exact cnt_new _ _ _
  have hk10 : (xt G L12).2.1 c10 = 13 := by rw [ec10, eL12]; exact (kind_new _ _ _ _).1
  refine va_putF (D := D) (ci := 0) (v := va_re ad14 (some c10)) (ty := (.array .int)) (C := RX0) (T := TX0) (N := 21) hx hb hts (mus hf_X0) tyX0 tyX0_ok nmX0 hown hK hP hD hS a (wld_o ct ad14 (xt G L12) M13 hc hk (by decide)) rfl 1 (by decide) (hts (.fieldLink RX0 23 "VideoSuite$Coder" "now" "[I") (mu mw_813)) (fun _ h9 => h9) rfl hin rfl (by decide +kernel) (nar_q ad14 (Or.inr ⟨_, rfl⟩) (some c10)).1 (nar_q ad14 (Or.inr ⟨_, rfl⟩) (some c10)).2 (Nat.le_of_ble_eq_true rfl) dX0_init_22 (fun H locs hP hD hS => ?_)
  obtain ⟨M16, eM16, hF⟩ := ltt_some hF
  rw [set_oP ct ad14 (xt G L12) M13 hc hk (by decide) (by rfl), ← eM16] at hP hD
  refine lv_aload_n hx hb dX0_init_25 rfl (lv_at hl 0 rfl) ?_
  obtain ⟨hC17, hF⟩ := chkP_some hF
  obtain ⟨c18, ec18, hF⟩ := ltt_some hF
  obtain ⟨w19, hF, ew19⟩ := app_some hF
  obtain ⟨L20, eL20, hF⟩ := ltt_some hF
  have hT20 : y.1 = (L12 ++ [(10, 0)]) ++ w19.1 := by rw [hT, ew19]; simp only [List.append_assoc]
  obtain ⟨M21, eM21, hF⟩ := ltt_some hF
  refine new_o (T := TX10) (κ := 10) hx hb hts (mus hf_X10) tyX10 tyX10_ok hown (hts (.classLink RX0 26 RX10) (mu mw_729)) (hts (.instantiable RX10 20) (mu mw_730)) (hts (.initialized RX10) (mu mw_176)) hK hP hD hS hA9 rfl (by decide) rfl dfX10 hC17 (room_1s hT20 hbl) dX0_init_26 (fun ad22 H hn23 hP hD hS => ?_)
  rw [← ec18, ← eL20, ← eM21] at hP hD
  refine W_cs (k := L20.length) (n := wt L20) (by rw [eL20]) (by rw [eL20]) ?_
  refine W_st (st' := [.ref (ad22 c18), .ref (ad14 a)]) (by rw [ec18]) ?_
  have hT : y.1 = L20 ++ w19.1 := by rw [hT20, eL20]
  have h2 : y.2 = w19.2 := by rw [h2, ew19]
  have hl := lv_sub (l' := [(0, .ref (ad14 a))]) hl [0] rfl
  have e9 : ([(0, .ref (ad14 a))] : List (Nat × Value)) = [(0, .ref (ad22 a))] := (by first | rfl | simp only [hn23 a hc])
  rw [e9] at hl
  clear e9
  refine W_st (st' := [.ref (ad22 c18), .ref (ad22 a)]) (by first | rfl | simp only [hn23 a hc]) ?_
  have hk : (xt G L20).2.1 a = 0 := by rw [eL20]; exact xt_k _ hc hk
  have hc : a < (xt G L20).1 := by rw [eL20]; exact xt_l _ hc
  have hk2 : (xt G L20).2.1 c2 = 13 := by rw [eL20]; exact xt_k _ hc2 hk2
  have hc2 : c2 < (xt G L20).1 := by rw [eL20]; exact xt_l _ hc2
  have hk10 : (xt G L20).2.1 c10 = 13 := by rw [eL20]; exact xt_k _ hc10 hk10
  have hc10 : c10 < (xt G L20).1 := by rw [eL20]; exact xt_l _ hc10
  have hag := agr_t (xt_ge _ _) hag hn23
  have hc18 : c18 < (xt G L20).1 := by rw [ec18, eL20]; exact cnt_new _ _ _
  have hk18 : (xt G L20).2.1 c18 = 10 := by rw [ec18, eL20]; exact (kind_new _ _ _ _).1
  refine lv_dup hx hb dX0_init_29 rfl ?_
  obtain ⟨y24, hy24, hF⟩ := bnd_some hF
  obtain ⟨w25, hF, ew25⟩ := app_some hF
  obtain ⟨L26, eL26, hF⟩ := ltt_some hF
  have hT26 : y.1 = (L20 ++ y24.1) ++ w25.1 := by rw [hT, ew25]; simp only [List.append_assoc]
  have hf9 := wA_in hD hA9 hS
  refine va_callv (va_runIN (As := []) (rest := [.ref (ad22 c18), .ref (ad22 a)]) ⟨hx, hb, hml, hown, hts⟩ (kX10_init l D ct ad22 Z (xt G L20) M21 _ c18 y24 hc18 hk18 hy24) ⟨va_cnB 0 hts gX0_init_X10_init_n28 rfl rfl rfl (hN.1 (RX0, 28, yX10_init, RX11) (List.mem_of_getElem? (i := 4) rfl)) (hts (.initialized RX10) (mu mw_176)) (by decide +kernel) ⟨Nat.le_of_ble_eq_true rfl, Nat.le_of_ble_eq_true rfl⟩, rfl, (hts (.instanceMethod yX10_init) (mu mw_732))⟩ ⟨fun a U g mk q => by obtain ⟨q0, q1, qP, qK, qD, qZ, qN⟩ := q; exact ⟨q0, q1, qP, va_K.moved (u := U) (U := U.calling g mk a) (Vm.Alike.refl U.vm) qK, qD, sF.moved (u := U) (U := U.calling g mk a) (Vm.Alike.refl U.vm) qZ, nF.same rfl qN⟩, fun U hU hW => ⟨rfl, by rw [hU], by rw [hU]; exact hP, va_K.moved hW.alike hK, hD.weaken (fun _ _ _ _ => trivial), by rw [hU]; exact ((hZ.kept hS.2.1).narrow hf9).moved hW.alike, hN.warm hW⟩⟩ rfl rfl hl.1 rfl (lv_room (Nat.le_of_ble_eq_true rfl)) dX0_init_30 (room_s hT26 hbl)) hS (fun q _ h => hf9 q h) hf9 (fun ad27 t H locs ht hvm hw hB hz1 hk1 hS => ?_)
  have hn28 := hw
  obtain ⟨hP, hK9, hD9⟩ := hB
  rw [ht] at hP
  have hD := hD9.weaken (fun _ q _ h => hf9 q.1 h)
  rw [xt_xt, ← eL26] at hP hD
  refine W_cs (k := L26.length) (n := wt L26) (by rw [eL26]; exact (len_s L20 y24.1).symm) (by rw [eL26]; exact (wt_app L20 y24.1).symm) ?_
  have hT : y.1 = L26 ++ w25.1 := by rw [hT26, eL26]
  have h2 : y.2 = w25.2 := by rw [h2, ew25]
  have hl := lv_sub (l' := [(0, .ref (ad22 a))]) hl [0] rfl
  have e9 : ([(0, .ref (ad22 a))] : List (Nat × Value)) = [(0, .ref (ad27 a))] := (by first | rfl | simp only [hn28 a hc])
  rw [e9] at hl
  clear e9
  refine W_st (st' := [.ref (ad27 c18), .ref (ad27 a)]) (by first | rfl | simp only [hn28 c18 hc18, hn28 a hc]) ?_
  have hk : (xt G L26).2.1 a = 0 := by rw [eL26]; exact xt_k _ hc hk
  have hc : a < (xt G L26).1 := by rw [eL26]; exact xt_l _ hc
  have hk2 : (xt G L26).2.1 c2 = 13 := by rw [eL26]; exact xt_k _ hc2 hk2
  have hc2 : c2 < (xt G L26).1 := by rw [eL26]; exact xt_l _ hc2
  have hk10 : (xt G L26).2.1 c10 = 13 := by rw [eL26]; exact xt_k _ hc10 hk10
  have hc10 : c10 < (xt G L26).1 := by rw [eL26]; exact xt_l _ hc10
  have hk18 : (xt G L26).2.1 c18 = 10 := by rw [eL26]; exact xt_k _ hc18 hk18
  have hc18 : c18 < (xt G L26).1 := by rw [eL26]; exact xt_l _ hc18
  have hag := agr_t (xt_ge _ _) hag hn28
  refine va_putF (D := D) (ci := 0) (v := va_re ad27 (some c18)) (ty := (.object "VideoSuite$Writer")) (C := RX0) (T := TX0) (N := 21) hx hb hts (mus hf_X0) tyX0 tyX0_ok nmX0 hown hK hP hD hS a (wld_o ct ad27 (xt G L26) y24.2 hc hk (by decide)) rfl 2 (by decide) (hts (.fieldLink RX0 29 "VideoSuite$Coder" "writer" "LVideoSuite$Writer;") (mu mw_815)) (fun _ h9 => h9) rfl hin rfl (by decide +kernel) (nar_q ad27 (Or.inl ⟨_, rfl⟩) (some c18)).1 (nar_q ad27 (Or.inl ⟨_, rfl⟩) (some c18)).2 (Nat.le_of_ble_eq_true rfl) dX0_init_33 (fun H locs hP hD hS => ?_)
  obtain ⟨M29, eM29, hF⟩ := ltt_some hF
  rw [set_oP ct ad27 (xt G L26) y24.2 hc hk (by decide) (by rfl), ← eM29] at hP hD
  refine lv_aload_n hx hb dX0_init_36 rfl (lv_at hl 0 rfl) ?_
  obtain ⟨hC30, hF⟩ := chkP_some hF
  obtain ⟨c31, ec31, hF⟩ := ltt_some hF
  obtain ⟨w32, hF, ew32⟩ := app_some hF
  obtain ⟨L33, eL33, hF⟩ := ltt_some hF
  have hT33 : y.1 = (L26 ++ [(9, 0)]) ++ w32.1 := by rw [hT, ew32]; simp only [List.append_assoc]
  obtain ⟨M34, eM34, hF⟩ := ltt_some hF
  refine new_o (T := TX9) (κ := 9) hx hb hts (mus hf_X9) tyX9 tyX9_ok hown (hts (.classLink RX0 33 RX9) (mu mw_800)) (hts (.instantiable RX9 20) (mu mw_413)) (hts (.initialized RX9) (mu mw_171)) hK hP hD hS hA9 rfl (by decide) rfl dfX9 hC30 (room_1s hT33 hbl) dX0_init_37 (fun ad35 H hn36 hP hD hS => ?_)
  rw [← ec31, ← eL33, ← eM34] at hP hD
  refine W_cs (k := L33.length) (n := wt L33) (by rw [eL33]) (by rw [eL33]) ?_
  refine W_st (st' := [.ref (ad35 c31), .ref (ad27 a)]) (by rw [ec31]) ?_
  have hT : y.1 = L33 ++ w32.1 := by rw [hT33, eL33]
  have h2 : y.2 = w32.2 := by rw [h2, ew32]
  have hl := lv_sub (l' := [(0, .ref (ad27 a))]) hl [0] rfl
  have e9 : ([(0, .ref (ad27 a))] : List (Nat × Value)) = [(0, .ref (ad35 a))] := (by first | rfl | simp only [hn36 a hc])
  rw [e9] at hl
  clear e9
  refine W_st (st' := [.ref (ad35 c31), .ref (ad35 a)]) (by first | rfl | simp only [hn36 a hc]) ?_
  have hk : (xt G L33).2.1 a = 0 := by rw [eL33]; exact xt_k _ hc hk
  have hc : a < (xt G L33).1 := by rw [eL33]; exact xt_l _ hc
  have hk2 : (xt G L33).2.1 c2 = 13 := by rw [eL33]; exact xt_k _ hc2 hk2
  have hc2 : c2 < (xt G L33).1 := by rw [eL33]; exact xt_l _ hc2
  have hk10 : (xt G L33).2.1 c10 = 13 := by rw [eL33]; exact xt_k _ hc10 hk10
  have hc10 : c10 < (xt G L33).1 := by rw [eL33]; exact xt_l _ hc10
  have hk18 : (xt G L33).2.1 c18 = 10 := by rw [eL33]; exact xt_k _ hc18 hk18
  have hc18 : c18 < (xt G L33).1 := by rw [eL33]; exact xt_l _ hc18
  have hag := agr_t (xt_ge _ _) hag hn36
  have hc31 : c31 < (xt G L33).1 := by rw [ec31, eL33]; exact cnt_new _ _ _
  have hk31 : (xt G L33).2.1 c31 = 9 := by rw [ec31, eL33]; exact (kind_new _ _ _ _).1
  refine lv_dup hx hb dX0_init_40 rfl ?_
  obtain ⟨y37, hy37, hF⟩ := bnd_some hF
  obtain ⟨w38, hF, ew38⟩ := app_some hF
  obtain ⟨L39, eL39, hF⟩ := ltt_some hF
  have hT39 : y.1 = (L33 ++ y37.1) ++ w38.1 := by rw [hT, ew38]; simp only [List.append_assoc]
  have hf9 := wA_in hD hA9 hS
  refine va_callv (va_runIN (As := []) (rest := [.ref (ad35 c31), .ref (ad35 a)]) ⟨hx, hb, hml, hown, hts⟩ (kX9_init l D ct ad35 Z (xt G L33) M34 _ c31 y37 hc31 hk31 hy37) ⟨va_cnB 0 hts gX0_init_X9_init_n35 rfl rfl rfl (hN.1 (RX0, 35, yX9_init, RX11) (List.mem_of_getElem? (i := 6) rfl)) (hts (.initialized RX9) (mu mw_171)) (by decide +kernel) ⟨Nat.le_of_ble_eq_true rfl, Nat.le_of_ble_eq_true rfl⟩, rfl, (hts (.instanceMethod yX9_init) (mu mw_415))⟩ ⟨fun a U g mk q => by obtain ⟨q0, q1, qP, qK, qD, qZ, qN⟩ := q; exact ⟨q0, q1, qP, va_K.moved (u := U) (U := U.calling g mk a) (Vm.Alike.refl U.vm) qK, qD, sF.moved (u := U) (U := U.calling g mk a) (Vm.Alike.refl U.vm) qZ, nF.same rfl qN⟩, fun U hU hW => ⟨rfl, by rw [hU], by rw [hU]; exact hP, va_K.moved hW.alike hK, hD.weaken (fun _ _ _ _ => trivial), by rw [hU]; exact ((hZ.kept hS.2.1).narrow hf9).moved hW.alike, hN.warm hW⟩⟩ rfl rfl hl.1 rfl (lv_room (Nat.le_of_ble_eq_true rfl)) dX0_init_41 (room_s hT39 hbl)) hS (fun q _ h => hf9 q h) hf9 (fun ad40 t H locs ht hvm hw hB hz1 hk1 hS => ?_)
  have hn41 := hw
  obtain ⟨hP, hK9, hD9⟩ := hB
  rw [ht] at hP
  have hD := hD9.weaken (fun _ q _ h => hf9 q.1 h)
  rw [xt_xt, ← eL39] at hP hD
  refine W_cs (k := L39.length) (n := wt L39) (by rw [eL39]; exact (len_s L33 y37.1).symm) (by rw [eL39]; exact (wt_app L33 y37.1).symm) ?_
  have hT : y.1 = L39 ++ w38.1 := by rw [hT39, eL39]
  have h2 : y.2 = w38.2 := by rw [h2, ew38]
  have hl := lv_sub (l' := [(0, .ref (ad35 a))]) hl [0] rfl
  have e9 : ([(0, .ref (ad35 a))] : List (Nat × Value)) = [(0, .ref (ad40 a))] := (by first | rfl | simp only [hn41 a hc])
  rw [e9] at hl
  clear e9
  refine W_st (st' := [.ref (ad40 c31), .ref (ad40 a)]) (by first | rfl | simp only [hn41 c31 hc31, hn41 a hc]) ?_
  have hk : (xt G L39).2.1 a = 0 := by rw [eL39]; exact xt_k _ hc hk
  have hc : a < (xt G L39).1 := by rw [eL39]; exact xt_l _ hc
  have hk2 : (xt G L39).2.1 c2 = 13 := by rw [eL39]; exact xt_k _ hc2 hk2
  have hc2 : c2 < (xt G L39).1 := by rw [eL39]; exact xt_l _ hc2
  have hk10 : (xt G L39).2.1 c10 = 13 := by rw [eL39]; exact xt_k _ hc10 hk10
  have hc10 : c10 < (xt G L39).1 := by rw [eL39]; exact xt_l _ hc10
  have hk18 : (xt G L39).2.1 c18 = 10 := by rw [eL39]; exact xt_k _ hc18 hk18
  have hc18 : c18 < (xt G L39).1 := by rw [eL39]; exact xt_l _ hc18
  have hk31 : (xt G L39).2.1 c31 = 9 := by rw [eL39]; exact xt_k _ hc31 hk31
  have hc31 : c31 < (xt G L39).1 := by rw [eL39]; exact xt_l _ hc31
  have hag := agr_t (xt_ge _ _) hag hn41
  refine va_putF (D := D) (ci := 0) (v := va_re ad40 (some c31)) (ty := (.object "VideoSuite$Work")) (C := RX0) (T := TX0) (N := 21) hx hb hts (mus hf_X0) tyX0 tyX0_ok nmX0 hown hK hP hD hS a (wld_o ct ad40 (xt G L39) y37.2 hc hk (by decide)) rfl 3 (by decide) (hts (.fieldLink RX0 36 "VideoSuite$Coder" "work" "LVideoSuite$Work;") (mu mw_817)) (fun _ h9 => h9) rfl hin rfl (by decide +kernel) (nar_q ad40 (Or.inl ⟨_, rfl⟩) (some c31)).1 (nar_q ad40 (Or.inl ⟨_, rfl⟩) (some c31)).2 (Nat.le_of_ble_eq_true rfl) dX0_init_44 (fun H locs hP hD hS => ?_)
  obtain ⟨M42, eM42, hF⟩ := ltt_some hF
  rw [set_oP ct ad40 (xt G L39) y37.2 hc hk (by decide) (by rfl), ← eM42] at hP hD
  refine lv_aload_n hx hb dX0_init_47 rfl (lv_at hl 0 rfl) ?_
  obtain ⟨hC43, hF⟩ := chkP_some hF
  obtain ⟨c44, ec44, hF⟩ := ltt_some hF
  obtain ⟨w45, hF, ew45⟩ := app_some hF
  obtain ⟨L46, eL46, hF⟩ := ltt_some hF
  have hT46 : y.1 = (L39 ++ [(6, 0)]) ++ w45.1 := by rw [hT, ew45]; simp only [List.append_assoc]
  obtain ⟨M47, eM47, hF⟩ := ltt_some hF
  refine new_o (T := TX6) (κ := 6) hx hb hts (mus hf_X6) tyX6 tyX6_ok hown (hts (.classLink RX0 40 RX6) (mu mw_802)) (hts (.instantiable RX6 14) (mu mw_528)) (hts (.initialized RX6) (mu mw_172)) hK hP hD hS hA9 rfl (by decide) rfl dfX6 hC43 (room_1s hT46 hbl) dX0_init_48 (fun ad48 H hn49 hP hD hS => ?_)
  rw [← ec44, ← eL46, ← eM47] at hP hD
  refine W_cs (k := L46.length) (n := wt L46) (by rw [eL46]) (by rw [eL46]) ?_
  refine W_st (st' := [.ref (ad48 c44), .ref (ad40 a)]) (by rw [ec44]) ?_
  have hT : y.1 = L46 ++ w45.1 := by rw [hT46, eL46]
  have h2 : y.2 = w45.2 := by rw [h2, ew45]
  have hl := lv_sub (l' := [(0, .ref (ad40 a))]) hl [0] rfl
  have e9 : ([(0, .ref (ad40 a))] : List (Nat × Value)) = [(0, .ref (ad48 a))] := (by first | rfl | simp only [hn49 a hc])
  rw [e9] at hl
  clear e9
  refine W_st (st' := [.ref (ad48 c44), .ref (ad48 a)]) (by first | rfl | simp only [hn49 a hc]) ?_
  have hk : (xt G L46).2.1 a = 0 := by rw [eL46]; exact xt_k _ hc hk
  have hc : a < (xt G L46).1 := by rw [eL46]; exact xt_l _ hc
  have hk2 : (xt G L46).2.1 c2 = 13 := by rw [eL46]; exact xt_k _ hc2 hk2
  have hc2 : c2 < (xt G L46).1 := by rw [eL46]; exact xt_l _ hc2
  have hk10 : (xt G L46).2.1 c10 = 13 := by rw [eL46]; exact xt_k _ hc10 hk10
  have hc10 : c10 < (xt G L46).1 := by rw [eL46]; exact xt_l _ hc10
  have hk18 : (xt G L46).2.1 c18 = 10 := by rw [eL46]; exact xt_k _ hc18 hk18
  have hc18 : c18 < (xt G L46).1 := by rw [eL46]; exact xt_l _ hc18
  have hk31 : (xt G L46).2.1 c31 = 9 := by rw [eL46]; exact xt_k _ hc31 hk31
  have hc31 : c31 < (xt G L46).1 := by rw [eL46]; exact xt_l _ hc31
  have hag := agr_t (xt_ge _ _) hag hn49
  have hc44 : c44 < (xt G L46).1 := by rw [ec44, eL46]; exact cnt_new _ _ _
  have hk44 : (xt G L46).2.1 c44 = 6 := by rw [ec44, eL46]; exact (kind_new _ _ _ _).1
  refine lv_dup hx hb dX0_init_51 rfl ?_
  obtain ⟨y50, hy50, hF⟩ := bnd_some hF
  obtain ⟨w51, hF, ew51⟩ := app_some hF
  obtain ⟨L52, eL52, hF⟩ := ltt_some hF
  have hT52 : y.1 = (L46 ++ y50.1) ++ w51.1 := by rw [hT, ew51]; simp only [List.append_assoc]
  have hf9 := wA_in hD hA9 hS
  refine va_callv (va_runIN (As := []) (rest := [.ref (ad48 c44), .ref (ad48 a)]) ⟨hx, hb, hml, hown, hts⟩ (kX6_init l D ct ad48 Z (xt G L46) M47 _ c44 y50 hc44 hk44 hy50) ⟨va_cnB 0 hts gX0_init_X6_init_n42 rfl rfl rfl (hN.1 (RX0, 42, yX6_init, RX11) (List.mem_of_getElem? (i := 7) rfl)) (hts (.initialized RX6) (mu mw_172)) (by decide +kernel) ⟨Nat.le_of_ble_eq_true rfl, Nat.le_of_ble_eq_true rfl⟩, rfl, (hts (.instanceMethod yX6_init) (mu mw_530))⟩ ⟨fun a U g mk q => by obtain ⟨q0, q1, qP, qK, qD, qZ, qN⟩ := q; exact ⟨q0, q1, qP, va_K.moved (u := U) (U := U.calling g mk a) (Vm.Alike.refl U.vm) qK, qD, sF.moved (u := U) (U := U.calling g mk a) (Vm.Alike.refl U.vm) qZ, nF.same rfl qN⟩, fun U hU hW => ⟨rfl, by rw [hU], by rw [hU]; exact hP, va_K.moved hW.alike hK, hD.weaken (fun _ _ _ _ => trivial), by rw [hU]; exact ((hZ.kept hS.2.1).narrow hf9).moved hW.alike, hN.warm hW⟩⟩ rfl rfl hl.1 rfl (lv_room (Nat.le_of_ble_eq_true rfl)) dX0_init_52 (room_s hT52 hbl)) hS (fun q _ h => hf9 q h) hf9 (fun ad53 t H locs ht hvm hw hB hz1 hk1 hS => ?_)
  have hn54 := hw
  obtain ⟨hP, hK9, hD9⟩ := hB
  rw [ht] at hP
  have hD := hD9.weaken (fun _ q _ h => hf9 q.1 h)
  rw [xt_xt, ← eL52] at hP hD
  refine W_cs (k := L52.length) (n := wt L52) (by rw [eL52]; exact (len_s L46 y50.1).symm) (by rw [eL52]; exact (wt_app L46 y50.1).symm) ?_
  have hT : y.1 = L52 ++ w51.1 := by rw [hT52, eL52]
  have h2 : y.2 = w51.2 := by rw [h2, ew51]
  have hl := lv_sub (l' := [(0, .ref (ad48 a))]) hl [0] rfl
  have e9 : ([(0, .ref (ad48 a))] : List (Nat × Value)) = [(0, .ref (ad53 a))] := (by first | rfl | simp only [hn54 a hc])
  rw [e9] at hl
  clear e9
  refine W_st (st' := [.ref (ad53 c44), .ref (ad53 a)]) (by first | rfl | simp only [hn54 c44 hc44, hn54 a hc]) ?_
  have hk : (xt G L52).2.1 a = 0 := by rw [eL52]; exact xt_k _ hc hk
  have hc : a < (xt G L52).1 := by rw [eL52]; exact xt_l _ hc
  have hk2 : (xt G L52).2.1 c2 = 13 := by rw [eL52]; exact xt_k _ hc2 hk2
  have hc2 : c2 < (xt G L52).1 := by rw [eL52]; exact xt_l _ hc2
  have hk10 : (xt G L52).2.1 c10 = 13 := by rw [eL52]; exact xt_k _ hc10 hk10
  have hc10 : c10 < (xt G L52).1 := by rw [eL52]; exact xt_l _ hc10
  have hk18 : (xt G L52).2.1 c18 = 10 := by rw [eL52]; exact xt_k _ hc18 hk18
  have hc18 : c18 < (xt G L52).1 := by rw [eL52]; exact xt_l _ hc18
  have hk31 : (xt G L52).2.1 c31 = 9 := by rw [eL52]; exact xt_k _ hc31 hk31
  have hc31 : c31 < (xt G L52).1 := by rw [eL52]; exact xt_l _ hc31
  have hk44 : (xt G L52).2.1 c44 = 6 := by rw [eL52]; exact xt_k _ hc44 hk44
  have hc44 : c44 < (xt G L52).1 := by rw [eL52]; exact xt_l _ hc44
  have hag := agr_t (xt_ge _ _) hag hn54
  refine va_putF (D := D) (ci := 0) (v := va_re ad53 (some c44)) (ty := (.object "VideoSuite$Samples")) (C := RX0) (T := TX0) (N := 21) hx hb hts (mus hf_X0) tyX0 tyX0_ok nmX0 hown hK hP hD hS a (wld_o ct ad53 (xt G L52) y50.2 hc hk (by decide)) rfl 4 (by decide) (hts (.fieldLink RX0 43 "VideoSuite$Coder" "samples" "LVideoSuite$Samples;") (mu mw_818)) (fun _ h9 => h9) rfl hin rfl (by decide +kernel) (nar_q ad53 (Or.inl ⟨_, rfl⟩) (some c44)).1 (nar_q ad53 (Or.inl ⟨_, rfl⟩) (some c44)).2 (Nat.le_of_ble_eq_true rfl) dX0_init_55 (fun H locs hP hD hS => ?_)
  obtain ⟨M55, eM55, hF⟩ := ltt_some hF
  rw [set_oP ct ad53 (xt G L52) y50.2 hc hk (by decide) (by rfl), ← eM55] at hP hD
  refine lv_aload_n hx hb dX0_init_58 rfl (lv_at hl 0 rfl) ?_
  obtain ⟨hC56, hF⟩ := chkP_some hF
  obtain ⟨c57, ec57, hF⟩ := ltt_some hF
  obtain ⟨w58, hF, ew58⟩ := app_some hF
  obtain ⟨L59, eL59, hF⟩ := ltt_some hF
  have hT59 : y.1 = (L52 ++ [(2, 0)]) ++ w58.1 := by rw [hT, ew58]; simp only [List.append_assoc]
  obtain ⟨M60, eM60, hF⟩ := ltt_some hF
  refine new_o (T := TX2) (κ := 2) hx hb hts (mus hf_X2) tyX2 tyX2_ok hown (hts (.classLink RX0 47 RX2) (mu mw_804)) (hts (.instantiable RX2 7) (mu mw_580)) (hts (.initialized RX2) (mu mw_173)) hK hP hD hS hA9 rfl (by decide) rfl dfX2 hC56 (room_1s hT59 hbl) dX0_init_59 (fun ad61 H hn62 hP hD hS => ?_)
  rw [← ec57, ← eL59, ← eM60] at hP hD
  refine W_cs (k := L59.length) (n := wt L59) (by rw [eL59]) (by rw [eL59]) ?_
  refine W_st (st' := [.ref (ad61 c57), .ref (ad53 a)]) (by rw [ec57]) ?_
  have hT : y.1 = L59 ++ w58.1 := by rw [hT59, eL59]
  have h2 : y.2 = w58.2 := by rw [h2, ew58]
  have hl := lv_sub (l' := [(0, .ref (ad53 a))]) hl [0] rfl
  have e9 : ([(0, .ref (ad53 a))] : List (Nat × Value)) = [(0, .ref (ad61 a))] := (by first | rfl | simp only [hn62 a hc])
  rw [e9] at hl
  clear e9
  refine W_st (st' := [.ref (ad61 c57), .ref (ad61 a)]) (by first | rfl | simp only [hn62 a hc]) ?_
  have hk : (xt G L59).2.1 a = 0 := by rw [eL59]; exact xt_k _ hc hk
  have hc : a < (xt G L59).1 := by rw [eL59]; exact xt_l _ hc
  have hk2 : (xt G L59).2.1 c2 = 13 := by rw [eL59]; exact xt_k _ hc2 hk2
  have hc2 : c2 < (xt G L59).1 := by rw [eL59]; exact xt_l _ hc2
  have hk10 : (xt G L59).2.1 c10 = 13 := by rw [eL59]; exact xt_k _ hc10 hk10
  have hc10 : c10 < (xt G L59).1 := by rw [eL59]; exact xt_l _ hc10
  have hk18 : (xt G L59).2.1 c18 = 10 := by rw [eL59]; exact xt_k _ hc18 hk18
  have hc18 : c18 < (xt G L59).1 := by rw [eL59]; exact xt_l _ hc18
  have hk31 : (xt G L59).2.1 c31 = 9 := by rw [eL59]; exact xt_k _ hc31 hk31
  have hc31 : c31 < (xt G L59).1 := by rw [eL59]; exact xt_l _ hc31
  have hk44 : (xt G L59).2.1 c44 = 6 := by rw [eL59]; exact xt_k _ hc44 hk44
  have hc44 : c44 < (xt G L59).1 := by rw [eL59]; exact xt_l _ hc44
  have hag := agr_t (xt_ge _ _) hag hn62
  have hc57 : c57 < (xt G L59).1 := by rw [ec57, eL59]; exact cnt_new _ _ _
  have hk57 : (xt G L59).2.1 c57 = 2 := by rw [ec57, eL59]; exact (kind_new _ _ _ _).1
  refine lv_dup hx hb dX0_init_62 rfl ?_
  obtain ⟨y63, hy63, hF⟩ := bnd_some hF
  obtain ⟨w64, hF, ew64⟩ := app_some hF
  obtain ⟨L65, eL65, hF⟩ := ltt_some hF
  have hT65 : y.1 = (L59 ++ y63.1) ++ w64.1 := by rw [hT, ew64]; simp only [List.append_assoc]
  have hf9 := wA_in hD hA9 hS
  refine va_callv (va_runIN (As := []) (rest := [.ref (ad61 c57), .ref (ad61 a)]) ⟨hx, hb, hml, hown, hts⟩ (kX2_init l D ct ad61 Z (xt G L59) M60 _ c57 y63 hc57 hk57 hy63) ⟨va_cnB 0 hts gX0_init_X2_init_n49 rfl rfl rfl (hN.1 (RX0, 49, yX2_init, RX11) (List.mem_of_getElem? (i := 8) rfl)) (hts (.initialized RX2) (mu mw_173)) (by decide +kernel) ⟨Nat.le_of_ble_eq_true rfl, Nat.le_of_ble_eq_true rfl⟩, rfl, (hts (.instanceMethod yX2_init) (mu mw_582))⟩ ⟨fun a U g mk q => by obtain ⟨q0, q1, qP, qK, qD, qZ, qN⟩ := q; exact ⟨q0, q1, qP, va_K.moved (u := U) (U := U.calling g mk a) (Vm.Alike.refl U.vm) qK, qD, sF.moved (u := U) (U := U.calling g mk a) (Vm.Alike.refl U.vm) qZ, nF.same rfl qN⟩, fun U hU hW => ⟨rfl, by rw [hU], by rw [hU]; exact hP, va_K.moved hW.alike hK, hD.weaken (fun _ _ _ _ => trivial), by rw [hU]; exact ((hZ.kept hS.2.1).narrow hf9).moved hW.alike, hN.warm hW⟩⟩ rfl rfl hl.1 rfl (lv_room (Nat.le_of_ble_eq_true rfl)) dX0_init_63 (room_s hT65 hbl)) hS (fun q _ h => hf9 q h) hf9 (fun ad66 t H locs ht hvm hw hB hz1 hk1 hS => ?_)
  have hn67 := hw
  obtain ⟨hP, hK9, hD9⟩ := hB
  rw [ht] at hP
  have hD := hD9.weaken (fun _ q _ h => hf9 q.1 h)
  rw [xt_xt, ← eL65] at hP hD
  refine W_cs (k := L65.length) (n := wt L65) (by rw [eL65]; exact (len_s L59 y63.1).symm) (by rw [eL65]; exact (wt_app L59 y63.1).symm) ?_
  have hT : y.1 = L65 ++ w64.1 := by rw [hT65, eL65]
  have h2 : y.2 = w64.2 := by rw [h2, ew64]
  have hl := lv_sub (l' := [(0, .ref (ad61 a))]) hl [0] rfl
  have e9 : ([(0, .ref (ad61 a))] : List (Nat × Value)) = [(0, .ref (ad66 a))] := (by first | rfl | simp only [hn67 a hc])
  rw [e9] at hl
  clear e9
  refine W_st (st' := [.ref (ad66 c57), .ref (ad66 a)]) (by first | rfl | simp only [hn67 c57 hc57, hn67 a hc]) ?_
  have hk : (xt G L65).2.1 a = 0 := by rw [eL65]; exact xt_k _ hc hk
  have hc : a < (xt G L65).1 := by rw [eL65]; exact xt_l _ hc
  have hk2 : (xt G L65).2.1 c2 = 13 := by rw [eL65]; exact xt_k _ hc2 hk2
  have hc2 : c2 < (xt G L65).1 := by rw [eL65]; exact xt_l _ hc2
  have hk10 : (xt G L65).2.1 c10 = 13 := by rw [eL65]; exact xt_k _ hc10 hk10
  have hc10 : c10 < (xt G L65).1 := by rw [eL65]; exact xt_l _ hc10
  have hk18 : (xt G L65).2.1 c18 = 10 := by rw [eL65]; exact xt_k _ hc18 hk18
  have hc18 : c18 < (xt G L65).1 := by rw [eL65]; exact xt_l _ hc18
  have hk31 : (xt G L65).2.1 c31 = 9 := by rw [eL65]; exact xt_k _ hc31 hk31
  have hc31 : c31 < (xt G L65).1 := by rw [eL65]; exact xt_l _ hc31
  have hk44 : (xt G L65).2.1 c44 = 6 := by rw [eL65]; exact xt_k _ hc44 hk44
  have hc44 : c44 < (xt G L65).1 := by rw [eL65]; exact xt_l _ hc44
  have hk57 : (xt G L65).2.1 c57 = 2 := by rw [eL65]; exact xt_k _ hc57 hk57
  have hc57 : c57 < (xt G L65).1 := by rw [eL65]; exact xt_l _ hc57
  have hag := agr_t (xt_ge _ _) hag hn67
  refine va_putF (D := D) (ci := 0) (v := va_re ad66 (some c57)) (ty := (.object "VideoSuite$Edges")) (C := RX0) (T := TX0) (N := 21) hx hb hts (mus hf_X0) tyX0 tyX0_ok nmX0 hown hK hP hD hS a (wld_o ct ad66 (xt G L65) y63.2 hc hk (by decide)) rfl 5 (by decide) (hts (.fieldLink RX0 50 "VideoSuite$Coder" "edges" "LVideoSuite$Edges;") (mu mw_819)) (fun _ h9 => h9) rfl hin rfl (by decide +kernel) (nar_q ad66 (Or.inl ⟨_, rfl⟩) (some c57)).1 (nar_q ad66 (Or.inl ⟨_, rfl⟩) (some c57)).2 (Nat.le_of_ble_eq_true rfl) dX0_init_66 (fun H locs hP hD hS => ?_)
  obtain ⟨M68, eM68, hF⟩ := ltt_some hF
  rw [set_oP ct ad66 (xt G L65) y63.2 hc hk (by decide) (by rfl), ← eM68] at hP hD
  refine lv_aload_n hx hb dX0_init_69 rfl (lv_at hl 0 rfl) ?_
  obtain ⟨hC69, hF⟩ := chkP_some hF
  obtain ⟨c70, ec70, hF⟩ := ltt_some hF
  obtain ⟨w71, hF, ew71⟩ := app_some hF
  obtain ⟨L72, eL72, hF⟩ := ltt_some hF
  have hT72 : y.1 = (L65 ++ [(7, 0)]) ++ w71.1 := by rw [hT, ew71]; simp only [List.append_assoc]
  obtain ⟨M73, eM73, hF⟩ := ltt_some hF
  refine new_o (T := TX7) (κ := 7) hx hb hts (mus hf_X7) tyX7 tyX7_ok hown (hts (.classLink RX0 54 RX7) (mu mw_806)) (hts (.instantiable RX7 17) (mu mw_346)) (hts (.initialized RX7) (mu mw_170)) hK hP hD hS hA9 rfl (by decide) rfl dfX7 hC69 (room_1s hT72 hbl) dX0_init_70 (fun ad74 H hn75 hP hD hS => ?_)
  rw [← ec70, ← eL72, ← eM73] at hP hD
  refine W_cs (k := L72.length) (n := wt L72) (by rw [eL72]) (by rw [eL72]) ?_
  refine W_st (st' := [.ref (ad74 c70), .ref (ad66 a)]) (by rw [ec70]) ?_
  have hT : y.1 = L72 ++ w71.1 := by rw [hT72, eL72]
  have h2 : y.2 = w71.2 := by rw [h2, ew71]
  have hl := lv_sub (l' := [(0, .ref (ad66 a))]) hl [0] rfl
  have e9 : ([(0, .ref (ad66 a))] : List (Nat × Value)) = [(0, .ref (ad74 a))] := (by first | rfl | simp only [hn75 a hc])
  rw [e9] at hl
  clear e9
  refine W_st (st' := [.ref (ad74 c70), .ref (ad74 a)]) (by first | rfl | simp only [hn75 a hc]) ?_
  have hk : (xt G L72).2.1 a = 0 := by rw [eL72]; exact xt_k _ hc hk
  have hc : a < (xt G L72).1 := by rw [eL72]; exact xt_l _ hc
  have hk2 : (xt G L72).2.1 c2 = 13 := by rw [eL72]; exact xt_k _ hc2 hk2
  have hc2 : c2 < (xt G L72).1 := by rw [eL72]; exact xt_l _ hc2
  have hk10 : (xt G L72).2.1 c10 = 13 := by rw [eL72]; exact xt_k _ hc10 hk10
  have hc10 : c10 < (xt G L72).1 := by rw [eL72]; exact xt_l _ hc10
  have hk18 : (xt G L72).2.1 c18 = 10 := by rw [eL72]; exact xt_k _ hc18 hk18
  have hc18 : c18 < (xt G L72).1 := by rw [eL72]; exact xt_l _ hc18
  have hk31 : (xt G L72).2.1 c31 = 9 := by rw [eL72]; exact xt_k _ hc31 hk31
  have hc31 : c31 < (xt G L72).1 := by rw [eL72]; exact xt_l _ hc31
  have hk44 : (xt G L72).2.1 c44 = 6 := by rw [eL72]; exact xt_k _ hc44 hk44
  have hc44 : c44 < (xt G L72).1 := by rw [eL72]; exact xt_l _ hc44
  have hk57 : (xt G L72).2.1 c57 = 2 := by rw [eL72]; exact xt_k _ hc57 hk57
  have hc57 : c57 < (xt G L72).1 := by rw [eL72]; exact xt_l _ hc57
  have hag := agr_t (xt_ge _ _) hag hn75
  have hc70 : c70 < (xt G L72).1 := by rw [ec70, eL72]; exact cnt_new _ _ _
  have hk70 : (xt G L72).2.1 c70 = 7 := by rw [ec70, eL72]; exact (kind_new _ _ _ _).1
  refine lv_dup hx hb dX0_init_73 rfl ?_
  obtain ⟨y76, hy76, hF⟩ := bnd_some hF
  obtain ⟨w77, hF, ew77⟩ := app_some hF
  obtain ⟨L78, eL78, hF⟩ := ltt_some hF
  have hT78 : y.1 = (L72 ++ y76.1) ++ w77.1 := by rw [hT, ew77]; simp only [List.append_assoc]
  have hf9 := wA_in hD hA9 hS
  refine va_callv (va_runIN (As := []) (rest := [.ref (ad74 c70), .ref (ad74 a)]) ⟨hx, hb, hml, hown, hts⟩ (kX7_init l D ct ad74 Z (xt G L72) M73 _ c70 y76 hc70 hk70 hy76) ⟨va_cnB 0 hts gX0_init_X7_init_n56 rfl rfl rfl (hN.1 (RX0, 56, yX7_init, RX11) (List.mem_of_getElem? (i := 9) rfl)) (hts (.initialized RX7) (mu mw_170)) (by decide +kernel) ⟨Nat.le_of_ble_eq_true rfl, Nat.le_of_ble_eq_true rfl⟩, rfl, (hts (.instanceMethod yX7_init) (mu mw_348))⟩ ⟨fun a U g mk q => by obtain ⟨q0, q1, qP, qK, qD, qZ, qN⟩ := q; exact ⟨q0, q1, qP, va_K.moved (u := U) (U := U.calling g mk a) (Vm.Alike.refl U.vm) qK, qD, sF.moved (u := U) (U := U.calling g mk a) (Vm.Alike.refl U.vm) qZ, nF.same rfl qN⟩, fun U hU hW => ⟨rfl, by rw [hU], by rw [hU]; exact hP, va_K.moved hW.alike hK, hD.weaken (fun _ _ _ _ => trivial), by rw [hU]; exact ((hZ.kept hS.2.1).narrow hf9).moved hW.alike, hN.warm hW⟩⟩ rfl rfl hl.1 rfl (lv_room (Nat.le_of_ble_eq_true rfl)) dX0_init_74 (room_s hT78 hbl)) hS (fun q _ h => hf9 q h) hf9 (fun ad79 t H locs ht hvm hw hB hz1 hk1 hS => ?_)
  have hn80 := hw
  obtain ⟨hP, hK9, hD9⟩ := hB
  rw [ht] at hP
  have hD := hD9.weaken (fun _ q _ h => hf9 q.1 h)
  rw [xt_xt, ← eL78] at hP hD
  refine W_cs (k := L78.length) (n := wt L78) (by rw [eL78]; exact (len_s L72 y76.1).symm) (by rw [eL78]; exact (wt_app L72 y76.1).symm) ?_
  have hT : y.1 = L78 ++ w77.1 := by rw [hT78, eL78]
  have h2 : y.2 = w77.2 := by rw [h2, ew77]
  have hl := lv_sub (l' := [(0, .ref (ad74 a))]) hl [0] rfl
  have e9 : ([(0, .ref (ad74 a))] : List (Nat × Value)) = [(0, .ref (ad79 a))] := (by first | rfl | simp only [hn80 a hc])
  rw [e9] at hl
  clear e9
  refine W_st (st' := [.ref (ad79 c70), .ref (ad79 a)]) (by first | rfl | simp only [hn80 c70 hc70, hn80 a hc]) ?_
  have hk : (xt G L78).2.1 a = 0 := by rw [eL78]; exact xt_k _ hc hk
  have hc : a < (xt G L78).1 := by rw [eL78]; exact xt_l _ hc
  have hk2 : (xt G L78).2.1 c2 = 13 := by rw [eL78]; exact xt_k _ hc2 hk2
  have hc2 : c2 < (xt G L78).1 := by rw [eL78]; exact xt_l _ hc2
  have hk10 : (xt G L78).2.1 c10 = 13 := by rw [eL78]; exact xt_k _ hc10 hk10
  have hc10 : c10 < (xt G L78).1 := by rw [eL78]; exact xt_l _ hc10
  have hk18 : (xt G L78).2.1 c18 = 10 := by rw [eL78]; exact xt_k _ hc18 hk18
  have hc18 : c18 < (xt G L78).1 := by rw [eL78]; exact xt_l _ hc18
  have hk31 : (xt G L78).2.1 c31 = 9 := by rw [eL78]; exact xt_k _ hc31 hk31
  have hc31 : c31 < (xt G L78).1 := by rw [eL78]; exact xt_l _ hc31
  have hk44 : (xt G L78).2.1 c44 = 6 := by rw [eL78]; exact xt_k _ hc44 hk44
  have hc44 : c44 < (xt G L78).1 := by rw [eL78]; exact xt_l _ hc44
  have hk57 : (xt G L78).2.1 c57 = 2 := by rw [eL78]; exact xt_k _ hc57 hk57
  have hc57 : c57 < (xt G L78).1 := by rw [eL78]; exact xt_l _ hc57
  have hk70 : (xt G L78).2.1 c70 = 7 := by rw [eL78]; exact xt_k _ hc70 hk70
  have hc70 : c70 < (xt G L78).1 := by rw [eL78]; exact xt_l _ hc70
  have hag := agr_t (xt_ge _ _) hag hn80
  refine va_putF (D := D) (ci := 0) (v := va_re ad79 (some c70)) (ty := (.object "VideoSuite$Store")) (C := RX0) (T := TX0) (N := 21) hx hb hts (mus hf_X0) tyX0 tyX0_ok nmX0 hown hK hP hD hS a (wld_o ct ad79 (xt G L78) y76.2 hc hk (by decide)) rfl 6 (by decide) (hts (.fieldLink RX0 57 "VideoSuite$Coder" "store" "LVideoSuite$Store;") (mu mw_820)) (fun _ h9 => h9) rfl hin rfl (by decide +kernel) (nar_q ad79 (Or.inl ⟨_, rfl⟩) (some c70)).1 (nar_q ad79 (Or.inl ⟨_, rfl⟩) (some c70)).2 (Nat.le_of_ble_eq_true rfl) dX0_init_77 (fun H locs hP hD hS => ?_)
  obtain ⟨M81, eM81, hF⟩ := ltt_some hF
  rw [set_oP ct ad79 (xt G L78) y76.2 hc hk (by decide) (by rfl), ← eM81] at hP hD
  refine lv_aload_n hx hb dX0_init_80 rfl (lv_at hl 0 rfl) ?_
  refine lv_bipush (v := (24 : Int32)) hx hb dX0_init_81 (by decide) ?_
  obtain ⟨hC82, hF⟩ := chkP_some hF
  obtain ⟨hz9, hF⟩ := chk_some hF
  obtain ⟨c83, ec83, hF⟩ := ltt_some hF
  obtain ⟨w84, hF, ew84⟩ := app_some hF
  obtain ⟨L85, eL85, hF⟩ := ltt_some hF
  have hT85 : y.1 = (L78 ++ [(13, ((24 : Int32)).toNatClampNeg)]) ++ w84.1 := by rw [hT, ew84]; simp only [List.append_assoc]
  obtain ⟨M86, eM86, hF⟩ := ltt_some hF
  refine new_i hx hb (hts (.arrayClass .int) (mu mw_266)) hK hP hD hS hA9 hz9.1 hz9.2 hC82 (room_1s hT85 hbl) dX0_init_83 (fun ad87 H hn88 hP hD hS => ?_)
  rw [← ec83, ← eL85, ← eM86] at hP hD
  refine W_cs (k := L85.length) (n := wt L85) (by rw [eL85]) (by rw [eL85]) ?_
  refine W_st (st' := [.ref (ad87 c83), .ref (ad79 a)]) (by rw [ec83]) ?_
  have hT : y.1 = L85 ++ w84.1 := by rw [hT85, eL85]
  have h2 : y.2 = w84.2 := by rw [h2, ew84]
  have hl := lv_sub (l' := [(0, .ref (ad79 a))]) hl [0] rfl
  have e9 : ([(0, .ref (ad79 a))] : List (Nat × Value)) = [(0, .ref (ad87 a))] := (by first | rfl | simp only [hn88 a hc])
  rw [e9] at hl
  clear e9
  refine W_st (st' := [.ref (ad87 c83), .ref (ad87 a)]) (by first | rfl | simp only [hn88 a hc]) ?_
  have hk : (xt G L85).2.1 a = 0 := by rw [eL85]; exact xt_k _ hc hk
  have hc : a < (xt G L85).1 := by rw [eL85]; exact xt_l _ hc
  have hk2 : (xt G L85).2.1 c2 = 13 := by rw [eL85]; exact xt_k _ hc2 hk2
  have hc2 : c2 < (xt G L85).1 := by rw [eL85]; exact xt_l _ hc2
  have hk10 : (xt G L85).2.1 c10 = 13 := by rw [eL85]; exact xt_k _ hc10 hk10
  have hc10 : c10 < (xt G L85).1 := by rw [eL85]; exact xt_l _ hc10
  have hk18 : (xt G L85).2.1 c18 = 10 := by rw [eL85]; exact xt_k _ hc18 hk18
  have hc18 : c18 < (xt G L85).1 := by rw [eL85]; exact xt_l _ hc18
  have hk31 : (xt G L85).2.1 c31 = 9 := by rw [eL85]; exact xt_k _ hc31 hk31
  have hc31 : c31 < (xt G L85).1 := by rw [eL85]; exact xt_l _ hc31
  have hk44 : (xt G L85).2.1 c44 = 6 := by rw [eL85]; exact xt_k _ hc44 hk44
  have hc44 : c44 < (xt G L85).1 := by rw [eL85]; exact xt_l _ hc44
  have hk57 : (xt G L85).2.1 c57 = 2 := by rw [eL85]; exact xt_k _ hc57 hk57
  have hc57 : c57 < (xt G L85).1 := by rw [eL85]; exact xt_l _ hc57
  have hk70 : (xt G L85).2.1 c70 = 7 := by rw [eL85]; exact xt_k _ hc70 hk70
  have hc70 : c70 < (xt G L85).1 := by rw [eL85]; exact xt_l _ hc70
  have hag := agr_t (xt_ge _ _) hag hn88
  have hc83 : c83 < (xt G L85).1 := by rw [ec83, eL85]; exact cnt_new _ _ _
  have hk83 : (xt G L85).2.1 c83 = 13 := by rw [ec83, eL85]; exact (kind_new _ _ _ _).1
  refine va_putF (D := D) (ci := 0) (v := va_re ad87 (some c83)) (ty := (.array .int)) (C := RX0) (T := TX0) (N := 21) hx hb hts (mus hf_X0) tyX0 tyX0_ok nmX0 hown hK hP hD hS a (wld_o ct ad87 (xt G L85) M86 hc hk (by decide)) rfl 7 (by decide) (hts (.fieldLink RX0 61 "VideoSuite$Coder" "sequence" "[I") (mu mw_821)) (fun _ h9 => h9) rfl hin rfl (by decide +kernel) (nar_q ad87 (Or.inr ⟨_, rfl⟩) (some c83)).1 (nar_q ad87 (Or.inr ⟨_, rfl⟩) (some c83)).2 (Nat.le_of_ble_eq_true rfl) dX0_init_85 (fun H locs hP hD hS => ?_)
  obtain ⟨M89, eM89, hF⟩ := ltt_some hF
  rw [set_oP ct ad87 (xt G L85) M86 hc hk (by decide) (by rfl), ← eM89] at hP hD
  refine lv_aload_n hx hb dX0_init_88 rfl (lv_at hl 0 rfl) ?_
  refine lv_bipush (v := (12 : Int32)) hx hb dX0_init_89 (by decide) ?_
  refine lv_iconst (v := (0 : Int32)) hx hb dX0_init_91 (by decide) ?_
  obtain ⟨hC90, hF⟩ := chkP_some hF
  obtain ⟨c91, ec91, hF⟩ := ltt_some hF
  obtain ⟨w92, hF, ew92⟩ := app_some hF
  obtain ⟨L93, eL93, hF⟩ := ltt_some hF
  have hT93 : y.1 = (L85 ++ mrel 12 0) ++ w92.1 := by rw [hT, ew92]; simp only [List.append_assoc]
  obtain ⟨M94, eM94, hF⟩ := ltt_some hF
  refine new_g (n := (12 : Int32)) (k := (0 : Int32)) (n0 := 12) (k0 := 0) hx hb hown (hts (.classLink RX0 64 "[[I") (mu mw_808)) (va_AOA.use hN.2.2.1) (hts (.arrayClass .int) (mu mw_266)) hK hP hD hS hA9 (by decide) (by decide) rfl rfl (by decide) (by decide) hC90 (room_s hT93 hbl) dX0_init_92 (fun ad95 H hn96 hP hD hS => ?_)
  rw [← eL93, ← ec91] at hP hD
  rw [← eM94] at hP hD
  refine W_cs (k := L93.length) (n := wt L93) (by rw [eL93]) (by rw [eL93]) ?_
  refine W_st (st' := [.ref (ad95 c91), .ref (ad87 a)]) (by rw [ec91]) ?_
  have hT : y.1 = L93 ++ w92.1 := by rw [hT93, eL93]
  have h2 : y.2 = w92.2 := by rw [h2, ew92]
  have hl := lv_sub (l' := [(0, .ref (ad87 a))]) hl [0] rfl
  have e9 : ([(0, .ref (ad87 a))] : List (Nat × Value)) = [(0, .ref (ad95 a))] := (by first | rfl | simp only [hn96 a hc])
  rw [e9] at hl
  clear e9
  refine W_st (st' := [.ref (ad95 c91), .ref (ad95 a)]) (by first | rfl | simp only [hn96 a hc]) ?_
  have hk : (xt G L93).2.1 a = 0 := by rw [eL93]; exact xt_k _ hc hk
  have hc : a < (xt G L93).1 := by rw [eL93]; exact xt_l _ hc
  have hk2 : (xt G L93).2.1 c2 = 13 := by rw [eL93]; exact xt_k _ hc2 hk2
  have hc2 : c2 < (xt G L93).1 := by rw [eL93]; exact xt_l _ hc2
  have hk10 : (xt G L93).2.1 c10 = 13 := by rw [eL93]; exact xt_k _ hc10 hk10
  have hc10 : c10 < (xt G L93).1 := by rw [eL93]; exact xt_l _ hc10
  have hk18 : (xt G L93).2.1 c18 = 10 := by rw [eL93]; exact xt_k _ hc18 hk18
  have hc18 : c18 < (xt G L93).1 := by rw [eL93]; exact xt_l _ hc18
  have hk31 : (xt G L93).2.1 c31 = 9 := by rw [eL93]; exact xt_k _ hc31 hk31
  have hc31 : c31 < (xt G L93).1 := by rw [eL93]; exact xt_l _ hc31
  have hk44 : (xt G L93).2.1 c44 = 6 := by rw [eL93]; exact xt_k _ hc44 hk44
  have hc44 : c44 < (xt G L93).1 := by rw [eL93]; exact xt_l _ hc44
  have hk57 : (xt G L93).2.1 c57 = 2 := by rw [eL93]; exact xt_k _ hc57 hk57
  have hc57 : c57 < (xt G L93).1 := by rw [eL93]; exact xt_l _ hc57
  have hk70 : (xt G L93).2.1 c70 = 7 := by rw [eL93]; exact xt_k _ hc70 hk70
  have hc70 : c70 < (xt G L93).1 := by rw [eL93]; exact xt_l _ hc70
  have hk83 : (xt G L93).2.1 c83 = 13 := by rw [eL93]; exact xt_k _ hc83 hk83
  have hc83 : c83 < (xt G L93).1 := by rw [eL93]; exact xt_l _ hc83
  have hag := agr_t (xt_ge _ _) hag hn96
  have hc91 : c91 < (xt G L93).1 := by rw [ec91, eL93]; exact cnt_g _ _ _ _
  have hk91 : (xt G L93).2.1 c91 = 15 := by rw [ec91, eL93]; exact kind_g _ _ _ _
  refine va_putF (D := D) (ci := 0) (v := va_re ad95 (some c91)) (ty := (.array (.array .int))) (C := RX0) (T := TX0) (N := 21) hx hb hts (mus hf_X0) tyX0 tyX0_ok nmX0 hown hK hP hD hS a (wld_o ct ad95 (xt G L93) M94 hc hk (by decide)) rfl 8 (by decide) (hts (.fieldLink RX0 66 "VideoSuite$Coder" "planes" "[[I") (mu mw_822)) (fun _ h9 => h9) rfl hin rfl (by decide +kernel) (nar_q ad95 (Or.inr ⟨_, rfl⟩) (some c91)).1 (nar_q ad95 (Or.inr ⟨_, rfl⟩) (some c91)).2 (Nat.le_of_ble_eq_true rfl) dX0_init_96 (fun H locs hP hD hS => ?_)
  obtain ⟨M97, eM97, hF⟩ := ltt_some hF
  rw [set_oP ct ad95 (xt G L93) M94 hc hk (by decide) (by rfl), ← eM97] at hP hD
  refine lv_aload_n hx hb dX0_init_99 rfl (lv_at hl 0 rfl) ?_
  refine lv_iconst (v := (3 : Int32)) hx hb dX0_init_100 (by decide) ?_
  refine lv_iconst (v := (0 : Int32)) hx hb dX0_init_101 (by decide) ?_
  obtain ⟨hC98, hF⟩ := chkP_some hF
  obtain ⟨c99, ec99, hF⟩ := ltt_some hF
  obtain ⟨w100, hF, ew100⟩ := app_some hF
  obtain ⟨L101, eL101, hF⟩ := ltt_some hF
  have hT101 : y.1 = (L93 ++ mrel 3 0) ++ w100.1 := by rw [hT, ew100]; simp only [List.append_assoc]
  obtain ⟨M102, eM102, hF⟩ := ltt_some hF
  refine new_g (n := (3 : Int32)) (k := (0 : Int32)) (n0 := 3) (k0 := 0) hx hb hown (hts (.classLink RX0 64 "[[I") (mu mw_808)) (va_AOA.use hN.2.2.1) (hts (.arrayClass .int) (mu mw_266)) hK hP hD hS hA9 (by decide) (by decide) rfl rfl (by decide) (by decide) hC98 (room_s hT101 hbl) dX0_init_102 (fun ad103 H hn104 hP hD hS => ?_)
  rw [← eL101, ← ec99] at hP hD
  rw [← eM102] at hP hD
  refine W_cs (k := L101.length) (n := wt L101) (by rw [eL101]) (by rw [eL101]) ?_
  refine W_st (st' := [.ref (ad103 c99), .ref (ad95 a)]) (by rw [ec99]) ?_
  have hT : y.1 = L101 ++ w100.1 := by rw [hT101, eL101]
  have h2 : y.2 = w100.2 := by rw [h2, ew100]
  have hl := lv_sub (l' := [(0, .ref (ad95 a))]) hl [0] rfl
  have e9 : ([(0, .ref (ad95 a))] : List (Nat × Value)) = [(0, .ref (ad103 a))] := (by first | rfl | simp only [hn104 a hc])
  rw [e9] at hl
  clear e9
  refine W_st (st' := [.ref (ad103 c99), .ref (ad103 a)]) (by first | rfl | simp only [hn104 a hc]) ?_
  have hk : (xt G L101).2.1 a = 0 := by rw [eL101]; exact xt_k _ hc hk
  have hc : a < (xt G L101).1 := by rw [eL101]; exact xt_l _ hc
  have hk2 : (xt G L101).2.1 c2 = 13 := by rw [eL101]; exact xt_k _ hc2 hk2
  have hc2 : c2 < (xt G L101).1 := by rw [eL101]; exact xt_l _ hc2
  have hk10 : (xt G L101).2.1 c10 = 13 := by rw [eL101]; exact xt_k _ hc10 hk10
  have hc10 : c10 < (xt G L101).1 := by rw [eL101]; exact xt_l _ hc10
  have hk18 : (xt G L101).2.1 c18 = 10 := by rw [eL101]; exact xt_k _ hc18 hk18
  have hc18 : c18 < (xt G L101).1 := by rw [eL101]; exact xt_l _ hc18
  have hk31 : (xt G L101).2.1 c31 = 9 := by rw [eL101]; exact xt_k _ hc31 hk31
  have hc31 : c31 < (xt G L101).1 := by rw [eL101]; exact xt_l _ hc31
  have hk44 : (xt G L101).2.1 c44 = 6 := by rw [eL101]; exact xt_k _ hc44 hk44
  have hc44 : c44 < (xt G L101).1 := by rw [eL101]; exact xt_l _ hc44
  have hk57 : (xt G L101).2.1 c57 = 2 := by rw [eL101]; exact xt_k _ hc57 hk57
  have hc57 : c57 < (xt G L101).1 := by rw [eL101]; exact xt_l _ hc57
  have hk70 : (xt G L101).2.1 c70 = 7 := by rw [eL101]; exact xt_k _ hc70 hk70
  have hc70 : c70 < (xt G L101).1 := by rw [eL101]; exact xt_l _ hc70
  have hk83 : (xt G L101).2.1 c83 = 13 := by rw [eL101]; exact xt_k _ hc83 hk83
  have hc83 : c83 < (xt G L101).1 := by rw [eL101]; exact xt_l _ hc83
  have hk91 : (xt G L101).2.1 c91 = 15 := by rw [eL101]; exact xt_k _ hc91 hk91
  have hc91 : c91 < (xt G L101).1 := by rw [eL101]; exact xt_l _ hc91
  have hag := agr_t (xt_ge _ _) hag hn104
  have hc99 : c99 < (xt G L101).1 := by rw [ec99, eL101]; exact cnt_g _ _ _ _
  have hk99 : (xt G L101).2.1 c99 = 15 := by rw [ec99, eL101]; exact kind_g _ _ _ _
  refine va_putF (D := D) (ci := 0) (v := va_re ad103 (some c99)) (ty := (.array (.array .int))) (C := RX0) (T := TX0) (N := 21) hx hb hts (mus hf_X0) tyX0 tyX0_ok nmX0 hown hK hP hD hS a (wld_o ct ad103 (xt G L101) M102 hc hk (by decide)) rfl 9 (by decide) (hts (.fieldLink RX0 69 "VideoSuite$Coder" "source" "[[I") (mu mw_823)) (fun _ h9 => h9) rfl hin rfl (by decide +kernel) (nar_q ad103 (Or.inr ⟨_, rfl⟩) (some c99)).1 (nar_q ad103 (Or.inr ⟨_, rfl⟩) (some c99)).2 (Nat.le_of_ble_eq_true rfl) dX0_init_106 (fun H locs hP hD hS => ?_)
  obtain ⟨M105, eM105, hF⟩ := ltt_some hF
  rw [set_oP ct ad103 (xt G L101) M102 hc hk (by decide) (by rfl), ← eM105] at hP hD
  refine lv_aload_n hx hb dX0_init_109 rfl (lv_at hl 0 rfl) ?_
  refine lv_sipush (v := (420 : Int32)) hx hb dX0_init_110 (by decide) ?_
  obtain ⟨hC106, hF⟩ := chkP_some hF
  obtain ⟨hz9, hF⟩ := chk_some hF
  obtain ⟨c107, ec107, hF⟩ := ltt_some hF
  obtain ⟨w108, hF, ew108⟩ := app_some hF
  obtain ⟨L109, eL109, hF⟩ := ltt_some hF
  have hT109 : y.1 = (L101 ++ [(13, ((420 : Int32)).toNatClampNeg)]) ++ w108.1 := by rw [hT, ew108]; simp only [List.append_assoc]
  obtain ⟨M110, eM110, hF⟩ := ltt_some hF
  refine new_i hx hb (hts (.arrayClass .int) (mu mw_266)) hK hP hD hS hA9 hz9.1 hz9.2 hC106 (room_1s hT109 hbl) dX0_init_113 (fun ad111 H hn112 hP hD hS => ?_)
  rw [← ec107, ← eL109, ← eM110] at hP hD
  refine W_cs (k := L109.length) (n := wt L109) (by rw [eL109]) (by rw [eL109]) ?_
  refine W_st (st' := [.ref (ad111 c107), .ref (ad103 a)]) (by rw [ec107]) ?_
  have hT : y.1 = L109 ++ w108.1 := by rw [hT109, eL109]
  have h2 : y.2 = w108.2 := by rw [h2, ew108]
  have hl := lv_sub (l' := [(0, .ref (ad103 a))]) hl [0] rfl
  have e9 : ([(0, .ref (ad103 a))] : List (Nat × Value)) = [(0, .ref (ad111 a))] := (by first | rfl | simp only [hn112 a hc])
  rw [e9] at hl
  clear e9
  refine W_st (st' := [.ref (ad111 c107), .ref (ad111 a)]) (by first | rfl | simp only [hn112 a hc]) ?_
  have hk : (xt G L109).2.1 a = 0 := by rw [eL109]; exact xt_k _ hc hk
  have hc : a < (xt G L109).1 := by rw [eL109]; exact xt_l _ hc
  have hk2 : (xt G L109).2.1 c2 = 13 := by rw [eL109]; exact xt_k _ hc2 hk2
  have hc2 : c2 < (xt G L109).1 := by rw [eL109]; exact xt_l _ hc2
  have hk10 : (xt G L109).2.1 c10 = 13 := by rw [eL109]; exact xt_k _ hc10 hk10
  have hc10 : c10 < (xt G L109).1 := by rw [eL109]; exact xt_l _ hc10
  have hk18 : (xt G L109).2.1 c18 = 10 := by rw [eL109]; exact xt_k _ hc18 hk18
  have hc18 : c18 < (xt G L109).1 := by rw [eL109]; exact xt_l _ hc18
  have hk31 : (xt G L109).2.1 c31 = 9 := by rw [eL109]; exact xt_k _ hc31 hk31
  have hc31 : c31 < (xt G L109).1 := by rw [eL109]; exact xt_l _ hc31
  have hk44 : (xt G L109).2.1 c44 = 6 := by rw [eL109]; exact xt_k _ hc44 hk44
  have hc44 : c44 < (xt G L109).1 := by rw [eL109]; exact xt_l _ hc44
  have hk57 : (xt G L109).2.1 c57 = 2 := by rw [eL109]; exact xt_k _ hc57 hk57
  have hc57 : c57 < (xt G L109).1 := by rw [eL109]; exact xt_l _ hc57
  have hk70 : (xt G L109).2.1 c70 = 7 := by rw [eL109]; exact xt_k _ hc70 hk70
  have hc70 : c70 < (xt G L109).1 := by rw [eL109]; exact xt_l _ hc70
  have hk83 : (xt G L109).2.1 c83 = 13 := by rw [eL109]; exact xt_k _ hc83 hk83
  have hc83 : c83 < (xt G L109).1 := by rw [eL109]; exact xt_l _ hc83
  have hk91 : (xt G L109).2.1 c91 = 15 := by rw [eL109]; exact xt_k _ hc91 hk91
  have hc91 : c91 < (xt G L109).1 := by rw [eL109]; exact xt_l _ hc91
  have hk99 : (xt G L109).2.1 c99 = 15 := by rw [eL109]; exact xt_k _ hc99 hk99
  have hc99 : c99 < (xt G L109).1 := by rw [eL109]; exact xt_l _ hc99
  have hag := agr_t (xt_ge _ _) hag hn112
  have hc107 : c107 < (xt G L109).1 := by rw [ec107, eL109]; exact cnt_new _ _ _
  have hk107 : (xt G L109).2.1 c107 = 13 := by rw [ec107, eL109]; exact (kind_new _ _ _ _).1
  refine va_putF (D := D) (ci := 0) (v := va_re ad111 (some c107)) (ty := (.array .int)) (C := RX0) (T := TX0) (N := 21) hx hb hts (mus hf_X0) tyX0 tyX0_ok nmX0 hown hK hP hD hS a (wld_o ct ad111 (xt G L109) M110 hc hk (by decide)) rfl 17 (by decide) (hts (.fieldLink RX0 72 "VideoSuite$Coder" "codedFact" "[I") (mu mw_834)) (fun _ h9 => h9) rfl hin rfl (by decide +kernel) (nar_q ad111 (Or.inr ⟨_, rfl⟩) (some c107)).1 (nar_q ad111 (Or.inr ⟨_, rfl⟩) (some c107)).2 (Nat.le_of_ble_eq_true rfl) dX0_init_115 (fun H locs hP hD hS => ?_)
  obtain ⟨M113, eM113, hF⟩ := ltt_some hF
  rw [set_oP ct ad111 (xt G L109) M110 hc hk (by decide) (by rfl), ← eM113] at hP hD
  refine lv_aload_n hx hb dX0_init_118 rfl (lv_at hl 0 rfl) ?_
  refine lv_bipush (v := (29 : Int32)) hx hb dX0_init_119 (by decide) ?_
  obtain ⟨hC114, hF⟩ := chkP_some hF
  obtain ⟨hz9, hF⟩ := chk_some hF
  obtain ⟨c115, ec115, hF⟩ := ltt_some hF
  obtain ⟨w116, hF, ew116⟩ := app_some hF
  obtain ⟨L117, eL117, hF⟩ := ltt_some hF
  have hT117 : y.1 = (L109 ++ [(13, ((29 : Int32)).toNatClampNeg)]) ++ w116.1 := by rw [hT, ew116]; simp only [List.append_assoc]
  obtain ⟨M118, eM118, hF⟩ := ltt_some hF
  refine new_i hx hb (hts (.arrayClass .int) (mu mw_266)) hK hP hD hS hA9 hz9.1 hz9.2 hC114 (room_1s hT117 hbl) dX0_init_121 (fun ad119 H hn120 hP hD hS => ?_)
  rw [← ec115, ← eL117, ← eM118] at hP hD
  refine W_cs (k := L117.length) (n := wt L117) (by rw [eL117]) (by rw [eL117]) ?_
  refine W_st (st' := [.ref (ad119 c115), .ref (ad111 a)]) (by rw [ec115]) ?_
  have hT : y.1 = L117 ++ w116.1 := by rw [hT117, eL117]
  have h2 : y.2 = w116.2 := by rw [h2, ew116]
  have hl := lv_sub (l' := [(0, .ref (ad111 a))]) hl [0] rfl
  have e9 : ([(0, .ref (ad111 a))] : List (Nat × Value)) = [(0, .ref (ad119 a))] := (by first | rfl | simp only [hn120 a hc])
  rw [e9] at hl
  clear e9
  refine W_st (st' := [.ref (ad119 c115), .ref (ad119 a)]) (by first | rfl | simp only [hn120 a hc]) ?_
  have hk : (xt G L117).2.1 a = 0 := by rw [eL117]; exact xt_k _ hc hk
  have hc : a < (xt G L117).1 := by rw [eL117]; exact xt_l _ hc
  have hk2 : (xt G L117).2.1 c2 = 13 := by rw [eL117]; exact xt_k _ hc2 hk2
  have hc2 : c2 < (xt G L117).1 := by rw [eL117]; exact xt_l _ hc2
  have hk10 : (xt G L117).2.1 c10 = 13 := by rw [eL117]; exact xt_k _ hc10 hk10
  have hc10 : c10 < (xt G L117).1 := by rw [eL117]; exact xt_l _ hc10
  have hk18 : (xt G L117).2.1 c18 = 10 := by rw [eL117]; exact xt_k _ hc18 hk18
  have hc18 : c18 < (xt G L117).1 := by rw [eL117]; exact xt_l _ hc18
  have hk31 : (xt G L117).2.1 c31 = 9 := by rw [eL117]; exact xt_k _ hc31 hk31
  have hc31 : c31 < (xt G L117).1 := by rw [eL117]; exact xt_l _ hc31
  have hk44 : (xt G L117).2.1 c44 = 6 := by rw [eL117]; exact xt_k _ hc44 hk44
  have hc44 : c44 < (xt G L117).1 := by rw [eL117]; exact xt_l _ hc44
  have hk57 : (xt G L117).2.1 c57 = 2 := by rw [eL117]; exact xt_k _ hc57 hk57
  have hc57 : c57 < (xt G L117).1 := by rw [eL117]; exact xt_l _ hc57
  have hk70 : (xt G L117).2.1 c70 = 7 := by rw [eL117]; exact xt_k _ hc70 hk70
  have hc70 : c70 < (xt G L117).1 := by rw [eL117]; exact xt_l _ hc70
  have hk83 : (xt G L117).2.1 c83 = 13 := by rw [eL117]; exact xt_k _ hc83 hk83
  have hc83 : c83 < (xt G L117).1 := by rw [eL117]; exact xt_l _ hc83
  have hk91 : (xt G L117).2.1 c91 = 15 := by rw [eL117]; exact xt_k _ hc91 hk91
  have hc91 : c91 < (xt G L117).1 := by rw [eL117]; exact xt_l _ hc91
  have hk99 : (xt G L117).2.1 c99 = 15 := by rw [eL117]; exact xt_k _ hc99 hk99
  have hc99 : c99 < (xt G L117).1 := by rw [eL117]; exact xt_l _ hc99
  have hk107 : (xt G L117).2.1 c107 = 13 := by rw [eL117]; exact xt_k _ hc107 hk107
  have hc107 : c107 < (xt G L117).1 := by rw [eL117]; exact xt_l _ hc107
  have hag := agr_t (xt_ge _ _) hag hn120
  have hc115 : c115 < (xt G L117).1 := by rw [ec115, eL117]; exact cnt_new _ _ _
  have hk115 : (xt G L117).2.1 c115 = 13 := by rw [ec115, eL117]; exact (kind_new _ _ _ _).1
  refine va_putF (D := D) (ci := 0) (v := va_re ad119 (some c115)) (ty := (.array .int)) (C := RX0) (T := TX0) (N := 21) hx hb hts (mus hf_X0) tyX0 tyX0_ok nmX0 hown hK hP hD hS a (wld_o ct ad119 (xt G L117) M118 hc hk (by decide)) rfl 20 (by decide) (hts (.fieldLink RX0 75 "VideoSuite$Coder" "choice" "[I") (mu mw_838)) (fun _ h9 => h9) rfl hin rfl (by decide +kernel) (nar_q ad119 (Or.inr ⟨_, rfl⟩) (some c115)).1 (nar_q ad119 (Or.inr ⟨_, rfl⟩) (some c115)).2 (Nat.le_of_ble_eq_true rfl) dX0_init_123 (fun H locs hP hD hS => ?_)
  obtain ⟨M121, eM121, hF⟩ := ltt_some hF
  rw [set_oP ct ad119 (xt G L117) M118 hc hk (by decide) (by rfl), ← eM121] at hP hD
  refine lv_aload_n hx hb dX0_init_126 rfl (lv_at hl 0 rfl) ?_
  refine va_get (D := D) (ci := 0) (v := va_re ad119 (M121.2 a 3)) (C := RX0) (T := TX0) (N := 21) hx hb hts (mus hf_X0) hown hK hP a (wld_o ct ad119 (xt G L117) M121 hc hk (by decide)) rfl 3 (by decide) (hts (.fieldLink RX0 36 "VideoSuite$Coder" "work" "LVideoSuite$Work;") (mu mw_817)) (fun _ h9 => h9) rfl dX0_init_127 ?_
  obtain ⟨hC122, hF⟩ := chkP_some hF
  obtain ⟨hq123, hF⟩ := chk_some hF
  obtain ⟨c124, ec124, hF⟩ := ltt_some hF
  obtain ⟨w125, hF, ew125⟩ := app_some hF
  obtain ⟨L126, eL126, hF⟩ := ltt_some hF
  have hT126 : y.1 = (L117 ++ [(3, 0)]) ++ w125.1 := by rw [hT, ew125]; simp only [List.append_assoc]
  obtain ⟨M127, eM127, hF⟩ := ltt_some hF
  refine new_o (T := TX3) (κ := 3) hx hb hts (mus hf_X3) tyX3 tyX3_ok hown (hts (.classLink RX0 78 RX3) (mu mw_809)) (hts (.instantiable RX3 4) (mu mw_610)) (hts (.initialized RX3) (mu mw_174)) hK hP hD hS hA9 rfl (by decide) rfl dfX3 hC122 (room_1s hT126 hbl) dX0_init_130 (fun ad128 H hn129 hP hD hS => ?_)
  rw [← ec124, ← eL126, ← eM127] at hP hD
  refine W_cs (k := L126.length) (n := wt L126) (by rw [eL126]) (by rw [eL126]) ?_
  refine W_st (st' := [.ref (ad128 c124), va_re ad119 (M121.2 a 3)]) (by rw [ec124]) ?_
  have hT : y.1 = L126 ++ w125.1 := by rw [hT126, eL126]
  have h2 : y.2 = w125.2 := by rw [h2, ew125]
  have hl := lv_sub (l' := [(0, .ref (ad119 a))]) hl [0] rfl
  have e9 : ([(0, .ref (ad119 a))] : List (Nat × Value)) = [(0, .ref (ad128 a))] := (by first | rfl | simp only [hn129 a hc])
  rw [e9] at hl
  clear e9
  refine W_st (st' := [.ref (ad128 c124), va_re ad128 (M121.2 a 3)]) (by first | rfl | simp only [agr_re hn129 hq123]) ?_
  have hk : (xt G L126).2.1 a = 0 := by rw [eL126]; exact xt_k _ hc hk
  have hc : a < (xt G L126).1 := by rw [eL126]; exact xt_l _ hc
  have hk2 : (xt G L126).2.1 c2 = 13 := by rw [eL126]; exact xt_k _ hc2 hk2
  have hc2 : c2 < (xt G L126).1 := by rw [eL126]; exact xt_l _ hc2
  have hk10 : (xt G L126).2.1 c10 = 13 := by rw [eL126]; exact xt_k _ hc10 hk10
  have hc10 : c10 < (xt G L126).1 := by rw [eL126]; exact xt_l _ hc10
  have hk18 : (xt G L126).2.1 c18 = 10 := by rw [eL126]; exact xt_k _ hc18 hk18
  have hc18 : c18 < (xt G L126).1 := by rw [eL126]; exact xt_l _ hc18
  have hk31 : (xt G L126).2.1 c31 = 9 := by rw [eL126]; exact xt_k _ hc31 hk31
  have hc31 : c31 < (xt G L126).1 := by rw [eL126]; exact xt_l _ hc31
  have hk44 : (xt G L126).2.1 c44 = 6 := by rw [eL126]; exact xt_k _ hc44 hk44
  have hc44 : c44 < (xt G L126).1 := by rw [eL126]; exact xt_l _ hc44
  have hk57 : (xt G L126).2.1 c57 = 2 := by rw [eL126]; exact xt_k _ hc57 hk57
  have hc57 : c57 < (xt G L126).1 := by rw [eL126]; exact xt_l _ hc57
  have hk70 : (xt G L126).2.1 c70 = 7 := by rw [eL126]; exact xt_k _ hc70 hk70
  have hc70 : c70 < (xt G L126).1 := by rw [eL126]; exact xt_l _ hc70
  have hk83 : (xt G L126).2.1 c83 = 13 := by rw [eL126]; exact xt_k _ hc83 hk83
  have hc83 : c83 < (xt G L126).1 := by rw [eL126]; exact xt_l _ hc83
  have hk91 : (xt G L126).2.1 c91 = 15 := by rw [eL126]; exact xt_k _ hc91 hk91
  have hc91 : c91 < (xt G L126).1 := by rw [eL126]; exact xt_l _ hc91
  have hk99 : (xt G L126).2.1 c99 = 15 := by rw [eL126]; exact xt_k _ hc99 hk99
  have hc99 : c99 < (xt G L126).1 := by rw [eL126]; exact xt_l _ hc99
  have hk107 : (xt G L126).2.1 c107 = 13 := by rw [eL126]; exact xt_k _ hc107 hk107
  have hc107 : c107 < (xt G L126).1 := by rw [eL126]; exact xt_l _ hc107
  have hk115 : (xt G L126).2.1 c115 = 13 := by rw [eL126]; exact xt_k _ hc115 hk115
  have hc115 : c115 < (xt G L126).1 := by rw [eL126]; exact xt_l _ hc115
  have hag := agr_t (xt_ge _ _) hag hn129
  have hc124 : c124 < (xt G L126).1 := by rw [ec124, eL126]; exact cnt_new _ _ _
  have hk124 : (xt G L126).2.1 c124 = 3 := by rw [ec124, eL126]; exact (kind_new _ _ _ _).1
  refine lv_dup hx hb dX0_init_133 rfl ?_
  obtain ⟨hq131, hF⟩ := chk_some hF
  obtain ⟨y130, hy130, hF⟩ := bnd_some hF
  obtain ⟨w132, hF, ew132⟩ := app_some hF
  obtain ⟨L133, eL133, hF⟩ := ltt_some hF
  have hT133 : y.1 = (L126 ++ y130.1) ++ w132.1 := by rw [hT, ew132]; simp only [List.append_assoc]
  have hf9 := wA_in hD hA9 hS
  refine va_callv (va_runIN (As := []) (rest := [.ref (ad128 c124), va_re ad128 (M121.2 a 3)]) ⟨hx, hb, hml, hown, hts⟩ (kX3_init l D ct ad128 Z (xt G L126) M127 _ c124 y130 hc124 hk124 hy130) ⟨va_cnB 0 hts gX0_init_X3_init_n80 rfl rfl rfl (hN.1 (RX0, 80, yX3_init, RX11) (List.mem_of_getElem? (i := 10) rfl)) (hts (.initialized RX3) (mu mw_174)) (by decide +kernel) ⟨Nat.le_of_ble_eq_true rfl, Nat.le_of_ble_eq_true rfl⟩, rfl, (hts (.instanceMethod yX3_init) (mu mw_612))⟩ ⟨fun a U g mk q => by obtain ⟨q0, q1, qP, qK, qD, qZ, qN⟩ := q; exact ⟨q0, q1, qP, va_K.moved (u := U) (U := U.calling g mk a) (Vm.Alike.refl U.vm) qK, qD, sF.moved (u := U) (U := U.calling g mk a) (Vm.Alike.refl U.vm) qZ, nF.same rfl qN⟩, fun U hU hW => ⟨rfl, by rw [hU], by rw [hU]; exact hP, va_K.moved hW.alike hK, hD.weaken (fun _ _ _ _ => trivial), by rw [hU]; exact ((hZ.kept hS.2.1).narrow hf9).moved hW.alike, hN.warm hW⟩⟩ rfl rfl hl.1 rfl (lv_room (by simp only [List.map, va_re_cat]; exact Nat.le_of_ble_eq_true rfl)) dX0_init_134 (room_s hT133 hbl)) hS (fun q _ h => hf9 q h) hf9 (fun ad134 t H locs ht hvm hw hB hz1 hk1 hS => ?_)
  have hn135 := hw
  obtain ⟨hP, hK9, hD9⟩ := hB
  rw [ht] at hP
  have hD := hD9.weaken (fun _ q _ h => hf9 q.1 h)
  rw [xt_xt, ← eL133] at hP hD
  refine W_cs (k := L133.length) (n := wt L133) (by rw [eL133]; exact (len_s L126 y130.1).symm) (by rw [eL133]; exact (wt_app L126 y130.1).symm) ?_
  have hT : y.1 = L133 ++ w132.1 := by rw [hT133, eL133]
  have h2 : y.2 = w132.2 := by rw [h2, ew132]
  have hl := lv_sub (l' := [(0, .ref (ad128 a))]) hl [0] rfl
  have e9 : ([(0, .ref (ad128 a))] : List (Nat × Value)) = [(0, .ref (ad134 a))] := (by first | rfl | simp only [hn135 a hc])
  rw [e9] at hl
  clear e9
  refine W_st (st' := [.ref (ad134 c124), va_re ad134 (M121.2 a 3)]) (by first | rfl | simp only [hn135 c124 hc124, agr_re hn135 hq131]) ?_
  have hk : (xt G L133).2.1 a = 0 := by rw [eL133]; exact xt_k _ hc hk
  have hc : a < (xt G L133).1 := by rw [eL133]; exact xt_l _ hc
  have hk2 : (xt G L133).2.1 c2 = 13 := by rw [eL133]; exact xt_k _ hc2 hk2
  have hc2 : c2 < (xt G L133).1 := by rw [eL133]; exact xt_l _ hc2
  have hk10 : (xt G L133).2.1 c10 = 13 := by rw [eL133]; exact xt_k _ hc10 hk10
  have hc10 : c10 < (xt G L133).1 := by rw [eL133]; exact xt_l _ hc10
  have hk18 : (xt G L133).2.1 c18 = 10 := by rw [eL133]; exact xt_k _ hc18 hk18
  have hc18 : c18 < (xt G L133).1 := by rw [eL133]; exact xt_l _ hc18
  have hk31 : (xt G L133).2.1 c31 = 9 := by rw [eL133]; exact xt_k _ hc31 hk31
  have hc31 : c31 < (xt G L133).1 := by rw [eL133]; exact xt_l _ hc31
  have hk44 : (xt G L133).2.1 c44 = 6 := by rw [eL133]; exact xt_k _ hc44 hk44
  have hc44 : c44 < (xt G L133).1 := by rw [eL133]; exact xt_l _ hc44
  have hk57 : (xt G L133).2.1 c57 = 2 := by rw [eL133]; exact xt_k _ hc57 hk57
  have hc57 : c57 < (xt G L133).1 := by rw [eL133]; exact xt_l _ hc57
  have hk70 : (xt G L133).2.1 c70 = 7 := by rw [eL133]; exact xt_k _ hc70 hk70
  have hc70 : c70 < (xt G L133).1 := by rw [eL133]; exact xt_l _ hc70
  have hk83 : (xt G L133).2.1 c83 = 13 := by rw [eL133]; exact xt_k _ hc83 hk83
  have hc83 : c83 < (xt G L133).1 := by rw [eL133]; exact xt_l _ hc83
  have hk91 : (xt G L133).2.1 c91 = 15 := by rw [eL133]; exact xt_k _ hc91 hk91
  have hc91 : c91 < (xt G L133).1 := by rw [eL133]; exact xt_l _ hc91
  have hk99 : (xt G L133).2.1 c99 = 15 := by rw [eL133]; exact xt_k _ hc99 hk99
  have hc99 : c99 < (xt G L133).1 := by rw [eL133]; exact xt_l _ hc99
  have hk107 : (xt G L133).2.1 c107 = 13 := by rw [eL133]; exact xt_k _ hc107 hk107
  have hc107 : c107 < (xt G L133).1 := by rw [eL133]; exact xt_l _ hc107
  have hk115 : (xt G L133).2.1 c115 = 13 := by rw [eL133]; exact xt_k _ hc115 hk115
  have hc115 : c115 < (xt G L133).1 := by rw [eL133]; exact xt_l _ hc115
  have hk124 : (xt G L133).2.1 c124 = 3 := by rw [eL133]; exact xt_k _ hc124 hk124
  have hc124 : c124 < (xt G L133).1 := by rw [eL133]; exact xt_l _ hc124
  have hag := agr_t (xt_ge _ _) hag hn135
  obtain ⟨b136, ho136, hc136, hk136, hF⟩ := dr_some hF
  refine W_st (st' := [.ref (ad134 c124), .ref (ad134 b136)]) (by rw [va_some ho136]) ?_
  refine va_put (D := D) (ci := 9) (v := va_re ad134 (some c124)) (ty := (.object "VideoSuite$Header")) (C := RX9) (T := TX9) (N := 20) hx hb hts (mus hf_X9) tyX9 tyX9_ok nmX9 hown hK hP hD hS b136 (wld_o ct ad134 (xt G L133) y130.2 hc136 hk136 (by decide)) rfl 1 (by decide) (hts (.fieldLink RX0 81 "VideoSuite$Work" "head" "LVideoSuite$Header;") (mu mw_425)) (fun _ h9 => h9) rfl (by decide +kernel) (nar_q ad134 (Or.inl ⟨_, rfl⟩) (some c124)).1 (nar_q ad134 (Or.inl ⟨_, rfl⟩) (some c124)).2 (Nat.le_of_ble_eq_true rfl) dX0_init_137 (fun H locs hP hD hS => ?_)
  obtain ⟨M137, eM137, hF⟩ := ltt_some hF
  rw [set_oP ct ad134 (xt G L133) y130.2 hc136 hk136 (by decide) (by rfl), ← eM137] at hP hD
  refine lv_aload_n hx hb dX0_init_140 rfl (lv_at hl 0 rfl) ?_
  refine va_get (D := D) (ci := 0) (v := va_re ad134 (M137.2 a 3)) (C := RX0) (T := TX0) (N := 21) hx hb hts (mus hf_X0) hown hK hP a (wld_o ct ad134 (xt G L133) M137 hc hk (by decide)) rfl 3 (by decide) (hts (.fieldLink RX0 36 "VideoSuite$Coder" "work" "LVideoSuite$Work;") (mu mw_817)) (fun _ h9 => h9) rfl dX0_init_141 ?_
  refine lv_bipush (v := (12 : Int32)) hx hb dX0_init_144 (by decide) ?_
  obtain ⟨hC138, hF⟩ := chkP_some hF
  obtain ⟨hz9, hF⟩ := chk_some hF
  obtain ⟨hq139, hF⟩ := chk_some hF
  obtain ⟨c140, ec140, hF⟩ := ltt_some hF
  obtain ⟨w141, hF, ew141⟩ := app_some hF
  obtain ⟨L142, eL142, hF⟩ := ltt_some hF
  have hT142 : y.1 = (L133 ++ [(13, ((12 : Int32)).toNatClampNeg)]) ++ w141.1 := by rw [hT, ew141]; simp only [List.append_assoc]
  obtain ⟨M143, eM143, hF⟩ := ltt_some hF
  refine new_i hx hb (hts (.arrayClass .int) (mu mw_266)) hK hP hD hS hA9 hz9.1 hz9.2 hC138 (room_1s hT142 hbl) dX0_init_146 (fun ad144 H hn145 hP hD hS => ?_)
  rw [← ec140, ← eL142, ← eM143] at hP hD
  refine W_cs (k := L142.length) (n := wt L142) (by rw [eL142]) (by rw [eL142]) ?_
  refine W_st (st' := [.ref (ad144 c140), va_re ad134 (M137.2 a 3)]) (by rw [ec140]) ?_
  have hT : y.1 = L142 ++ w141.1 := by rw [hT142, eL142]
  have h2 : y.2 = w141.2 := by rw [h2, ew141]
  have hl := lv_sub (l' := []) hl [] rfl
  refine W_st (st' := [.ref (ad144 c140), va_re ad144 (M137.2 a 3)]) (by first | rfl | simp only [agr_re hn145 hq139]) ?_
  have hk : (xt G L142).2.1 a = 0 := by rw [eL142]; exact xt_k _ hc hk
  have hc : a < (xt G L142).1 := by rw [eL142]; exact xt_l _ hc
  have hk2 : (xt G L142).2.1 c2 = 13 := by rw [eL142]; exact xt_k _ hc2 hk2
  have hc2 : c2 < (xt G L142).1 := by rw [eL142]; exact xt_l _ hc2
  have hk10 : (xt G L142).2.1 c10 = 13 := by rw [eL142]; exact xt_k _ hc10 hk10
  have hc10 : c10 < (xt G L142).1 := by rw [eL142]; exact xt_l _ hc10
  have hk18 : (xt G L142).2.1 c18 = 10 := by rw [eL142]; exact xt_k _ hc18 hk18
  have hc18 : c18 < (xt G L142).1 := by rw [eL142]; exact xt_l _ hc18
  have hk31 : (xt G L142).2.1 c31 = 9 := by rw [eL142]; exact xt_k _ hc31 hk31
  have hc31 : c31 < (xt G L142).1 := by rw [eL142]; exact xt_l _ hc31
  have hk44 : (xt G L142).2.1 c44 = 6 := by rw [eL142]; exact xt_k _ hc44 hk44
  have hc44 : c44 < (xt G L142).1 := by rw [eL142]; exact xt_l _ hc44
  have hk57 : (xt G L142).2.1 c57 = 2 := by rw [eL142]; exact xt_k _ hc57 hk57
  have hc57 : c57 < (xt G L142).1 := by rw [eL142]; exact xt_l _ hc57
  have hk70 : (xt G L142).2.1 c70 = 7 := by rw [eL142]; exact xt_k _ hc70 hk70
  have hc70 : c70 < (xt G L142).1 := by rw [eL142]; exact xt_l _ hc70
  have hk83 : (xt G L142).2.1 c83 = 13 := by rw [eL142]; exact xt_k _ hc83 hk83
  have hc83 : c83 < (xt G L142).1 := by rw [eL142]; exact xt_l _ hc83
  have hk91 : (xt G L142).2.1 c91 = 15 := by rw [eL142]; exact xt_k _ hc91 hk91
  have hc91 : c91 < (xt G L142).1 := by rw [eL142]; exact xt_l _ hc91
  have hk99 : (xt G L142).2.1 c99 = 15 := by rw [eL142]; exact xt_k _ hc99 hk99
  have hc99 : c99 < (xt G L142).1 := by rw [eL142]; exact xt_l _ hc99
  have hk107 : (xt G L142).2.1 c107 = 13 := by rw [eL142]; exact xt_k _ hc107 hk107
  have hc107 : c107 < (xt G L142).1 := by rw [eL142]; exact xt_l _ hc107
  have hk115 : (xt G L142).2.1 c115 = 13 := by rw [eL142]; exact xt_k _ hc115 hk115
  have hc115 : c115 < (xt G L142).1 := by rw [eL142]; exact xt_l _ hc115
  have hk124 : (xt G L142).2.1 c124 = 3 := by rw [eL142]; exact xt_k _ hc124 hk124
  have hc124 : c124 < (xt G L142).1 := by rw [eL142]; exact xt_l _ hc124
  have hk136 : (xt G L142).2.1 b136 = 9 := by rw [eL142]; exact xt_k _ hc136 hk136
  have hc136 : b136 < (xt G L142).1 := by rw [eL142]; exact xt_l _ hc136
  have hag := agr_t (xt_ge _ _) hag hn145
  have hc140 : c140 < (xt G L142).1 := by rw [ec140, eL142]; exact cnt_new _ _ _
  have hk140 : (xt G L142).2.1 c140 = 13 := by rw [ec140, eL142]; exact (kind_new _ _ _ _).1
  obtain ⟨b146, ho146, hc146, hk146, hF⟩ := dr_some hF
  refine W_st (st' := [.ref (ad144 c140), .ref (ad144 b146)]) (by rw [va_some ho146]) ?_
  refine va_put (D := D) (ci := 9) (v := va_re ad144 (some c140)) (ty := (.array .int)) (C := RX9) (T := TX9) (N := 20) hx hb hts (mus hf_X9) tyX9 tyX9_ok nmX9 hown hK hP hD hS b146 (wld_o ct ad144 (xt G L142) M143 hc146 hk146 (by decide)) rfl 2 (by decide) (hts (.fieldLink RX0 85 "VideoSuite$Work" "par" "[I") (mu mw_430)) (fun _ h9 => h9) rfl (by decide +kernel) (nar_q ad144 (Or.inr ⟨_, rfl⟩) (some c140)).1 (nar_q ad144 (Or.inr ⟨_, rfl⟩) (some c140)).2 (Nat.le_of_ble_eq_true rfl) dX0_init_148 (fun H locs hP hD hS => ?_)
  obtain ⟨M147, eM147, hF⟩ := ltt_some hF
  rw [set_oP ct ad144 (xt G L142) M143 hc146 hk146 (by decide) (by rfl), ← eM147] at hP hD
  obtain rfl := Option.some.inj hF
  have e1 : y.1 = L142 := by rw [hT]; exact List.append_nil _
  have e2 : y.2 = M147 := h2
  refine W.widen (k := y.1.length) (n := wt y.1) (Nat.le_of_eq (by rw [e1])) (Nat.le_of_eq (by rw [e1])) ?_
  exact W.vret hx hb hr (fun t ht hW => ⟨⟨ad144, rfl, hag, (by unfold kE; rw [e1, e2]; exact ⟨by rw [ht]; exact hP, va_K.moved hW.alike hK, hD⟩)⟩, hS.F ht⟩) hS.2.2 dX0_init_151
