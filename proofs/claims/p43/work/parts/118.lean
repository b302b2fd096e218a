theorem dX9_mayUse_0 : decode cX9_mayUse 0 = .ok (.iload_n 1, 1) := by decide +kernel
theorem dX9_mayUse_1 : decode cX9_mayUse 1 = .ok (.ifCond .lt 34, 3) := by decide +kernel
theorem dX9_mayUse_4 : decode cX9_mayUse 4 = .ok (.aload_n 0, 1) := by decide +kernel
theorem dX9_mayUse_5 : decode cX9_mayUse 5 = .ok (.getfield 119, 3) := by decide +kernel
theorem dX9_mayUse_8 : decode cX9_mayUse 8 = .ok (.bipush 10, 2) := by decide +kernel
theorem dX9_mayUse_10 : decode cX9_mayUse 10 = .ok (.iaload, 1) := by decide +kernel
theorem dX9_mayUse_11 : decode cX9_mayUse 11 = .ok (.ifCond .eq 20, 3) := by decide +kernel
theorem dX9_mayUse_14 : decode cX9_mayUse 14 = .ok (.aload_n 0, 1) := by decide +kernel
theorem dX9_mayUse_15 : decode cX9_mayUse 15 = .ok (.getfield 24, 3) := by decide +kernel
theorem dX9_mayUse_18 : decode cX9_mayUse 18 = .ok (.bipush 8, 2) := by decide +kernel
theorem dX9_mayUse_20 : decode cX9_mayUse 20 = .ok (.iload_n 1, 1) := by decide +kernel
theorem dX9_mayUse_21 : decode cX9_mayUse 21 = .ok (.iconst 4, 1) := by decide +kernel
theorem dX9_mayUse_22 : decode cX9_mayUse 22 = .ok (.ishr, 1) := by decide +kernel
theorem dX9_mayUse_23 : decode cX9_mayUse 23 = .ok (.imul, 1) := by decide +kernel
theorem dX9_mayUse_24 : decode cX9_mayUse 24 = .ok (.iconst 0, 1) := by decide +kernel
theorem dX9_mayUse_25 : decode cX9_mayUse 25 = .ok (.iadd, 1) := by decide +kernel
theorem dX9_mayUse_26 : decode cX9_mayUse 26 = .ok (.iaload, 1) := by decide +kernel
theorem dX9_mayUse_27 : decode cX9_mayUse 27 = .ok (.iconst 3, 1) := by decide +kernel
theorem dX9_mayUse_28 : decode cX9_mayUse 28 = .ok (.if_icmp .eq 7, 3) := by decide +kernel
theorem dX9_mayUse_31 : decode cX9_mayUse 31 = .ok (.iconst 1, 1) := by decide +kernel
theorem dX9_mayUse_32 : decode cX9_mayUse 32 = .ok (.goto 4, 3) := by decide +kernel
theorem dX9_mayUse_35 : decode cX9_mayUse 35 = .ok (.iconst 0, 1) := by decide +kernel
theorem dX9_mayUse_36 : decode cX9_mayUse 36 = .ok (.ireturn, 1) := by decide +kernel
def FX9_mayUse (G : GG) (M : DD) (a : Nat) (p0 : Int32) : Option (DD × Int32) :=
  bnd (if p0 < ((0 : Int32)) then (some ((0 : Int32))) else
  (dr G 13 ((M.2 a 2)) fun b3 =>
  chk (¬ (((10 : Int32)) < 0 ∨ G.2.2 b3 ≤ ((10 : Int32)).toNatClampNeg)) <|
  ltt (M.1 b3 ((10 : Int32)).toNatClampNeg) fun x4 =>
  bnd (if x4 = ((0 : Int32)) then (some ((1 : Int32))) else
  (ltt ((p0 >>> (((4 : Int32)) &&& 31))) fun x7 =>
  ltt ((((8 : Int32)) * x7)) fun x8 =>
  ltt ((x8 + ((0 : Int32)))) fun x9 =>
  dr G 13 ((M.2 a 6)) fun b10 =>
  chk (¬ (x9 < 0 ∨ G.2.2 b10 ≤ x9.toNatClampNeg)) <|
  ltt (M.1 b10 x9.toNatClampNeg) fun x11 =>
  bnd (if x11 = ((3 : Int32)) then (some ((0 : Int32))) else
  (some ((1 : Int32)))) fun (y12 : Int32) =>
  some (y12))) fun (y5 : Int32) =>
  some (y5))) fun (y1 : Int32) =>
  chk (y1 = 0 ∨ y1 = 1) <|
  some (M, y1)
set_option maxHeartbeats 4000000 in
set_option maxRecDepth 100000 in
theorem kX9_mayUse (l : Launch) (D : va_G) (ct : CT) (ad : Nat → Nat) (Z : Nat → Nat) (G : GG) (M : DD) (sz : Nat) (a : Nat) (p0 : Int32) (y : DD × Int32) (hc : a < G.1) (hk : G.2.1 a = 9) (hF : FX9_mayUse G M a p0 = some y) : Met l yX9_mayUse wsX9_mayUse ({ frames := 0, cells := 0, slots := 0, locals := 0 }) (va_Pc [.ref (ad a), .int p0] (kB D ct ad Z G M sz)) (va_Qi (fun (q : Int32) (_ : Unit) => q = y.2) (fun _ t => kE D ct ad G (wA ad G sz) y.1 t) (wA ad G sz)) 0 0 (wA ad G sz) := by
  refine Met.ofW (cc := cX9_mayUse) (maxL := 2) (ret := (some .boolean)) (by decide) rfl ?_
  intro p e s m args below meth c s₁ B hml hv
  obtain ⟨rfl, hsz, hP, hK, hD0, hZ, hN⟩ := hv
  have hx := B.exec
  have hb := B.bytes
  have hr := B.returns
  have hts := atoms_spec (ws := wsX9_mayUse) B.pre
  have hown : s.vm.findClass RX9 = some m.cls := findClass_of_methodNamed B.named
  have hlocks := B.notSynchronized
  subst hsz
  have hD := wD_self (sz := s.heap.size) hD0
  have hA9 : ∀ q, s.heap.size ≤ q → wA ad G s.heap.size q := fun q h => Or.inr h
  generalize hAe : wA ad G s.heap.size = A at hD hA9 hZ ⊢
  have hS : va_S A s.heap s.heap [] := va_S.rf
  have hl := lv_entry ([.ref (ad a), .int p0]) (n := 2) (Nat.le_of_ble_eq_true rfl)
  rw [lg_entry_eq]
  generalize (lg_sl ([.ref (ad a), .int p0]) ++ List.replicate (2 - (lg_sl ([.ref (ad a), .int p0])).length) Slot.unset).toArray = ls at hl ⊢
  have hl : lv_has ls 2 [(0, .ref (ad a)), (1, .int p0)] := hl
  unfold FX9_mayUse at hF
  refine lv_iload_n hx hb dX9_mayUse_0 rfl (lv_at hl 1 rfl) ?_
  obtain ⟨y1, hy1, hF⟩ := bnd_some hF
  have J1 : ∀ (H : Heap) (locs : List Loc) (ls : Array Slot), va_P D classes (wld ct ad G M) H → va_D A (wld ct ad G M) → va_S A s.heap H locs → lv_has ls 2 [(0, .ref (ad a)), (1, .int p0)] → W p l e (headSpec wsX9_mayUse ({ frames := 0, cells := 0, slots := 0, locals := 0 })).room s m ([.ref (ad a), .int p0] : List Value).toArray below meth c H locs 0 0 (MQ below (va_Qi (fun (q : Int32) (_ : Unit) => q = y.2) (fun _ t => kE D ct ad G A y.1 t) A) ([.ref (ad a), .int p0] : List Value).toArray s 0 0 A) (F0 m 36 ls [.int y1]) := by
    intro H locs ls hP hD hS hl
    obtain ⟨hz9, hF⟩ := chk_some hF
    obtain rfl := Option.some.inj hF
    exact W.zret (v := y1) (ty := .boolean) hx hb hr (nar_z hz9).1 (fun t ht hW => ⟨⟨_, (), rfl, rfl, ⟨by rw [ht]; exact hP, va_K.moved hW.alike hK, hD⟩⟩, hS.F ht⟩) hS.2.2 dX9_mayUse_36
  clear hF
  have hF := hy1
  clear hy1
  refine lv_if_lt (tgt := 35) hx hb dX9_mayUse_1 (by decide) (fun c2 => ?_) (fun c2 => ?_)
  · rw [if_pos c2] at hF
    refine lv_iconst (v := (0 : Int32)) hx hb dX9_mayUse_35 (by decide) ?_
    obtain rfl := Option.some.inj hF
    exact J1 _ _ _ hP hD hS (lv_sub hl [0, 1] rfl)
  · rw [if_neg c2] at hF
    refine lv_aload_n hx hb dX9_mayUse_4 rfl (lv_at hl 0 rfl) ?_
    refine va_get (D := D) (ci := 9) (v := va_re ad (M.2 a 2)) (C := RX9) (T := TX9) (N := 20) hx hb hts (by decide +kernel) hown hK hP a (wld_o ct ad G M hc hk (by decide)) rfl 2 (by decide) (hts (.fieldLink RX9 119 "VideoSuite$Work" "par" "[I") (by decide +kernel)) (fun _ h9 => h9) rfl dX9_mayUse_5 ?_
    refine lv_bipush (v := (10 : Int32)) hx hb dX9_mayUse_8 (by decide) ?_
    obtain ⟨b3, ho3, hc3, hk3, hF⟩ := dr_some hF
    refine W_st (st' := [.int (10 : Int32), .ref (ad b3)]) (by rw [va_some ho3]) ?_
    obtain ⟨hvc, hF⟩ := chk_some hF
    refine va_iald hx hb hK hP b3 1 (wld_i ct ad G M hc3 hk3) rfl hvc dX9_mayUse_10 ?_
    obtain ⟨x4, ex4, hF⟩ := ltt_some hF
    refine lv_topi (fun zx4 ezx4 => ?_)
    obtain rfl : x4 = zx4 := ex4.trans ezx4.symm
    obtain ⟨y5, hy5, hF⟩ := bnd_some hF
    have J5 : ∀ (H : Heap) (locs : List Loc) (ls : Array Slot), va_P D classes (wld ct ad G M) H → va_D A (wld ct ad G M) → va_S A s.heap H locs → lv_has ls 2 [(0, .ref (ad a)), (1, .int p0)] → W p l e (headSpec wsX9_mayUse ({ frames := 0, cells := 0, slots := 0, locals := 0 })).room s m ([.ref (ad a), .int p0] : List Value).toArray below meth c H locs 0 0 (MQ below (va_Qi (fun (q : Int32) (_ : Unit) => q = y.2) (fun _ t => kE D ct ad G A y.1 t) A) ([.ref (ad a), .int p0] : List Value).toArray s 0 0 A) (F0 m 36 ls [.int y5]) := by
      intro H locs ls hP hD hS hl
      obtain rfl := Option.some.inj hF
      exact J1 _ _ _ hP hD hS (lv_sub hl [0, 1] rfl)
    clear hF
    have hF := hy5
    clear hy5
    refine lv_if_eq (tgt := 31) hx hb dX9_mayUse_11 (by decide) (fun c6 => ?_) (fun c6 => ?_)
    · rw [if_pos c6] at hF
      refine lv_iconst (v := (1 : Int32)) hx hb dX9_mayUse_31 (by decide) ?_
      refine lv_goto (tgt := 36) hx hb dX9_mayUse_32 (by decide) ?_
      obtain rfl := Option.some.inj hF
      exact J5 _ _ _ hP hD hS (lv_sub hl [0, 1] rfl)
    · rw [if_neg c6] at hF
      refine lv_aload_n hx hb dX9_mayUse_14 rfl (lv_at hl 0 rfl) ?_
      refine va_get (D := D) (ci := 9) (v := va_re ad (M.2 a 6)) (C := RX9) (T := TX9) (N := 20) hx hb hts (by decide +kernel) hown hK hP a (wld_o ct ad G M hc hk (by decide)) rfl 6 (by decide) (hts (.fieldLink RX9 24 "VideoSuite$Work" "info" "[I") (by decide +kernel)) (fun _ h9 => h9) rfl dX9_mayUse_15 ?_
      refine lv_bipush (v := (8 : Int32)) hx hb dX9_mayUse_18 (by decide) ?_
      refine lv_iload_n hx hb dX9_mayUse_20 rfl (lv_at hl 1 rfl) ?_
      refine lv_iconst (v := (4 : Int32)) hx hb dX9_mayUse_21 (by decide) ?_
      refine lv_ishr hx hb dX9_mayUse_22 ?_
      obtain ⟨x7, ex7, hF⟩ := ltt_some hF
      refine lv_topi (fun zx7 ezx7 => ?_)
      obtain rfl : x7 = zx7 := ex7.trans ezx7.symm
      refine lv_imul hx hb dX9_mayUse_23 ?_
      obtain ⟨x8, ex8, hF⟩ := ltt_some hF
      refine lv_topi (fun zx8 ezx8 => ?_)
      obtain rfl : x8 = zx8 := ex8.trans ezx8.symm
      refine lv_iconst (v := (0 : Int32)) hx hb dX9_mayUse_24 (by decide) ?_
      refine lv_iadd hx hb dX9_mayUse_25 ?_
      obtain ⟨x9, ex9, hF⟩ := ltt_some hF
      refine lv_topi (fun zx9 ezx9 => ?_)
      obtain rfl : x9 = zx9 := ex9.trans ezx9.symm
      obtain ⟨b10, ho10, hc10, hk10, hF⟩ := dr_some hF
      refine W_st (st' := [.int x9, .ref (ad b10)]) (by rw [va_some ho10]) ?_
      obtain ⟨hvc, hF⟩ := chk_some hF
      refine va_iald hx hb hK hP b10 1 (wld_i ct ad G M hc10 hk10) rfl hvc dX9_mayUse_26 ?_
      obtain ⟨x11, ex11, hF⟩ := ltt_some hF
      refine lv_topi (fun zx11 ezx11 => ?_)
      obtain rfl : x11 = zx11 := ex11.trans ezx11.symm
      refine lv_iconst (v := (3 : Int32)) hx hb dX9_mayUse_27 (by decide) ?_
      obtain ⟨y12, hy12, hF⟩ := bnd_some hF
      have J12 : ∀ (H : Heap) (locs : List Loc) (ls : Array Slot), va_P D classes (wld ct ad G M) H → va_D A (wld ct ad G M) → va_S A s.heap H locs → lv_has ls 2 [(0, .ref (ad a)), (1, .int p0)] → W p l e (headSpec wsX9_mayUse ({ frames := 0, cells := 0, slots := 0, locals := 0 })).room s m ([.ref (ad a), .int p0] : List Value).toArray below meth c H locs 0 0 (MQ below (va_Qi (fun (q : Int32) (_ : Unit) => q = y.2) (fun _ t => kE D ct ad G A y.1 t) A) ([.ref (ad a), .int p0] : List Value).toArray s 0 0 A) (F0 m 36 ls [.int y12]) := by
        intro H locs ls hP hD hS hl
        obtain rfl := Option.some.inj hF
        exact J5 _ _ _ hP hD hS (lv_sub hl [0, 1] rfl)
      clear hF
      have hF := hy12
      clear hy12
      refine lv_icmp_eq (tgt := 35) hx hb dX9_mayUse_28 (by decide) (fun c13 => ?_) (fun c13 => ?_)
      · rw [if_pos c13] at hF
        refine lv_iconst (v := (0 : Int32)) hx hb dX9_mayUse_35 (by decide) ?_
        obtain rfl := Option.some.inj hF
        exact J12 _ _ _ hP hD hS (lv_sub hl [0, 1] rfl)
      · rw [if_neg c13] at hF
        refine lv_iconst (v := (1 : Int32)) hx hb dX9_mayUse_31 (by decide) ?_
        refine lv_goto (tgt := 36) hx hb dX9_mayUse_32 (by decide) ?_
        obtain rfl := Option.some.inj hF
        exact J12 _ _ _ hP hD hS (lv_sub hl [0, 1] rfl)
theorem dX9_modeAt_0 : decode cX9_modeAt 0 = .ok (.iload_n 1, 1) := by decide +kernel
theorem dX9_modeAt_1 : decode cX9_modeAt 1 = .ok (.ifCond .ge 5, 3) := by decide +kernel
theorem dX9_modeAt_4 : decode cX9_modeAt 4 = .ok (.iconst (-1), 1) := by decide +kernel
theorem dX9_modeAt_5 : decode cX9_modeAt 5 = .ok (.ireturn, 1) := by decide +kernel
theorem dX9_modeAt_6 : decode cX9_modeAt 6 = .ok (.aload_n 0, 1) := by decide +kernel
theorem dX9_modeAt_7 : decode cX9_modeAt 7 = .ok (.getfield 24, 3) := by decide +kernel
theorem dX9_modeAt_10 : decode cX9_modeAt 10 = .ok (.bipush 8, 2) := by decide +kernel
theorem dX9_modeAt_12 : decode cX9_modeAt 12 = .ok (.iload_n 1, 1) := by decide +kernel
theorem dX9_modeAt_13 : decode cX9_modeAt 13 = .ok (.iconst 4, 1) := by decide +kernel
theorem dX9_modeAt_14 : decode cX9_modeAt 14 = .ok (.ishr, 1) := by decide +kernel
theorem dX9_modeAt_15 : decode cX9_modeAt 15 = .ok (.imul, 1) := by decide +kernel
theorem dX9_modeAt_16 : decode cX9_modeAt 16 = .ok (.iconst 0, 1) := by decide +kernel
theorem dX9_modeAt_17 : decode cX9_modeAt 17 = .ok (.iadd, 1) := by decide +kernel
theorem dX9_modeAt_18 : decode cX9_modeAt 18 = .ok (.iaload, 1) := by decide +kernel
theorem dX9_modeAt_19 : decode cX9_modeAt 19 = .ok (.istore_n 2, 1) := by decide +kernel
theorem dX9_modeAt_20 : decode cX9_modeAt 20 = .ok (.aload_n 0, 1) := by decide +kernel
theorem dX9_modeAt_21 : decode cX9_modeAt 21 = .ok (.getfield 119, 3) := by decide +kernel
theorem dX9_modeAt_24 : decode cX9_modeAt 24 = .ok (.bipush 10, 2) := by decide +kernel
theorem dX9_modeAt_26 : decode cX9_modeAt 26 = .ok (.iaload, 1) := by decide +kernel
theorem dX9_modeAt_27 : decode cX9_modeAt 27 = .ok (.iconst 1, 1) := by decide +kernel
theorem dX9_modeAt_28 : decode cX9_modeAt 28 = .ok (.if_icmp .ne 10, 3) := by decide +kernel
theorem dX9_modeAt_31 : decode cX9_modeAt 31 = .ok (.iload_n 2, 1) := by decide +kernel
theorem dX9_modeAt_32 : decode cX9_modeAt 32 = .ok (.iconst 3, 1) := by decide +kernel
theorem dX9_modeAt_33 : decode cX9_modeAt 33 = .ok (.if_icmp .ne 5, 3) := by decide +kernel
theorem dX9_modeAt_36 : decode cX9_modeAt 36 = .ok (.iconst (-1), 1) := by decide +kernel
theorem dX9_modeAt_37 : decode cX9_modeAt 37 = .ok (.ireturn, 1) := by decide +kernel
theorem dX9_modeAt_38 : decode cX9_modeAt 38 = .ok (.iload_n 2, 1) := by decide +kernel
theorem dX9_modeAt_39 : decode cX9_modeAt 39 = .ok (.ifCond .ne 12, 3) := by decide +kernel
theorem dX9_modeAt_42 : decode cX9_modeAt 42 = .ok (.aload_n 0, 1) := by decide +kernel
theorem dX9_modeAt_43 : decode cX9_modeAt 43 = .ok (.getfield 27, 3) := by decide +kernel
theorem dX9_modeAt_46 : decode cX9_modeAt 46 = .ok (.iload_n 1, 1) := by decide +kernel
theorem dX9_modeAt_47 : decode cX9_modeAt 47 = .ok (.iaload, 1) := by decide +kernel
theorem dX9_modeAt_48 : decode cX9_modeAt 48 = .ok (.goto 4, 3) := by decide +kernel
theorem dX9_modeAt_51 : decode cX9_modeAt 51 = .ok (.iconst 2, 1) := by decide +kernel
theorem dX9_modeAt_52 : decode cX9_modeAt 52 = .ok (.ireturn, 1) := by decide +kernel
def FX9_modeAt (G : GG) (M : DD) (a : Nat) (p0 : Int32) : Option (DD × Int32) :=
  if ((0 : Int32)) ≤ p0 then (ltt ((p0 >>> (((4 : Int32)) &&& 31))) fun x2 =>
  ltt ((((8 : Int32)) * x2)) fun x3 =>
  ltt ((x3 + ((0 : Int32)))) fun x4 =>
  dr G 13 ((M.2 a 6)) fun b5 =>
  chk (¬ (x4 < 0 ∨ G.2.2 b5 ≤ x4.toNatClampNeg)) <|
  ltt (M.1 b5 x4.toNatClampNeg) fun x6 =>
  dr G 13 ((M.2 a 2)) fun b7 =>
  chk (¬ (((10 : Int32)) < 0 ∨ G.2.2 b7 ≤ ((10 : Int32)).toNatClampNeg)) <|
  ltt (M.1 b7 ((10 : Int32)).toNatClampNeg) fun x8 =>
  if x8 = ((1 : Int32)) then (if x6 = ((3 : Int32)) then (some (M, (-1 : Int32))) else
  (bnd (if x6 = ((0 : Int32)) then (dr G 13 ((M.2 a 7)) fun b17 =>
  chk (¬ (p0 < 0 ∨ G.2.2 b17 ≤ p0.toNatClampNeg)) <|
  ltt (M.1 b17 p0.toNatClampNeg) fun x18 =>
  some (x18)) else
  (some ((2 : Int32)))) fun (y15 : Int32) =>
  some (M, y15))) else
  (bnd (if x6 = ((0 : Int32)) then (dr G 13 ((M.2 a 7)) fun b12 =>
  chk (¬ (p0 < 0 ∨ G.2.2 b12 ≤ p0.toNatClampNeg)) <|
  ltt (M.1 b12 p0.toNatClampNeg) fun x13 =>
  some (x13)) else
  (some ((2 : Int32)))) fun (y10 : Int32) =>
  some (M, y10))) else
  (some (M, (-1 : Int32)))
set_option maxHeartbeats 4000000 in
set_option maxRecDepth 100000 in
theorem kX9_modeAt (l : Launch) (D : va_G) (ct : CT) (ad : Nat → Nat) (Z : Nat → Nat) (G : GG) (M : DD) (sz : Nat) (a : Nat) (p0 : Int32) (y : DD × Int32) (hc : a < G.1) (hk : G.2.1 a = 9) (hF : FX9_modeAt G M a p0 = some y) : Met l yX9_modeAt wsX9_modeAt ({ frames := 0, cells := 0, slots := 0, locals := 0 }) (va_Pc [.ref (ad a), .int p0] (kB D ct ad Z G M sz)) (va_Qi (fun (q : Int32) (_ : Unit) => q = y.2) (fun _ t => kE D ct ad G (wA ad G sz) y.1 t) (wA ad G sz)) 0 0 (wA ad G sz) := by
  refine Met.ofW (cc := cX9_modeAt) (maxL := 3) (ret := (some .int)) (by decide) rfl ?_
  intro p e s m args below meth c s₁ B hml hv
  obtain ⟨rfl, hsz, hP, hK, hD0, hZ, hN⟩ := hv
  have hx := B.exec
  have hb := B.bytes
  have hr := B.returns
  have hts := atoms_spec (ws := wsX9_modeAt) B.pre
  have hown : s.vm.findClass RX9 = some m.cls := findClass_of_methodNamed B.named
  have hlocks := B.notSynchronized
  subst hsz
  have hD := wD_self (sz := s.heap.size) hD0
  have hA9 : ∀ q, s.heap.size ≤ q → wA ad G s.heap.size q := fun q h => Or.inr h
  generalize hAe : wA ad G s.heap.size = A at hD hA9 hZ ⊢
  have hS : va_S A s.heap s.heap [] := va_S.rf
  have hl := lv_entry ([.ref (ad a), .int p0]) (n := 3) (Nat.le_of_ble_eq_true rfl)
  rw [lg_entry_eq]
  generalize (lg_sl ([.ref (ad a), .int p0]) ++ List.replicate (3 - (lg_sl ([.ref (ad a), .int p0])).length) Slot.unset).toArray = ls at hl ⊢
  have hl : lv_has ls 3 [(0, .ref (ad a)), (1, .int p0)] := hl
  unfold FX9_modeAt at hF
  refine lv_iload_n hx hb dX9_modeAt_0 rfl (lv_at hl 1 rfl) ?_
  refine lv_if_ge (tgt := 6) hx hb dX9_modeAt_1 (by decide) (fun c1 => ?_) (fun c1 => ?_)
  · rw [if_pos c1] at hF
    refine lv_aload_n hx hb dX9_modeAt_6 rfl (lv_at hl 0 rfl) ?_
    refine va_get (D := D) (ci := 9) (v := va_re ad (M.2 a 6)) (C := RX9) (T := TX9) (N := 20) hx hb hts (by decide +kernel) hown hK hP a (wld_o ct ad G M hc hk (by decide)) rfl 6 (by decide) (hts (.fieldLink RX9 24 "VideoSuite$Work" "info" "[I") (by decide +kernel)) (fun _ h9 => h9) rfl dX9_modeAt_7 ?_
    refine lv_bipush (v := (8 : Int32)) hx hb dX9_modeAt_10 (by decide) ?_
    refine lv_iload_n hx hb dX9_modeAt_12 rfl (lv_at hl 1 rfl) ?_
    refine lv_iconst (v := (4 : Int32)) hx hb dX9_modeAt_13 (by decide) ?_
    refine lv_ishr hx hb dX9_modeAt_14 ?_
    obtain ⟨x2, ex2, hF⟩ := ltt_some hF
    refine lv_topi (fun zx2 ezx2 => ?_)
    obtain rfl : x2 = zx2 := ex2.trans ezx2.symm
    refine lv_imul hx hb dX9_modeAt_15 ?_
    obtain ⟨x3, ex3, hF⟩ := ltt_some hF
    refine lv_topi (fun zx3 ezx3 => ?_)
    obtain rfl : x3 = zx3 := ex3.trans ezx3.symm
    refine lv_iconst (v := (0 : Int32)) hx hb dX9_modeAt_16 (by decide) ?_
    refine lv_iadd hx hb dX9_modeAt_17 ?_
    obtain ⟨x4, ex4, hF⟩ := ltt_some hF
    refine lv_topi (fun zx4 ezx4 => ?_)
    obtain rfl : x4 = zx4 := ex4.trans ezx4.symm
    obtain ⟨b5, ho5, hc5, hk5, hF⟩ := dr_some hF
    refine W_st (st' := [.int x4, .ref (ad b5)]) (by rw [va_some ho5]) ?_
    obtain ⟨hvc, hF⟩ := chk_some hF
    refine va_iald hx hb hK hP b5 1 (wld_i ct ad G M hc5 hk5) rfl hvc dX9_modeAt_18 ?_
    obtain ⟨x6, ex6, hF⟩ := ltt_some hF
    refine lv_topi (fun zx6 ezx6 => ?_)
    obtain rfl : x6 = zx6 := ex6.trans ezx6.symm
    refine lv_istore_n (lv' := [(2, .int x6), (0, .ref (ad a)), (1, .int p0)]) hx hb dX9_modeAt_19 rfl hl (by decide) rfl (fun ls hl => ?_)
    refine lv_aload_n hx hb dX9_modeAt_20 rfl (lv_at hl 1 rfl) ?_
    refine va_get (D := D) (ci := 9) (v := va_re ad (M.2 a 2)) (C := RX9) (T := TX9) (N := 20) hx hb hts (by decide +kernel) hown hK hP a (wld_o ct ad G M hc hk (by decide)) rfl 2 (by decide) (hts (.fieldLink RX9 119 "VideoSuite$Work" "par" "[I") (by decide +kernel)) (fun _ h9 => h9) rfl dX9_modeAt_21 ?_
    refine lv_bipush (v := (10 : Int32)) hx hb dX9_modeAt_24 (by decide) ?_
    obtain ⟨b7, ho7, hc7, hk7, hF⟩ := dr_some hF
    refine W_st (st' := [.int (10 : Int32), .ref (ad b7)]) (by rw [va_some ho7]) ?_
    obtain ⟨hvc, hF⟩ := chk_some hF
    refine va_iald hx hb hK hP b7 1 (wld_i ct ad G M hc7 hk7) rfl hvc dX9_modeAt_26 ?_
    obtain ⟨x8, ex8, hF⟩ := ltt_some hF
    refine lv_topi (fun zx8 ezx8 => ?_)
    obtain rfl : x8 = zx8 := ex8.trans ezx8.symm
    refine lv_iconst (v := (1 : Int32)) hx hb dX9_modeAt_27 (by decide) ?_
    refine lv_icmp_ne (tgt := 38) hx hb dX9_modeAt_28 (by decide) (fun c9 => ?_) (fun c9 => ?_)
    · rw [if_neg c9] at hF
      refine lv_iload_n hx hb dX9_modeAt_38 rfl (lv_at hl 0 rfl) ?_
      obtain ⟨y10, hy10, hF⟩ := bnd_some hF
      have J10 : ∀ (H : Heap) (locs : List Loc) (ls : Array Slot), va_P D classes (wld ct ad G M) H → va_D A (wld ct ad G M) → va_S A s.heap H locs → lv_has ls 3 [(2, .int x6), (0, .ref (ad a)), (1, .int p0)] → W p l e (headSpec wsX9_modeAt ({ frames := 0, cells := 0, slots := 0, locals := 0 })).room s m ([.ref (ad a), .int p0] : List Value).toArray below meth c H locs 0 0 (MQ below (va_Qi (fun (q : Int32) (_ : Unit) => q = y.2) (fun _ t => kE D ct ad G A y.1 t) A) ([.ref (ad a), .int p0] : List Value).toArray s 0 0 A) (F0 m 52 ls [.int y10]) := by
        intro H locs ls hP hD hS hl
        obtain rfl := Option.some.inj hF
        exact W.iret (v := y10) hx hb hr (fun t ht hW => ⟨⟨_, (), rfl, rfl, ⟨by rw [ht]; exact hP, va_K.moved hW.alike hK, hD⟩⟩, hS.F ht⟩) hS.2.2 dX9_modeAt_52
      clear hF
      have hF := hy10
      clear hy10
      refine lv_if_ne (tgt := 51) hx hb dX9_modeAt_39 (by decide) (fun c11 => ?_) (fun c11 => ?_)
      · rw [if_neg c11] at hF
        refine lv_iconst (v := (2 : Int32)) hx hb dX9_modeAt_51 (by decide) ?_
        obtain rfl := Option.some.inj hF
        exact J10 _ _ _ hP hD hS (lv_sub hl [0, 1, 2] rfl)
      · rw [if_pos c11] at hF
        refine lv_aload_n hx hb dX9_modeAt_42 rfl (lv_at hl 1 rfl) ?_
        refine va_get (D := D) (ci := 9) (v := va_re ad (M.2 a 7)) (C := RX9) (T := TX9) (N := 20) hx hb hts (by decide +kernel) hown hK hP a (wld_o ct ad G M hc hk (by decide)) rfl 7 (by decide) (hts (.fieldLink RX9 27 "VideoSuite$Work" "mode" "[I") (by decide +kernel)) (fun _ h9 => h9) rfl dX9_modeAt_43 ?_
        refine lv_iload_n hx hb dX9_modeAt_46 rfl (lv_at hl 2 rfl) ?_
        obtain ⟨b12, ho12, hc12, hk12, hF⟩ := dr_some hF
        refine W_st (st' := [.int p0, .ref (ad b12)]) (by rw [va_some ho12]) ?_
        obtain ⟨hvc, hF⟩ := chk_some hF
        refine va_iald hx hb hK hP b12 1 (wld_i ct ad G M hc12 hk12) rfl hvc dX9_modeAt_47 ?_
        obtain ⟨x13, ex13, hF⟩ := ltt_some hF
        refine lv_topi (fun zx13 ezx13 => ?_)
        obtain rfl : x13 = zx13 := ex13.trans ezx13.symm
        refine lv_goto (tgt := 52) hx hb dX9_modeAt_48 (by decide) ?_
        obtain rfl := Option.some.inj hF
        exact J10 _ _ _ hP hD hS (lv_sub hl [0, 1, 2] rfl)
    · rw [if_pos c9] at hF
      refine lv_iload_n hx hb dX9_modeAt_31 rfl (lv_at hl 0 rfl) ?_
      refine lv_iconst (v := (3 : Int32)) hx hb dX9_modeAt_32 (by decide) ?_
      refine lv_icmp_ne (tgt := 38) hx hb dX9_modeAt_33 (by decide) (fun c14 => ?_) (fun c14 => ?_)
      · rw [if_neg c14] at hF
        refine lv_iload_n hx hb dX9_modeAt_38 rfl (lv_at hl 0 rfl) ?_
        obtain ⟨y15, hy15, hF⟩ := bnd_some hF
        have J15 : ∀ (H : Heap) (locs : List Loc) (ls : Array Slot), va_P D classes (wld ct ad G M) H → va_D A (wld ct ad G M) → va_S A s.heap H locs → lv_has ls 3 [(2, .int x6), (0, .ref (ad a)), (1, .int p0)] → W p l e (headSpec wsX9_modeAt ({ frames := 0, cells := 0, slots := 0, locals := 0 })).room s m ([.ref (ad a), .int p0] : List Value).toArray below meth c H locs 0 0 (MQ below (va_Qi (fun (q : Int32) (_ : Unit) => q = y.2) (fun _ t => kE D ct ad G A y.1 t) A) ([.ref (ad a), .int p0] : List Value).toArray s 0 0 A) (F0 m 52 ls [.int y15]) := by
          intro H locs ls hP hD hS hl
          obtain rfl := Option.some.inj hF
          exact W.iret (v := y15) hx hb hr (fun t ht hW => ⟨⟨_, (), rfl, rfl, ⟨by rw [ht]; exact hP, va_K.moved hW.alike hK, hD⟩⟩, hS.F ht⟩) hS.2.2 dX9_modeAt_52
        clear hF
        have hF := hy15
        clear hy15
        refine lv_if_ne (tgt := 51) hx hb dX9_modeAt_39 (by decide) (fun c16 => ?_) (fun c16 => ?_)
        · rw [if_neg c16] at hF
          refine lv_iconst (v := (2 : Int32)) hx hb dX9_modeAt_51 (by decide) ?_
          obtain rfl := Option.some.inj hF
          exact J15 _ _ _ hP hD hS (lv_sub hl [0, 1, 2] rfl)
        · rw [if_pos c16] at hF
          refine lv_aload_n hx hb dX9_modeAt_42 rfl (lv_at hl 1 rfl) ?_
          refine va_get (D := D) (ci := 9) (v := va_re ad (M.2 a 7)) (C := RX9) (T := TX9) (N := 20) hx hb hts (by decide +kernel) hown hK hP a (wld_o ct ad G M hc hk (by decide)) rfl 7 (by decide) (hts (.fieldLink RX9 27 "VideoSuite$Work" "mode" "[I") (by decide +kernel)) (fun _ h9 => h9) rfl dX9_modeAt_43 ?_
          refine lv_iload_n hx hb dX9_modeAt_46 rfl (lv_at hl 2 rfl) ?_
          obtain ⟨b17, ho17, hc17, hk17, hF⟩ := dr_some hF
          refine W_st (st' := [.int p0, .ref (ad b17)]) (by rw [va_some ho17]) ?_
          obtain ⟨hvc, hF⟩ := chk_some hF
          refine va_iald hx hb hK hP b17 1 (wld_i ct ad G M hc17 hk17) rfl hvc dX9_modeAt_47 ?_
          obtain ⟨x18, ex18, hF⟩ := ltt_some hF
          refine lv_topi (fun zx18 ezx18 => ?_)
          obtain rfl : x18 = zx18 := ex18.trans ezx18.symm
          refine lv_goto (tgt := 52) hx hb dX9_modeAt_48 (by decide) ?_
          obtain rfl := Option.some.inj hF
          exact J15 _ _ _ hP hD hS (lv_sub hl [0, 1, 2] rfl)
      · rw [if_pos c14] at hF
        refine lv_iconst (v := (-1 : Int32)) hx hb dX9_modeAt_36 (by decide) ?_
        obtain rfl := Option.some.inj hF
        exact W.iret (v := (-1 : Int32)) hx hb hr (fun t ht hW => ⟨⟨_, (), rfl, rfl, ⟨by rw [ht]; exact hP, va_K.moved hW.alike hK, hD⟩⟩, hS.F ht⟩) hS.2.2 dX9_modeAt_37
  · rw [if_neg c1] at hF
    refine lv_iconst (v := (-1 : Int32)) hx hb dX9_modeAt_4 (by decide) ?_
    obtain rfl := Option.some.inj hF
    exact W.iret (v := (-1 : Int32)) hx hb hr (fun t ht hW => ⟨⟨_, (), rfl, rfl, ⟨by rw [ht]; exact hP, va_K.moved hW.alike hK, hD⟩⟩, hS.F ht⟩) hS.2.2 dX9_modeAt_5
theorem dX9_noteEntries_0 : decode cX9_noteEntries 0 = .ok (.iconst 0, 1) := by decide +kernel
theorem dX9_noteEntries_1 : decode cX9_noteEntries 1 = .ok (.istore_n 1, 1) := by decide +kernel
theorem dX9_noteEntries_2 : decode cX9_noteEntries 2 = .ok (.iload_n 1, 1) := by decide +kernel
theorem dX9_noteEntries_3 : decode cX9_noteEntries 3 = .ok (.bipush 18, 2) := by decide +kernel
theorem dX9_noteEntries_5 : decode cX9_noteEntries 5 = .ok (.if_icmp .ge 57, 3) := by decide +kernel
theorem dX9_noteEntries_8 : decode cX9_noteEntries 8 = .ok (.aload_n 0, 1) := by decide +kernel
theorem dX9_noteEntries_9 : decode cX9_noteEntries 9 = .ok (.getfield 17, 3) := by decide +kernel
theorem dX9_noteEntries_12 : decode cX9_noteEntries 12 = .ok (.iload_n 1, 1) := by decide +kernel
theorem dX9_noteEntries_13 : decode cX9_noteEntries 13 = .ok (.aload_n 0, 1) := by decide +kernel
theorem dX9_noteEntries_14 : decode cX9_noteEntries 14 = .ok (.getfield 11, 3) := by decide +kernel
theorem dX9_noteEntries_17 : decode cX9_noteEntries 17 = .ok (.iload_n 1, 1) := by decide +kernel
theorem dX9_noteEntries_18 : decode cX9_noteEntries 18 = .ok (.aaload, 1) := by decide +kernel
theorem dX9_noteEntries_19 : decode cX9_noteEntries 19 = .ok (.ifnonnull 7, 3) := by decide +kernel
theorem dX9_noteEntries_22 : decode cX9_noteEntries 22 = .ok (.iconst 0, 1) := by decide +kernel
theorem dX9_noteEntries_23 : decode cX9_noteEntries 23 = .ok (.goto 4, 3) := by decide +kernel
theorem dX9_noteEntries_26 : decode cX9_noteEntries 26 = .ok (.iconst 1, 1) := by decide +kernel
theorem dX9_noteEntries_27 : decode cX9_noteEntries 27 = .ok (.iastore, 1) := by decide +kernel
theorem dX9_noteEntries_28 : decode cX9_noteEntries 28 = .ok (.aload_n 0, 1) := by decide +kernel
theorem dX9_noteEntries_29 : decode cX9_noteEntries 29 = .ok (.getfield 21, 3) := by decide +kernel
theorem dX9_noteEntries_32 : decode cX9_noteEntries 32 = .ok (.iload_n 1, 1) := by decide +kernel
theorem dX9_noteEntries_33 : decode cX9_noteEntries 33 = .ok (.aload_n 0, 1) := by decide +kernel
theorem dX9_noteEntries_34 : decode cX9_noteEntries 34 = .ok (.getfield 11, 3) := by decide +kernel
theorem dX9_noteEntries_37 : decode cX9_noteEntries 37 = .ok (.iload_n 1, 1) := by decide +kernel
theorem dX9_noteEntries_38 : decode cX9_noteEntries 38 = .ok (.aaload, 1) := by decide +kernel
theorem dX9_noteEntries_39 : decode cX9_noteEntries 39 = .ok (.ifnonnull 7, 3) := by decide +kernel
theorem dX9_noteEntries_42 : decode cX9_noteEntries 42 = .ok (.iconst 0, 1) := by decide +kernel
theorem dX9_noteEntries_43 : decode cX9_noteEntries 43 = .ok (.goto 12, 3) := by decide +kernel
theorem dX9_noteEntries_46 : decode cX9_noteEntries 46 = .ok (.aload_n 0, 1) := by decide +kernel
theorem dX9_noteEntries_47 : decode cX9_noteEntries 47 = .ok (.getfield 11, 3) := by decide +kernel
theorem dX9_noteEntries_50 : decode cX9_noteEntries 50 = .ok (.iload_n 1, 1) := by decide +kernel
theorem dX9_noteEntries_51 : decode cX9_noteEntries 51 = .ok (.aaload, 1) := by decide +kernel
theorem dX9_noteEntries_52 : decode cX9_noteEntries 52 = .ok (.getfield 105, 3) := by decide +kernel
theorem dX9_noteEntries_55 : decode cX9_noteEntries 55 = .ok (.iastore, 1) := by decide +kernel
theorem dX9_noteEntries_56 : decode cX9_noteEntries 56 = .ok (.iinc 1 1, 3) := by decide +kernel
theorem dX9_noteEntries_59 : decode cX9_noteEntries 59 = .ok (.goto (-57), 3) := by decide +kernel
theorem dX9_noteEntries_62 : decode cX9_noteEntries 62 = .ok (.return_, 1) := by decide +kernel
def FX9_noteEntries (G : GG) (M : DD) (a : Nat)  : Option (DD) :=
  bnd (itr (fun (s2 : Int32 × DD) => ((if ((18 : Int32)) ≤ s2.1 then (some (.inr (s2.1, s2.2))) else
  (dr G 14 ((s2.2.2 a 3)) fun b6 =>
  chk (¬ (s2.1 < 0 ∨ G.2.2 b6 ≤ s2.1.toNatClampNeg)) <|
  bnd (if ((s2.2.2 b6 s2.1.toNatClampNeg)) = none then (some ((0 : Int32))) else
  (some ((1 : Int32)))) fun (y7 : Int32) =>
  dr G 13 ((s2.2.2 a 4)) fun b8 =>
  chk (¬ (s2.1 < 0 ∨ G.2.2 b8 ≤ s2.1.toNatClampNeg)) <|
  ltt (uI s2.2 b8 s2.1.toNatClampNeg y7) fun M9 =>
  dr G 14 ((M9.2 a 3)) fun b10 =>
  chk (¬ (s2.1 < 0 ∨ G.2.2 b10 ≤ s2.1.toNatClampNeg)) <|
  bnd (if ((M9.2 b10 s2.1.toNatClampNeg)) = none then (some ((0 : Int32))) else
  (chk (¬ (s2.1 < 0 ∨ G.2.2 b10 ≤ s2.1.toNatClampNeg)) <|
  dr G 4 ((M9.2 b10 s2.1.toNatClampNeg)) fun b16 =>
  ltt (M9.1 b16 9) fun x17 =>
  some (x17))) fun (y11 : Int32) =>
  dr G 13 ((M9.2 a 5)) fun b12 =>
  chk (¬ (s2.1 < 0 ∨ G.2.2 b12 ≤ s2.1.toNatClampNeg)) <|
  ltt (uI M9 b12 s2.1.toNatClampNeg y11) fun M13 =>
  ltt (s2.1 + (1 : Int32)) fun x14 =>
  some (.inl (x14, M13)))) : Option ((Int32 × DD) ⊕ (Int32 × DD)))) 1000000 ((0 : Int32), M)) fun (y1 : Int32 × DD) =>
  some y1.2
set_option maxHeartbeats 4000000 in
set_option maxRecDepth 100000 in
theorem kX9_noteEntries (l : Launch) (D : va_G) (ct : CT) (ad : Nat → Nat) (Z : Nat → Nat) (G : GG) (M : DD) (sz : Nat) (a : Nat)  (y : DD) (hc : a < G.1) (hk : G.2.1 a = 9) (hF : FX9_noteEntries G M a  = some y) : Met l yX9_noteEntries wsX9_noteEntries ({ frames := 0, cells := 0, slots := 0, locals := 0 }) (va_Pc [.ref (ad a)] (kB D ct ad Z G M sz)) (va_Qv (fun (_ : Unit) => True) (fun _ t => kE D ct ad G (wA ad G sz) y t) (wA ad G sz)) 0 0 (wA ad G sz) := by
  refine Met.ofW (cc := cX9_noteEntries) (maxL := 2) (ret := none) (by decide) rfl ?_
  intro p e s m args below meth c s₁ B hml hv
  obtain ⟨rfl, hsz, hP, hK, hD0, hZ, hN⟩ := hv
  have hx := B.exec
  have hb := B.bytes
  have hr := B.returns
  have hts := atoms_spec (ws := wsX9_noteEntries) B.pre
  have hown : s.vm.findClass RX9 = some m.cls := findClass_of_methodNamed B.named
  have hlocks := B.notSynchronized
  subst hsz
  have hD := wD_self (sz := s.heap.size) hD0
  have hA9 : ∀ q, s.heap.size ≤ q → wA ad G s.heap.size q := fun q h => Or.inr h
  generalize hAe : wA ad G s.heap.size = A at hD hA9 hZ ⊢
  have hS : va_S A s.heap s.heap [] := va_S.rf
  have hl := lv_entry ([.ref (ad a)]) (n := 2) (Nat.le_of_ble_eq_true rfl)
  rw [lg_entry_eq]
  generalize (lg_sl ([.ref (ad a)]) ++ List.replicate (2 - (lg_sl ([.ref (ad a)])).length) Slot.unset).toArray = ls at hl ⊢
  have hl : lv_has ls 2 [(0, .ref (ad a))] := hl
  unfold FX9_noteEntries at hF
  refine lv_iconst (v := (0 : Int32)) hx hb dX9_noteEntries_0 (by decide) ?_
  refine lv_istore_n (lv' := [(1, .int (0 : Int32)), (0, .ref (ad a))]) hx hb dX9_noteEntries_1 rfl hl (by decide) rfl (fun ls hl => ?_)
  obtain ⟨y1, hy1, hF⟩ := bnd_some hF
  have K1 : ∀ (H : Heap) (locs : List Loc) (ls : Array Slot), va_P D classes (wld ct ad G y1.2) H → va_D A (wld ct ad G y1.2) → va_S A s.heap H locs → lv_has ls 2 [(1, .int y1.1), (0, .ref (ad a))] → W p l e (headSpec wsX9_noteEntries ({ frames := 0, cells := 0, slots := 0, locals := 0 })).room s m ([.ref (ad a)] : List Value).toArray below meth c H locs 0 0 (MQ below (va_Qv (fun (_ : Unit) => True) (fun _ t => kE D ct ad G A y t) A) ([.ref (ad a)] : List Value).toArray s 0 0 A) (F0 m 62 ls []) := by
    intro H locs ls hP hD hS hl
    obtain rfl := Option.some.inj hF
    exact W.vret hx hb hr (fun t ht hW => ⟨⟨(), rfl, trivial, ⟨by rw [ht]; exact hP, va_K.moved hW.alike hK, hD⟩⟩, hS.F ht⟩) hS.2.2 dX9_noteEntries_62
  clear hF
  refine itr_rule (fun (s2 : Int32 × DD) => ∀ (H : Heap) (locs : List Loc) (ls : Array Slot), va_P D classes (wld ct ad G s2.2) H → va_D A (wld ct ad G s2.2) → va_S A s.heap H locs → lv_has ls 2 [(1, .int s2.1), (0, .ref (ad a))] → W p l e (headSpec wsX9_noteEntries ({ frames := 0, cells := 0, slots := 0, locals := 0 })).room s m ([.ref (ad a)] : List Value).toArray below meth c H locs 0 0 (MQ below (va_Qv (fun (_ : Unit) => True) (fun _ t => kE D ct ad G A y t) A) ([.ref (ad a)] : List Value).toArray s 0 0 A) (F0 m 2 ls [])) ?_ _ _ hy1 _ _ _ hP hD hS (lv_sub hl [0, 1] rfl)
  rintro s2 ⟨z4, hF, hwz4⟩ H locs ls hP hD hS hl
  try dsimp only at hF
  refine lv_iload_n hx hb dX9_noteEntries_2 rfl (lv_at hl 0 rfl) ?_
  refine lv_bipush (v := (18 : Int32)) hx hb dX9_noteEntries_3 (by decide) ?_
  refine lv_icmp_ge (tgt := 62) hx hb dX9_noteEntries_5 (by decide) (fun c5 => ?_) (fun c5 => ?_)
  · rw [if_pos c5] at hF
    obtain rfl := Option.some.inj hF
    subst hwz4
    exact K1 _ _ _ hP hD hS (lv_sub hl [0, 1] rfl)
  · rw [if_neg c5] at hF
    refine lv_aload_n hx hb dX9_noteEntries_8 rfl (lv_at hl 1 rfl) ?_
    refine va_get (D := D) (ci := 9) (v := va_re ad (s2.2.2 a 4)) (C := RX9) (T := TX9) (N := 20) hx hb hts (by decide +kernel) hown hK hP a (wld_o ct ad G s2.2 hc hk (by decide)) rfl 4 (by decide) (hts (.fieldLink RX9 17 "VideoSuite$Work" "entryThere" "[I") (by decide +kernel)) (fun _ h9 => h9) rfl dX9_noteEntries_9 ?_
    refine lv_iload_n hx hb dX9_noteEntries_12 rfl (lv_at hl 0 rfl) ?_
    refine lv_aload_n hx hb dX9_noteEntries_13 rfl (lv_at hl 1 rfl) ?_
    refine va_get (D := D) (ci := 9) (v := va_re ad (s2.2.2 a 3)) (C := RX9) (T := TX9) (N := 20) hx hb hts (by decide +kernel) hown hK hP a (wld_o ct ad G s2.2 hc hk (by decide)) rfl 3 (by decide) (hts (.fieldLink RX9 11 "VideoSuite$Work" "lists" "[LVideoSuite$Picture;") (by decide +kernel)) (fun _ h9 => h9) rfl dX9_noteEntries_14 ?_
    refine lv_iload_n hx hb dX9_noteEntries_17 rfl (lv_at hl 0 rfl) ?_
    obtain ⟨b6, ho6, hc6, hk6, hF⟩ := dr_some hF
    refine W_st (st' := [.int s2.1, .ref (ad b6), .int s2.1, va_re ad (s2.2.2 a 4)]) (by rw [va_some ho6]) ?_
    obtain ⟨hvc, hF⟩ := chk_some hF
    refine ld_q hx hb hK hP hc6 hk6 hvc dX9_noteEntries_18 ?_
    obtain ⟨y7, hy7, hF⟩ := bnd_some hF
    have J7 : ∀ (H : Heap) (locs : List Loc) (ls : Array Slot), va_P D classes (wld ct ad G s2.2) H → va_D A (wld ct ad G s2.2) → va_S A s.heap H locs → lv_has ls 2 [(1, .int s2.1), (0, .ref (ad a))] → W p l e (headSpec wsX9_noteEntries ({ frames := 0, cells := 0, slots := 0, locals := 0 })).room s m ([.ref (ad a)] : List Value).toArray below meth c H locs 0 0 (MQ below (va_Qv (fun (_ : Unit) => True) (fun _ t => kE D ct ad G A y t) A) ([.ref (ad a)] : List Value).toArray s 0 0 A) (F0 m 27 ls [.int y7, .int s2.1, va_re ad (s2.2.2 a 4)]) := by
      intro H locs ls hP hD hS hl
      obtain ⟨b8, ho8, hc8, hk8, hF⟩ := dr_some hF
      refine W_st (st' := [.int y7, .int s2.1, .ref (ad b8)]) (by rw [va_some ho8]) ?_
      obtain ⟨hvc, hF⟩ := chk_some hF
      refine va_iast hx hb hK hP hD hS b8 1 (wld_i ct ad G s2.2 hc8 hk8) rfl hvc dX9_noteEntries_27 (fun H locs hP hD hS => ?_)
      obtain ⟨M9, eM9, hF⟩ := ltt_some hF
      rw [set_i ct ad G s2.2 hc8 hk8, ← eM9] at hP hD
      refine lv_aload_n hx hb dX9_noteEntries_28 rfl (lv_at hl 1 rfl) ?_
      refine va_get (D := D) (ci := 9) (v := va_re ad (M9.2 a 5)) (C := RX9) (T := TX9) (N := 20) hx hb hts (by decide +kernel) hown hK hP a (wld_o ct ad G M9 hc hk (by decide)) rfl 5 (by decide) (hts (.fieldLink RX9 21 "VideoSuite$Work" "entryOrder" "[I") (by decide +kernel)) (fun _ h9 => h9) rfl dX9_noteEntries_29 ?_
      refine lv_iload_n hx hb dX9_noteEntries_32 rfl (lv_at hl 0 rfl) ?_
      refine lv_aload_n hx hb dX9_noteEntries_33 rfl (lv_at hl 1 rfl) ?_
      refine va_get (D := D) (ci := 9) (v := va_re ad (M9.2 a 3)) (C := RX9) (T := TX9) (N := 20) hx hb hts (by decide +kernel) hown hK hP a (wld_o ct ad G M9 hc hk (by decide)) rfl 3 (by decide) (hts (.fieldLink RX9 11 "VideoSuite$Work" "lists" "[LVideoSuite$Picture;") (by decide +kernel)) (fun _ h9 => h9) rfl dX9_noteEntries_34 ?_
      refine lv_iload_n hx hb dX9_noteEntries_37 rfl (lv_at hl 0 rfl) ?_
      obtain ⟨b10, ho10, hc10, hk10, hF⟩ := dr_some hF
      refine W_st (st' := [.int s2.1, .ref (ad b10), .int s2.1, va_re ad (M9.2 a 5)]) (by rw [va_some ho10]) ?_
      obtain ⟨hvc, hF⟩ := chk_some hF
      refine ld_q hx hb hK hP hc10 hk10 hvc dX9_noteEntries_38 ?_
      obtain ⟨y11, hy11, hF⟩ := bnd_some hF
      have J11 : ∀ (H : Heap) (locs : List Loc) (ls : Array Slot), va_P D classes (wld ct ad G M9) H → va_D A (wld ct ad G M9) → va_S A s.heap H locs → lv_has ls 2 [(1, .int s2.1), (0, .ref (ad a))] → W p l e (headSpec wsX9_noteEntries ({ frames := 0, cells := 0, slots := 0, locals := 0 })).room s m ([.ref (ad a)] : List Value).toArray below meth c H locs 0 0 (MQ below (va_Qv (fun (_ : Unit) => True) (fun _ t => kE D ct ad G A y t) A) ([.ref (ad a)] : List Value).toArray s 0 0 A) (F0 m 55 ls [.int y11, .int s2.1, va_re ad (M9.2 a 5)]) := by
        intro H locs ls hP hD hS hl
        obtain ⟨b12, ho12, hc12, hk12, hF⟩ := dr_some hF
        refine W_st (st' := [.int y11, .int s2.1, .ref (ad b12)]) (by rw [va_some ho12]) ?_
        obtain ⟨hvc, hF⟩ := chk_some hF
        refine va_iast hx hb hK hP hD hS b12 1 (wld_i ct ad G M9 hc12 hk12) rfl hvc dX9_noteEntries_55 (fun H locs hP hD hS => ?_)
        obtain ⟨M13, eM13, hF⟩ := ltt_some hF
        rw [set_i ct ad G M9 hc12 hk12, ← eM13] at hP hD
        obtain ⟨x14, ex14, hF⟩ := ltt_some hF
        refine lv_iinc (v := x14) (lv' := [(1, .int x14), (0, .ref (ad a))]) hx hb dX9_noteEntries_56 hl (k := 0) rfl (by rw [ex14]; rfl) (by decide) rfl (fun ls hl => ?_)
        refine lv_goto (tgt := 2) hx hb dX9_noteEntries_59 (by decide) ?_
        obtain rfl := Option.some.inj hF
        exact hwz4 _ _ _ hP hD hS (lv_sub hl [0, 1] rfl)
      clear hF
      have hF := hy11
      clear hy11
      refine lv_ifnonnullq (tgt := 46) hx hb dX9_noteEntries_39 (by decide) (fun c15 => ?_) (fun c15 => ?_)
      · rw [if_neg c15] at hF
        refine lv_aload_n hx hb dX9_noteEntries_46 rfl (lv_at hl 1 rfl) ?_
        refine va_get (D := D) (ci := 9) (v := va_re ad (M9.2 a 3)) (C := RX9) (T := TX9) (N := 20) hx hb hts (by decide +kernel) hown hK hP a (wld_o ct ad G M9 hc hk (by decide)) rfl 3 (by decide) (hts (.fieldLink RX9 11 "VideoSuite$Work" "lists" "[LVideoSuite$Picture;") (by decide +kernel)) (fun _ h9 => h9) rfl dX9_noteEntries_47 ?_
        refine lv_iload_n hx hb dX9_noteEntries_50 rfl (lv_at hl 0 rfl) ?_
        refine W_st (st' := [.int s2.1, .ref (ad b10), .int s2.1, va_re ad (M9.2 a 5)]) (by rw [va_some ho10]) ?_
        obtain ⟨hvc, hF⟩ := chk_some hF
        refine ld_q hx hb hK hP hc10 hk10 hvc dX9_noteEntries_51 ?_
        obtain ⟨b16, ho16, hc16, hk16, hF⟩ := dr_some hF
        refine W_st (st' := [.ref (ad b16), .int s2.1, va_re ad (M9.2 a 5)]) (by rw [va_some ho16]) ?_
        refine va_get (D := D) (ci := 4) (v := .int (M9.1 b16 9)) (C := RX4) (T := TX4) (N := 18) hx hb hts (by decide +kernel) hown hK hP b16 (wld_o ct ad G M9 hc16 hk16 (by decide)) rfl 9 (by decide) (hts (.fieldLink RX9 105 "VideoSuite$Picture" "order" "I") (by decide +kernel)) (fun _ h9 => h9) rfl dX9_noteEntries_52 ?_
        obtain ⟨x17, ex17, hF⟩ := ltt_some hF
        refine lv_topi (fun zx17 ezx17 => ?_)
        obtain rfl : x17 = zx17 := ex17.trans ezx17.symm
        obtain rfl := Option.some.inj hF
        exact J11 _ _ _ hP hD hS (lv_sub hl [0, 1] rfl)
      · rw [if_pos c15] at hF
        refine lv_iconst (v := (0 : Int32)) hx hb dX9_noteEntries_42 (by decide) ?_
        refine lv_goto (tgt := 55) hx hb dX9_noteEntries_43 (by decide) ?_
        obtain rfl := Option.some.inj hF
        exact J11 _ _ _ hP hD hS (lv_sub hl [0, 1] rfl)
    clear hF
    have hF := hy7
    clear hy7
    refine lv_ifnonnullq (tgt := 26) hx hb dX9_noteEntries_19 (by decide) (fun c18 => ?_) (fun c18 => ?_)
    · rw [if_neg c18] at hF
      refine lv_iconst (v := (1 : Int32)) hx hb dX9_noteEntries_26 (by decide) ?_
      obtain rfl := Option.some.inj hF
      exact J7 _ _ _ hP hD hS (lv_sub hl [0, 1] rfl)
    · rw [if_pos c18] at hF
      refine lv_iconst (v := (0 : Int32)) hx hb dX9_noteEntries_22 (by decide) ?_
      refine lv_goto (tgt := 27) hx hb dX9_noteEntries_23 (by decide) ?_
      obtain rfl := Option.some.inj hF
      exact J7 _ _ _ hP hD hS (lv_sub hl [0, 1] rfl)
theorem dX9_pieceAt_0 : decode cX9_pieceAt 0 = .ok (.iload_n 1, 1) := by decide +kernel
theorem dX9_pieceAt_1 : decode cX9_pieceAt 1 = .ok (.aload_n 0, 1) := by decide +kernel
theorem dX9_pieceAt_2 : decode cX9_pieceAt 2 = .ok (.getfield 51, 3) := by decide +kernel
theorem dX9_pieceAt_5 : decode cX9_pieceAt 5 = .ok (.getfield 108, 3) := by decide +kernel
theorem dX9_pieceAt_8 : decode cX9_pieceAt 8 = .ok (.irem, 1) := by decide +kernel
theorem dX9_pieceAt_9 : decode cX9_pieceAt 9 = .ok (.iload_n 2, 1) := by decide +kernel
theorem dX9_pieceAt_10 : decode cX9_pieceAt 10 = .ok (.ifCond .ge 7, 3) := by decide +kernel
theorem dX9_pieceAt_13 : decode cX9_pieceAt 13 = .ok (.iconst (-1), 1) := by decide +kernel
theorem dX9_pieceAt_14 : decode cX9_pieceAt 14 = .ok (.goto 14, 3) := by decide +kernel
theorem dX9_pieceAt_17 : decode cX9_pieceAt 17 = .ok (.iload_n 2, 1) := by decide +kernel
theorem dX9_pieceAt_18 : decode cX9_pieceAt 18 = .ok (.bipush 15, 2) := by decide +kernel
theorem dX9_pieceAt_20 : decode cX9_pieceAt 20 = .ok (.if_icmp .le 7, 3) := by decide +kernel
theorem dX9_pieceAt_23 : decode cX9_pieceAt 23 = .ok (.iconst 1, 1) := by decide +kernel
theorem dX9_pieceAt_24 : decode cX9_pieceAt 24 = .ok (.goto 4, 3) := by decide +kernel
theorem dX9_pieceAt_27 : decode cX9_pieceAt 27 = .ok (.iconst 0, 1) := by decide +kernel
theorem dX9_pieceAt_28 : decode cX9_pieceAt 28 = .ok (.iadd, 1) := by decide +kernel
theorem dX9_pieceAt_29 : decode cX9_pieceAt 29 = .ok (.istore 5, 2) := by decide +kernel
theorem dX9_pieceAt_31 : decode cX9_pieceAt 31 = .ok (.iload_n 1, 1) := by decide +kernel
theorem dX9_pieceAt_32 : decode cX9_pieceAt 32 = .ok (.aload_n 0, 1) := by decide +kernel
theorem dX9_pieceAt_33 : decode cX9_pieceAt 33 = .ok (.getfield 51, 3) := by decide +kernel
theorem dX9_pieceAt_36 : decode cX9_pieceAt 36 = .ok (.getfield 108, 3) := by decide +kernel
theorem dX9_pieceAt_39 : decode cX9_pieceAt 39 = .ok (.idiv, 1) := by decide +kernel
theorem dX9_pieceAt_40 : decode cX9_pieceAt 40 = .ok (.iload_n 3, 1) := by decide +kernel
theorem dX9_pieceAt_41 : decode cX9_pieceAt 41 = .ok (.ifCond .ge 7, 3) := by decide +kernel
theorem dX9_pieceAt_44 : decode cX9_pieceAt 44 = .ok (.iconst 1, 1) := by decide +kernel
theorem dX9_pieceAt_45 : decode cX9_pieceAt 45 = .ok (.goto 4, 3) := by decide +kernel
theorem dX9_pieceAt_48 : decode cX9_pieceAt 48 = .ok (.iconst 0, 1) := by decide +kernel
theorem dX9_pieceAt_49 : decode cX9_pieceAt 49 = .ok (.isub, 1) := by decide +kernel
theorem dX9_pieceAt_50 : decode cX9_pieceAt 50 = .ok (.istore 6, 2) := by decide +kernel
theorem dX9_pieceAt_52 : decode cX9_pieceAt 52 = .ok (.iload 5, 2) := by decide +kernel
theorem dX9_pieceAt_54 : decode cX9_pieceAt 54 = .ok (.ifCond .lt 20, 3) := by decide +kernel
theorem dX9_pieceAt_57 : decode cX9_pieceAt 57 = .ok (.iload 5, 2) := by decide +kernel
theorem dX9_pieceAt_59 : decode cX9_pieceAt 59 = .ok (.aload_n 0, 1) := by decide +kernel
theorem dX9_pieceAt_60 : decode cX9_pieceAt 60 = .ok (.getfield 51, 3) := by decide +kernel
theorem dX9_pieceAt_63 : decode cX9_pieceAt 63 = .ok (.getfield 108, 3) := by decide +kernel
theorem dX9_pieceAt_66 : decode cX9_pieceAt 66 = .ok (.if_icmp .ge 8, 3) := by decide +kernel
theorem dX9_pieceAt_69 : decode cX9_pieceAt 69 = .ok (.iload 6, 2) := by decide +kernel
theorem dX9_pieceAt_71 : decode cX9_pieceAt 71 = .ok (.ifCond .ge 5, 3) := by decide +kernel
theorem dX9_pieceAt_74 : decode cX9_pieceAt 74 = .ok (.iconst (-1), 1) := by decide +kernel
theorem dX9_pieceAt_75 : decode cX9_pieceAt 75 = .ok (.ireturn, 1) := by decide +kernel
theorem dX9_pieceAt_76 : decode cX9_pieceAt 76 = .ok (.iload 6, 2) := by decide +kernel
theorem dX9_pieceAt_78 : decode cX9_pieceAt 78 = .ok (.aload_n 0, 1) := by decide +kernel
theorem dX9_pieceAt_79 : decode cX9_pieceAt 79 = .ok (.getfield 51, 3) := by decide +kernel
theorem dX9_pieceAt_82 : decode cX9_pieceAt 82 = .ok (.getfield 108, 3) := by decide +kernel
theorem dX9_pieceAt_85 : decode cX9_pieceAt 85 = .ok (.imul, 1) := by decide +kernel
theorem dX9_pieceAt_86 : decode cX9_pieceAt 86 = .ok (.iload 5, 2) := by decide +kernel
theorem dX9_pieceAt_88 : decode cX9_pieceAt 88 = .ok (.iadd, 1) := by decide +kernel
theorem dX9_pieceAt_89 : decode cX9_pieceAt 89 = .ok (.istore 7, 2) := by decide +kernel
theorem dX9_pieceAt_91 : decode cX9_pieceAt 91 = .ok (.iload_n 3, 1) := by decide +kernel
theorem dX9_pieceAt_92 : decode cX9_pieceAt 92 = .ok (.iconst 3, 1) := by decide +kernel
theorem dX9_pieceAt_93 : decode cX9_pieceAt 93 = .ok (.ishr, 1) := by decide +kernel
theorem dX9_pieceAt_94 : decode cX9_pieceAt 94 = .ok (.iconst 1, 1) := by decide +kernel
theorem dX9_pieceAt_95 : decode cX9_pieceAt 95 = .ok (.iand, 1) := by decide +kernel
theorem dX9_pieceAt_96 : decode cX9_pieceAt 96 = .ok (.bipush 8, 2) := by decide +kernel
theorem dX9_pieceAt_98 : decode cX9_pieceAt 98 = .ok (.imul, 1) := by decide +kernel
theorem dX9_pieceAt_99 : decode cX9_pieceAt 99 = .ok (.iload_n 2, 1) := by decide +kernel
theorem dX9_pieceAt_100 : decode cX9_pieceAt 100 = .ok (.iconst 3, 1) := by decide +kernel
theorem dX9_pieceAt_101 : decode cX9_pieceAt 101 = .ok (.ishr, 1) := by decide +kernel
theorem dX9_pieceAt_102 : decode cX9_pieceAt 102 = .ok (.iconst 1, 1) := by decide +kernel
theorem dX9_pieceAt_103 : decode cX9_pieceAt 103 = .ok (.iand, 1) := by decide +kernel
theorem dX9_pieceAt_104 : decode cX9_pieceAt 104 = .ok (.iconst 4, 1) := by decide +kernel
theorem dX9_pieceAt_105 : decode cX9_pieceAt 105 = .ok (.imul, 1) := by decide +kernel
theorem dX9_pieceAt_106 : decode cX9_pieceAt 106 = .ok (.iadd, 1) := by decide +kernel
theorem dX9_pieceAt_107 : decode cX9_pieceAt 107 = .ok (.iload_n 3, 1) := by decide +kernel
theorem dX9_pieceAt_108 : decode cX9_pieceAt 108 = .ok (.iconst 2, 1) := by decide +kernel
theorem dX9_pieceAt_109 : decode cX9_pieceAt 109 = .ok (.ishr, 1) := by decide +kernel
theorem dX9_pieceAt_110 : decode cX9_pieceAt 110 = .ok (.iconst 1, 1) := by decide +kernel
theorem dX9_pieceAt_111 : decode cX9_pieceAt 111 = .ok (.iand, 1) := by decide +kernel
theorem dX9_pieceAt_112 : decode cX9_pieceAt 112 = .ok (.iconst 2, 1) := by decide +kernel
theorem dX9_pieceAt_113 : decode cX9_pieceAt 113 = .ok (.imul, 1) := by decide +kernel
theorem dX9_pieceAt_114 : decode cX9_pieceAt 114 = .ok (.iadd, 1) := by decide +kernel
theorem dX9_pieceAt_115 : decode cX9_pieceAt 115 = .ok (.iload_n 2, 1) := by decide +kernel
theorem dX9_pieceAt_116 : decode cX9_pieceAt 116 = .ok (.iconst 2, 1) := by decide +kernel
theorem dX9_pieceAt_117 : decode cX9_pieceAt 117 = .ok (.ishr, 1) := by decide +kernel
theorem dX9_pieceAt_118 : decode cX9_pieceAt 118 = .ok (.iconst 1, 1) := by decide +kernel
theorem dX9_pieceAt_119 : decode cX9_pieceAt 119 = .ok (.iand, 1) := by decide +kernel
theorem dX9_pieceAt_120 : decode cX9_pieceAt 120 = .ok (.iadd, 1) := by decide +kernel
theorem dX9_pieceAt_121 : decode cX9_pieceAt 121 = .ok (.istore 8, 2) := by decide +kernel
theorem dX9_pieceAt_123 : decode cX9_pieceAt 123 = .ok (.iload 7, 2) := by decide +kernel
theorem dX9_pieceAt_125 : decode cX9_pieceAt 125 = .ok (.iload_n 1, 1) := by decide +kernel
theorem dX9_pieceAt_126 : decode cX9_pieceAt 126 = .ok (.if_icmp .ne 22, 3) := by decide +kernel
theorem dX9_pieceAt_129 : decode cX9_pieceAt 129 = .ok (.iload 8, 2) := by decide +kernel
theorem dX9_pieceAt_131 : decode cX9_pieceAt 131 = .ok (.iload 4, 2) := by decide +kernel
theorem dX9_pieceAt_133 : decode cX9_pieceAt 133 = .ok (.if_icmp .ge 13, 3) := by decide +kernel
theorem dX9_pieceAt_136 : decode cX9_pieceAt 136 = .ok (.bipush 16, 2) := by decide +kernel
theorem dX9_pieceAt_138 : decode cX9_pieceAt 138 = .ok (.iload_n 1, 1) := by decide +kernel
theorem dX9_pieceAt_139 : decode cX9_pieceAt 139 = .ok (.imul, 1) := by decide +kernel
theorem dX9_pieceAt_140 : decode cX9_pieceAt 140 = .ok (.iload 8, 2) := by decide +kernel
theorem dX9_pieceAt_142 : decode cX9_pieceAt 142 = .ok (.iadd, 1) := by decide +kernel
theorem dX9_pieceAt_143 : decode cX9_pieceAt 143 = .ok (.goto 4, 3) := by decide +kernel
theorem dX9_pieceAt_146 : decode cX9_pieceAt 146 = .ok (.iconst (-1), 1) := by decide +kernel
theorem dX9_pieceAt_147 : decode cX9_pieceAt 147 = .ok (.ireturn, 1) := by decide +kernel
theorem dX9_pieceAt_148 : decode cX9_pieceAt 148 = .ok (.iload 7, 2) := by decide +kernel
theorem dX9_pieceAt_150 : decode cX9_pieceAt 150 = .ok (.iload_n 1, 1) := by decide +kernel
theorem dX9_pieceAt_151 : decode cX9_pieceAt 151 = .ok (.if_icmp .ge 34, 3) := by decide +kernel
theorem dX9_pieceAt_154 : decode cX9_pieceAt 154 = .ok (.aload_n 0, 1) := by decide +kernel
theorem dX9_pieceAt_155 : decode cX9_pieceAt 155 = .ok (.getfield 24, 3) := by decide +kernel
theorem dX9_pieceAt_158 : decode cX9_pieceAt 158 = .ok (.bipush 8, 2) := by decide +kernel
theorem dX9_pieceAt_160 : decode cX9_pieceAt 160 = .ok (.iload 7, 2) := by decide +kernel
theorem dX9_pieceAt_162 : decode cX9_pieceAt 162 = .ok (.imul, 1) := by decide +kernel
theorem dX9_pieceAt_163 : decode cX9_pieceAt 163 = .ok (.bipush 6, 2) := by decide +kernel
theorem dX9_pieceAt_165 : decode cX9_pieceAt 165 = .ok (.iadd, 1) := by decide +kernel
theorem dX9_pieceAt_166 : decode cX9_pieceAt 166 = .ok (.iaload, 1) := by decide +kernel
theorem dX9_pieceAt_167 : decode cX9_pieceAt 167 = .ok (.aload_n 0, 1) := by decide +kernel
theorem dX9_pieceAt_168 : decode cX9_pieceAt 168 = .ok (.getfield 55, 3) := by decide +kernel
theorem dX9_pieceAt_171 : decode cX9_pieceAt 171 = .ok (.if_icmp .ne 14, 3) := by decide +kernel
theorem dX9_pieceAt_174 : decode cX9_pieceAt 174 = .ok (.bipush 16, 2) := by decide +kernel
theorem dX9_pieceAt_176 : decode cX9_pieceAt 176 = .ok (.iload 7, 2) := by decide +kernel
theorem dX9_pieceAt_178 : decode cX9_pieceAt 178 = .ok (.imul, 1) := by decide +kernel
theorem dX9_pieceAt_179 : decode cX9_pieceAt 179 = .ok (.iload 8, 2) := by decide +kernel
theorem dX9_pieceAt_181 : decode cX9_pieceAt 181 = .ok (.iadd, 1) := by decide +kernel
theorem dX9_pieceAt_182 : decode cX9_pieceAt 182 = .ok (.goto 4, 3) := by decide +kernel
theorem dX9_pieceAt_185 : decode cX9_pieceAt 185 = .ok (.iconst (-1), 1) := by decide +kernel
theorem dX9_pieceAt_186 : decode cX9_pieceAt 186 = .ok (.ireturn, 1) := by decide +kernel
def FX9_pieceAt (G : GG) (M : DD) (a : Nat) (p0 : Int32) (p1 : Int32) (p2 : Int32) (p3 : Int32) : Option (DD × Int32) :=
  dr G 4 ((M.2 a 0)) fun b1 =>
  ltt (M.1 b1 1) fun x2 =>
  chk (¬ x2 = 0) <|
  ltt (p0 - p0 / x2 * x2) fun x3 =>
  bnd (if ((0 : Int32)) ≤ p1 then (bnd (if p1 ≤ ((15 : Int32)) then (some ((0 : Int32))) else
  (some ((1 : Int32)))) fun (y49 : Int32) =>
  some (y49)) else
  (some ((-1 : Int32)))) fun (y4 : Int32) =>
  ltt ((x3 + y4)) fun x5 =>
  ltt (M.1 b1 1) fun x6 =>
  chk (¬ x6 = 0) <|
  ltt (p0 / x6) fun x7 =>
  bnd (if ((0 : Int32)) ≤ p2 then (some ((0 : Int32))) else
  (some ((1 : Int32)))) fun (y8 : Int32) =>
  ltt ((x7 - y8)) fun x9 =>
  if x5 < ((0 : Int32)) then (some (M, (-1 : Int32))) else
  (ltt (M.1 b1 1) fun x11 =>
  if x11 ≤ x5 then (some (M, (-1 : Int32))) else
  (if ((0 : Int32)) ≤ x9 then (ltt (M.1 b1 1) fun x14 =>
  ltt ((x9 * x14)) fun x15 =>
  ltt ((x15 + x5)) fun x16 =>
  ltt ((p2 >>> (((3 : Int32)) &&& 31))) fun x17 =>
  ltt ((x17 &&& ((1 : Int32)))) fun x18 =>
  ltt ((x18 * ((8 : Int32)))) fun x19 =>
  ltt ((p1 >>> (((3 : Int32)) &&& 31))) fun x20 =>
  ltt ((x20 &&& ((1 : Int32)))) fun x21 =>
  ltt ((x21 * ((4 : Int32)))) fun x22 =>
  ltt ((x19 + x22)) fun x23 =>
  ltt ((p2 >>> (((2 : Int32)) &&& 31))) fun x24 =>
  ltt ((x24 &&& ((1 : Int32)))) fun x25 =>
  ltt ((x25 * ((2 : Int32)))) fun x26 =>
  ltt ((x23 + x26)) fun x27 =>
  ltt ((p1 >>> (((2 : Int32)) &&& 31))) fun x28 =>
  ltt ((x28 &&& ((1 : Int32)))) fun x29 =>
  ltt ((x27 + x29)) fun x30 =>
  if x16 = p0 then (bnd (if p3 ≤ x30 then (some ((-1 : Int32))) else
  (ltt ((((16 : Int32)) * p0)) fun x45 =>
  ltt ((x45 + x30)) fun x46 =>
  some (x46))) fun (y43 : Int32) =>
  some (M, y43)) else
  (bnd (if p0 ≤ x16 then (some ((-1 : Int32))) else
  (ltt ((((8 : Int32)) * x16)) fun x34 =>
  ltt ((x34 + ((6 : Int32)))) fun x35 =>
  dr G 13 ((M.2 a 6)) fun b36 =>
  chk (¬ (x35 < 0 ∨ G.2.2 b36 ≤ x35.toNatClampNeg)) <|
  ltt (M.1 b36 x35.toNatClampNeg) fun x37 =>
  ltt (M.1 a 11) fun x38 =>
  bnd (if x37 = x38 then (ltt ((((16 : Int32)) * x16)) fun x41 =>
  ltt ((x41 + x30)) fun x42 =>
  some (x42)) else
  (some ((-1 : Int32)))) fun (y39 : Int32) =>
  some (y39))) fun (y32 : Int32) =>
  some (M, y32))) else
  (some (M, (-1 : Int32)))))
set_option maxHeartbeats 4000000 in
set_option maxRecDepth 100000 in
theorem kX9_pieceAt (l : Launch) (D : va_G) (ct : CT) (ad : Nat → Nat) (Z : Nat → Nat) (G : GG) (M : DD) (sz : Nat) (a : Nat) (p0 : Int32) (p1 : Int32) (p2 : Int32) (p3 : Int32) (y : DD × Int32) (hc : a < G.1) (hk : G.2.1 a = 9) (hF : FX9_pieceAt G M a p0 p1 p2 p3 = some y) : Met l yX9_pieceAt wsX9_pieceAt ({ frames := 0, cells := 0, slots := 0, locals := 0 }) (va_Pc [.ref (ad a), .int p0, .int p1, .int p2, .int p3] (kB D ct ad Z G M sz)) (va_Qi (fun (q : Int32) (_ : Unit) => q = y.2) (fun _ t => kE D ct ad G (wA ad G sz) y.1 t) (wA ad G sz)) 0 0 (wA ad G sz) := by
  refine Met.ofW (cc := cX9_pieceAt) (maxL := 9) (ret := (some .int)) (by decide) rfl ?_
  intro p e s m args below meth c s₁ B hml hv
  obtain ⟨rfl, hsz, hP, hK, hD0, hZ, hN⟩ := hv
  have hx := B.exec
  have hb := B.bytes
  have hr := B.returns
  have hts := atoms_spec (ws := wsX9_pieceAt) B.pre
  have hown : s.vm.findClass RX9 = some m.cls := findClass_of_methodNamed B.named
  have hlocks := B.notSynchronized
  subst hsz
  have hD := wD_self (sz := s.heap.size) hD0
  have hA9 : ∀ q, s.heap.size ≤ q → wA ad G s.heap.size q := fun q h => Or.inr h
  generalize hAe : wA ad G s.heap.size = A at hD hA9 hZ ⊢
  have hS : va_S A s.heap s.heap [] := va_S.rf
  have hl := lv_entry ([.ref (ad a), .int p0, .int p1, .int p2, .int p3]) (n := 9) (Nat.le_of_ble_eq_true rfl)
  rw [lg_entry_eq]
  generalize (lg_sl ([.ref (ad a), .int p0, .int p1, .int p2, .int p3]) ++ List.replicate (9 - (lg_sl ([.ref (ad a), .int p0, .int p1, .int p2, .int p3])).length) Slot.unset).toArray = ls at hl ⊢
  have hl : lv_has ls 9 [(0, .ref (ad a)), (1, .int p0), (2, .int p1), (3, .int p2), (4, .int p3)] := hl
  unfold FX9_pieceAt at hF
  refine lv_iload_n hx hb dX9_pieceAt_0 rfl (lv_at hl 1 rfl) ?_
  refine lv_aload_n hx hb dX9_pieceAt_1 rfl (lv_at hl 0 rfl) ?_
  refine va_get (D := D) (ci := 9) (v := va_re ad (M.2 a 0)) (C := RX9) (T := TX9) (N := 20) hx hb hts (by decide +kernel) hown hK hP a (wld_o ct ad G M hc hk (by decide)) rfl 0 (by decide) (hts (.fieldLink RX9 51 "VideoSuite$Work" "pic" "LVideoSuite$Picture;") (by decide +kernel)) (fun _ h9 => h9) rfl dX9_pieceAt_2 ?_
  obtain ⟨b1, ho1, hc1, hk1, hF⟩ := dr_some hF
  refine W_st (st' := [.ref (ad b1), .int p0]) (by rw [va_some ho1]) ?_
  refine va_get (D := D) (ci := 4) (v := .int (M.1 b1 1)) (C := RX4) (T := TX4) (N := 18) hx hb hts (by decide +kernel) hown hK hP b1 (wld_o ct ad G M hc1 hk1 (by decide)) rfl 1 (by decide) (hts (.fieldLink RX9 108 "VideoSuite$Picture" "width" "I") (by decide +kernel)) (fun _ h9 => h9) rfl dX9_pieceAt_5 ?_
  obtain ⟨x2, ex2, hF⟩ := ltt_some hF
  refine lv_topi (fun zx2 ezx2 => ?_)
  obtain rfl : x2 = zx2 := ex2.trans ezx2.symm
  obtain ⟨hne, hF⟩ := chk_some hF
  refine lv_irem hx hb dX9_pieceAt_8 hne ?_
  obtain ⟨x3, ex3, hF⟩ := ltt_some hF
  refine lv_topi (fun zx3 ezx3 => ?_)
  obtain rfl : x3 = zx3 := ex3.trans ezx3.symm
  refine lv_iload_n hx hb dX9_pieceAt_9 rfl (lv_at hl 2 rfl) ?_
  obtain ⟨y4, hy4, hF⟩ := bnd_some hF
  have J4 : ∀ (H : Heap) (locs : List Loc) (ls : Array Slot), va_P D classes (wld ct ad G M) H → va_D A (wld ct ad G M) → va_S A s.heap H locs → lv_has ls 9 [(0, .ref (ad a)), (1, .int p0), (2, .int p1), (3, .int p2), (4, .int p3)] → W p l e (headSpec wsX9_pieceAt ({ frames := 0, cells := 0, slots := 0, locals := 0 })).room s m ([.ref (ad a), .int p0, .int p1, .int p2, .int p3] : List Value).toArray below meth c H locs 0 0 (MQ below (va_Qi (fun (q : Int32) (_ : Unit) => q = y.2) (fun _ t => kE D ct ad G A y.1 t) A) ([.ref (ad a), .int p0, .int p1, .int p2, .int p3] : List Value).toArray s 0 0 A) (F0 m 28 ls [.int y4, .int x3]) := by
    intro H locs ls hP hD hS hl
    refine lv_iadd hx hb dX9_pieceAt_28 ?_
    obtain ⟨x5, ex5, hF⟩ := ltt_some hF
    refine lv_topi (fun zx5 ezx5 => ?_)
    obtain rfl : x5 = zx5 := ex5.trans ezx5.symm
    refine lv_istore (lv' := [(5, .int x5), (0, .ref (ad a)), (1, .int p0), (2, .int p1), (3, .int p2), (4, .int p3)]) hx hb dX9_pieceAt_29 hl (by decide) rfl (fun ls hl => ?_)
    refine lv_iload_n hx hb dX9_pieceAt_31 rfl (lv_at hl 2 rfl) ?_
    refine lv_aload_n hx hb dX9_pieceAt_32 rfl (lv_at hl 1 rfl) ?_
    refine va_get (D := D) (ci := 9) (v := va_re ad (M.2 a 0)) (C := RX9) (T := TX9) (N := 20) hx hb hts (by decide +kernel) hown hK hP a (wld_o ct ad G M hc hk (by decide)) rfl 0 (by decide) (hts (.fieldLink RX9 51 "VideoSuite$Work" "pic" "LVideoSuite$Picture;") (by decide +kernel)) (fun _ h9 => h9) rfl dX9_pieceAt_33 ?_
    refine W_st (st' := [.ref (ad b1), .int p0]) (by rw [va_some ho1]) ?_
    refine va_get (D := D) (ci := 4) (v := .int (M.1 b1 1)) (C := RX4) (T := TX4) (N := 18) hx hb hts (by decide +kernel) hown hK hP b1 (wld_o ct ad G M hc1 hk1 (by decide)) rfl 1 (by decide) (hts (.fieldLink RX9 108 "VideoSuite$Picture" "width" "I") (by decide +kernel)) (fun _ h9 => h9) rfl dX9_pieceAt_36 ?_
    obtain ⟨x6, ex6, hF⟩ := ltt_some hF
    refine lv_topi (fun zx6 ezx6 => ?_)
    obtain rfl : x6 = zx6 := ex6.trans ezx6.symm
    obtain ⟨hne, hF⟩ := chk_some hF
    refine lv_idiv hx hb dX9_pieceAt_39 hne ?_
    obtain ⟨x7, ex7, hF⟩ := ltt_some hF
    refine lv_topi (fun zx7 ezx7 => ?_)
    obtain rfl : x7 = zx7 := ex7.trans ezx7.symm
    refine lv_iload_n hx hb dX9_pieceAt_40 rfl (lv_at hl 4 rfl) ?_
    obtain ⟨y8, hy8, hF⟩ := bnd_some hF
    have J8 : ∀ (H : Heap) (locs : List Loc) (ls : Array Slot), va_P D classes (wld ct ad G M) H → va_D A (wld ct ad G M) → va_S A s.heap H locs → lv_has ls 9 [(5, .int x5), (0, .ref (ad a)), (1, .int p0), (2, .int p1), (3, .int p2), (4, .int p3)] → W p l e (headSpec wsX9_pieceAt ({ frames := 0, cells := 0, slots := 0, locals := 0 })).room s m ([.ref (ad a), .int p0, .int p1, .int p2, .int p3] : List Value).toArray below meth c H locs 0 0 (MQ below (va_Qi (fun (q : Int32) (_ : Unit) => q = y.2) (fun _ t => kE D ct ad G A y.1 t) A) ([.ref (ad a), .int p0, .int p1, .int p2, .int p3] : List Value).toArray s 0 0 A) (F0 m 49 ls [.int y8, .int x7]) := by
      intro H locs ls hP hD hS hl
      refine lv_isub hx hb dX9_pieceAt_49 ?_
      obtain ⟨x9, ex9, hF⟩ := ltt_some hF
      refine lv_topi (fun zx9 ezx9 => ?_)
      obtain rfl : x9 = zx9 := ex9.trans ezx9.symm
      refine lv_istore (lv' := [(6, .int x9), (5, .int x5), (0, .ref (ad a)), (1, .int p0), (2, .int p1), (3, .int p2), (4, .int p3)]) hx hb dX9_pieceAt_50 hl (by decide) rfl (fun ls hl => ?_)
      refine lv_iload hx hb dX9_pieceAt_52 (lv_at hl 1 rfl) ?_
      refine lv_if_lt (tgt := 74) hx hb dX9_pieceAt_54 (by decide) (fun c10 => ?_) (fun c10 => ?_)
      · rw [if_pos c10] at hF
        refine lv_iconst (v := (-1 : Int32)) hx hb dX9_pieceAt_74 (by decide) ?_
        obtain rfl := Option.some.inj hF
        exact W.iret (v := (-1 : Int32)) hx hb hr (fun t ht hW => ⟨⟨_, (), rfl, rfl, ⟨by rw [ht]; exact hP, va_K.moved hW.alike hK, hD⟩⟩, hS.F ht⟩) hS.2.2 dX9_pieceAt_75
      · rw [if_neg c10] at hF
        refine lv_iload hx hb dX9_pieceAt_57 (lv_at hl 1 rfl) ?_
        refine lv_aload_n hx hb dX9_pieceAt_59 rfl (lv_at hl 2 rfl) ?_
        refine va_get (D := D) (ci := 9) (v := va_re ad (M.2 a 0)) (C := RX9) (T := TX9) (N := 20) hx hb hts (by decide +kernel) hown hK hP a (wld_o ct ad G M hc hk (by decide)) rfl 0 (by decide) (hts (.fieldLink RX9 51 "VideoSuite$Work" "pic" "LVideoSuite$Picture;") (by decide +kernel)) (fun _ h9 => h9) rfl dX9_pieceAt_60 ?_
        refine W_st (st' := [.ref (ad b1), .int x5]) (by rw [va_some ho1]) ?_
        refine va_get (D := D) (ci := 4) (v := .int (M.1 b1 1)) (C := RX4) (T := TX4) (N := 18) hx hb hts (by decide +kernel) hown hK hP b1 (wld_o ct ad G M hc1 hk1 (by decide)) rfl 1 (by decide) (hts (.fieldLink RX9 108 "VideoSuite$Picture" "width" "I") (by decide +kernel)) (fun _ h9 => h9) rfl dX9_pieceAt_63 ?_
        obtain ⟨x11, ex11, hF⟩ := ltt_some hF
        refine lv_topi (fun zx11 ezx11 => ?_)
        obtain rfl : x11 = zx11 := ex11.trans ezx11.symm
        refine lv_icmp_ge (tgt := 74) hx hb dX9_pieceAt_66 (by decide) (fun c12 => ?_) (fun c12 => ?_)
        · rw [if_pos c12] at hF
          refine lv_iconst (v := (-1 : Int32)) hx hb dX9_pieceAt_74 (by decide) ?_
          obtain rfl := Option.some.inj hF
          exact W.iret (v := (-1 : Int32)) hx hb hr (fun t ht hW => ⟨⟨_, (), rfl, rfl, ⟨by rw [ht]; exact hP, va_K.moved hW.alike hK, hD⟩⟩, hS.F ht⟩) hS.2.2 dX9_pieceAt_75
        · rw [if_neg c12] at hF
          refine lv_iload hx hb dX9_pieceAt_69 (lv_at hl 0 rfl) ?_
          refine lv_if_ge (tgt := 76) hx hb dX9_pieceAt_71 (by decide) (fun c13 => ?_) (fun c13 => ?_)
          · rw [if_pos c13] at hF
            refine lv_iload hx hb dX9_pieceAt_76 (lv_at hl 0 rfl) ?_
            refine lv_aload_n hx hb dX9_pieceAt_78 rfl (lv_at hl 2 rfl) ?_
            refine va_get (D := D) (ci := 9) (v := va_re ad (M.2 a 0)) (C := RX9) (T := TX9) (N := 20) hx hb hts (by decide +kernel) hown hK hP a (wld_o ct ad G M hc hk (by decide)) rfl 0 (by decide) (hts (.fieldLink RX9 51 "VideoSuite$Work" "pic" "LVideoSuite$Picture;") (by decide +kernel)) (fun _ h9 => h9) rfl dX9_pieceAt_79 ?_
            refine W_st (st' := [.ref (ad b1), .int x9]) (by rw [va_some ho1]) ?_
            refine va_get (D := D) (ci := 4) (v := .int (M.1 b1 1)) (C := RX4) (T := TX4) (N := 18) hx hb hts (by decide +kernel) hown hK hP b1 (wld_o ct ad G M hc1 hk1 (by decide)) rfl 1 (by decide) (hts (.fieldLink RX9 108 "VideoSuite$Picture" "width" "I") (by decide +kernel)) (fun _ h9 => h9) rfl dX9_pieceAt_82 ?_
            obtain ⟨x14, ex14, hF⟩ := ltt_some hF
            refine lv_topi (fun zx14 ezx14 => ?_)
            obtain rfl : x14 = zx14 := ex14.trans ezx14.symm
            refine lv_imul hx hb dX9_pieceAt_85 ?_
            obtain ⟨x15, ex15, hF⟩ := ltt_some hF
            refine lv_topi (fun zx15 ezx15 => ?_)
            obtain rfl : x15 = zx15 := ex15.trans ezx15.symm
            refine lv_iload hx hb dX9_pieceAt_86 (lv_at hl 1 rfl) ?_
            refine lv_iadd hx hb dX9_pieceAt_88 ?_
            obtain ⟨x16, ex16, hF⟩ := ltt_some hF
            refine lv_topi (fun zx16 ezx16 => ?_)
            obtain rfl : x16 = zx16 := ex16.trans ezx16.symm
            refine lv_istore (lv' := [(7, .int x16), (6, .int x9), (5, .int x5), (0, .ref (ad a)), (1, .int p0), (2, .int p1), (3, .int p2), (4, .int p3)]) hx hb dX9_pieceAt_89 hl (by decide) rfl (fun ls hl => ?_)
            refine lv_iload_n hx hb dX9_pieceAt_91 rfl (lv_at hl 6 rfl) ?_
            refine lv_iconst (v := (3 : Int32)) hx hb dX9_pieceAt_92 (by decide) ?_
            refine lv_ishr hx hb dX9_pieceAt_93 ?_
            obtain ⟨x17, ex17, hF⟩ := ltt_some hF
            refine lv_topi (fun zx17 ezx17 => ?_)
            obtain rfl : x17 = zx17 := ex17.trans ezx17.symm
            refine lv_iconst (v := (1 : Int32)) hx hb dX9_pieceAt_94 (by decide) ?_
            refine lv_iand hx hb dX9_pieceAt_95 ?_
            obtain ⟨x18, ex18, hF⟩ := ltt_some hF
            refine lv_topi (fun zx18 ezx18 => ?_)
            obtain rfl : x18 = zx18 := ex18.trans ezx18.symm
            refine lv_bipush (v := (8 : Int32)) hx hb dX9_pieceAt_96 (by decide) ?_
            refine lv_imul hx hb dX9_pieceAt_98 ?_
            obtain ⟨x19, ex19, hF⟩ := ltt_some hF
            refine lv_topi (fun zx19 ezx19 => ?_)
            obtain rfl : x19 = zx19 := ex19.trans ezx19.symm
            refine lv_iload_n hx hb dX9_pieceAt_99 rfl (lv_at hl 5 rfl) ?_
            refine lv_iconst (v := (3 : Int32)) hx hb dX9_pieceAt_100 (by decide) ?_
            refine lv_ishr hx hb dX9_pieceAt_101 ?_
            obtain ⟨x20, ex20, hF⟩ := ltt_some hF
            refine lv_topi (fun zx20 ezx20 => ?_)
            obtain rfl : x20 = zx20 := ex20.trans ezx20.symm
            refine lv_iconst (v := (1 : Int32)) hx hb dX9_pieceAt_102 (by decide) ?_
            refine lv_iand hx hb dX9_pieceAt_103 ?_
            obtain ⟨x21, ex21, hF⟩ := ltt_some hF
            refine lv_topi (fun zx21 ezx21 => ?_)
            obtain rfl : x21 = zx21 := ex21.trans ezx21.symm
            refine lv_iconst (v := (4 : Int32)) hx hb dX9_pieceAt_104 (by decide) ?_
            refine lv_imul hx hb dX9_pieceAt_105 ?_
            obtain ⟨x22, ex22, hF⟩ := ltt_some hF
            refine lv_topi (fun zx22 ezx22 => ?_)
            obtain rfl : x22 = zx22 := ex22.trans ezx22.symm
            refine lv_iadd hx hb dX9_pieceAt_106 ?_
            obtain ⟨x23, ex23, hF⟩ := ltt_some hF
            refine lv_topi (fun zx23 ezx23 => ?_)
            obtain rfl : x23 = zx23 := ex23.trans ezx23.symm
            refine lv_iload_n hx hb dX9_pieceAt_107 rfl (lv_at hl 6 rfl) ?_
            refine lv_iconst (v := (2 : Int32)) hx hb dX9_pieceAt_108 (by decide) ?_
            refine lv_ishr hx hb dX9_pieceAt_109 ?_
            obtain ⟨x24, ex24, hF⟩ := ltt_some hF
            refine lv_topi (fun zx24 ezx24 => ?_)
            obtain rfl : x24 = zx24 := ex24.trans ezx24.symm
            refine lv_iconst (v := (1 : Int32)) hx hb dX9_pieceAt_110 (by decide) ?_
            refine lv_iand hx hb dX9_pieceAt_111 ?_
            obtain ⟨x25, ex25, hF⟩ := ltt_some hF
            refine lv_topi (fun zx25 ezx25 => ?_)
            obtain rfl : x25 = zx25 := ex25.trans ezx25.symm
            refine lv_iconst (v := (2 : Int32)) hx hb dX9_pieceAt_112 (by decide) ?_
            refine lv_imul hx hb dX9_pieceAt_113 ?_
            obtain ⟨x26, ex26, hF⟩ := ltt_some hF
            refine lv_topi (fun zx26 ezx26 => ?_)
            obtain rfl : x26 = zx26 := ex26.trans ezx26.symm
            refine lv_iadd hx hb dX9_pieceAt_114 ?_
            obtain ⟨x27, ex27, hF⟩ := ltt_some hF
            refine lv_topi (fun zx27 ezx27 => ?_)
            obtain rfl : x27 = zx27 := ex27.trans ezx27.symm
            refine lv_iload_n hx hb dX9_pieceAt_115 rfl (lv_at hl 5 rfl) ?_
            refine lv_iconst (v := (2 : Int32)) hx hb dX9_pieceAt_116 (by decide) ?_
            refine lv_ishr hx hb dX9_pieceAt_117 ?_
            obtain ⟨x28, ex28, hF⟩ := ltt_some hF
            refine lv_topi (fun zx28 ezx28 => ?_)
            obtain rfl : x28 = zx28 := ex28.trans ezx28.symm
            refine lv_iconst (v := (1 : Int32)) hx hb dX9_pieceAt_118 (by decide) ?_
            refine lv_iand hx hb dX9_pieceAt_119 ?_
            obtain ⟨x29, ex29, hF⟩ := ltt_some hF
            refine lv_topi (fun zx29 ezx29 => ?_)
            obtain rfl : x29 = zx29 := ex29.trans ezx29.symm
            refine lv_iadd hx hb dX9_pieceAt_120 ?_
            obtain ⟨x30, ex30, hF⟩ := ltt_some hF
            refine lv_topi (fun zx30 ezx30 => ?_)
            obtain rfl : x30 = zx30 := ex30.trans ezx30.symm
            refine lv_istore (lv' := [(8, .int x30), (7, .int x16), (6, .int x9), (5, .int x5), (0, .ref (ad a)), (1, .int p0), (2, .int p1), (3, .int p2), (4, .int p3)]) hx hb dX9_pieceAt_121 hl (by decide) rfl (fun ls hl => ?_)
            refine lv_iload hx hb dX9_pieceAt_123 (lv_at hl 1 rfl) ?_
            refine lv_iload_n hx hb dX9_pieceAt_125 rfl (lv_at hl 5 rfl) ?_
            refine lv_icmp_ne (tgt := 148) hx hb dX9_pieceAt_126 (by decide) (fun c31 => ?_) (fun c31 => ?_)
            · rw [if_neg c31] at hF
              refine lv_iload hx hb dX9_pieceAt_148 (lv_at hl 1 rfl) ?_
              refine lv_iload_n hx hb dX9_pieceAt_150 rfl (lv_at hl 5 rfl) ?_
              obtain ⟨y32, hy32, hF⟩ := bnd_some hF
              have J32 : ∀ (H : Heap) (locs : List Loc) (ls : Array Slot), va_P D classes (wld ct ad G M) H → va_D A (wld ct ad G M) → va_S A s.heap H locs → lv_has ls 9 [(8, .int x30), (7, .int x16), (6, .int x9), (5, .int x5), (0, .ref (ad a)), (1, .int p0), (2, .int p1), (3, .int p2), (4, .int p3)] → W p l e (headSpec wsX9_pieceAt ({ frames := 0, cells := 0, slots := 0, locals := 0 })).room s m ([.ref (ad a), .int p0, .int p1, .int p2, .int p3] : List Value).toArray below meth c H locs 0 0 (MQ below (va_Qi (fun (q : Int32) (_ : Unit) => q = y.2) (fun _ t => kE D ct ad G A y.1 t) A) ([.ref (ad a), .int p0, .int p1, .int p2, .int p3] : List Value).toArray s 0 0 A) (F0 m 186 ls [.int y32]) := by
                intro H locs ls hP hD hS hl
                obtain rfl := Option.some.inj hF
                exact W.iret (v := y32) hx hb hr (fun t ht hW => ⟨⟨_, (), rfl, rfl, ⟨by rw [ht]; exact hP, va_K.moved hW.alike hK, hD⟩⟩, hS.F ht⟩) hS.2.2 dX9_pieceAt_186
              clear hF
              have hF := hy32
              clear hy32
              refine lv_icmp_ge (tgt := 185) hx hb dX9_pieceAt_151 (by decide) (fun c33 => ?_) (fun c33 => ?_)
              · rw [if_pos c33] at hF
                refine lv_iconst (v := (-1 : Int32)) hx hb dX9_pieceAt_185 (by decide) ?_
                obtain rfl := Option.some.inj hF
                exact J32 _ _ _ hP hD hS (lv_sub hl [0, 1, 2, 3, 4, 5, 6, 7, 8] rfl)
              · rw [if_neg c33] at hF
                refine lv_aload_n hx hb dX9_pieceAt_154 rfl (lv_at hl 4 rfl) ?_
                refine va_get (D := D) (ci := 9) (v := va_re ad (M.2 a 6)) (C := RX9) (T := TX9) (N := 20) hx hb hts (by decide +kernel) hown hK hP a (wld_o ct ad G M hc hk (by decide)) rfl 6 (by decide) (hts (.fieldLink RX9 24 "VideoSuite$Work" "info" "[I") (by decide +kernel)) (fun _ h9 => h9) rfl dX9_pieceAt_155 ?_
                refine lv_bipush (v := (8 : Int32)) hx hb dX9_pieceAt_158 (by decide) ?_
                refine lv_iload hx hb dX9_pieceAt_160 (lv_at hl 1 rfl) ?_
                refine lv_imul hx hb dX9_pieceAt_162 ?_
                obtain ⟨x34, ex34, hF⟩ := ltt_some hF
                refine lv_topi (fun zx34 ezx34 => ?_)
                obtain rfl : x34 = zx34 := ex34.trans ezx34.symm
                refine lv_bipush (v := (6 : Int32)) hx hb dX9_pieceAt_163 (by decide) ?_
                refine lv_iadd hx hb dX9_pieceAt_165 ?_
                obtain ⟨x35, ex35, hF⟩ := ltt_some hF
                refine lv_topi (fun zx35 ezx35 => ?_)
                obtain rfl : x35 = zx35 := ex35.trans ezx35.symm
                obtain ⟨b36, ho36, hc36, hk36, hF⟩ := dr_some hF
                refine W_st (st' := [.int x35, .ref (ad b36)]) (by rw [va_some ho36]) ?_
                obtain ⟨hvc, hF⟩ := chk_some hF
                refine va_iald hx hb hK hP b36 1 (wld_i ct ad G M hc36 hk36) rfl hvc dX9_pieceAt_166 ?_
                obtain ⟨x37, ex37, hF⟩ := ltt_some hF
                refine lv_topi (fun zx37 ezx37 => ?_)
                obtain rfl : x37 = zx37 := ex37.trans ezx37.symm
                refine lv_aload_n hx hb dX9_pieceAt_167 rfl (lv_at hl 4 rfl) ?_
                refine va_get (D := D) (ci := 9) (v := .int (M.1 a 11)) (C := RX9) (T := TX9) (N := 20) hx hb hts (by decide +kernel) hown hK hP a (wld_o ct ad G M hc hk (by decide)) rfl 11 (by decide) (hts (.fieldLink RX9 55 "VideoSuite$Work" "sliceNumber" "I") (by decide +kernel)) (fun _ h9 => h9) rfl dX9_pieceAt_168 ?_
                obtain ⟨x38, ex38, hF⟩ := ltt_some hF
                refine lv_topi (fun zx38 ezx38 => ?_)
                obtain rfl : x38 = zx38 := ex38.trans ezx38.symm
                obtain ⟨y39, hy39, hF⟩ := bnd_some hF
                have J39 : ∀ (H : Heap) (locs : List Loc) (ls : Array Slot), va_P D classes (wld ct ad G M) H → va_D A (wld ct ad G M) → va_S A s.heap H locs → lv_has ls 9 [(8, .int x30), (7, .int x16), (6, .int x9), (5, .int x5), (0, .ref (ad a)), (1, .int p0), (2, .int p1), (3, .int p2), (4, .int p3)] → W p l e (headSpec wsX9_pieceAt ({ frames := 0, cells := 0, slots := 0, locals := 0 })).room s m ([.ref (ad a), .int p0, .int p1, .int p2, .int p3] : List Value).toArray below meth c H locs 0 0 (MQ below (va_Qi (fun (q : Int32) (_ : Unit) => q = y.2) (fun _ t => kE D ct ad G A y.1 t) A) ([.ref (ad a), .int p0, .int p1, .int p2, .int p3] : List Value).toArray s 0 0 A) (F0 m 186 ls [.int y39]) := by
                  intro H locs ls hP hD hS hl
                  obtain rfl := Option.some.inj hF
                  exact J32 _ _ _ hP hD hS (lv_sub hl [0, 1, 2, 3, 4, 5, 6, 7, 8] rfl)
                clear hF
                have hF := hy39
                clear hy39
                refine lv_icmp_ne (tgt := 185) hx hb dX9_pieceAt_171 (by decide) (fun c40 => ?_) (fun c40 => ?_)
                · rw [if_neg c40] at hF
                  refine lv_iconst (v := (-1 : Int32)) hx hb dX9_pieceAt_185 (by decide) ?_
                  obtain rfl := Option.some.inj hF
                  exact J39 _ _ _ hP hD hS (lv_sub hl [0, 1, 2, 3, 4, 5, 6, 7, 8] rfl)
                · rw [if_pos c40] at hF
                  refine lv_bipush (v := (16 : Int32)) hx hb dX9_pieceAt_174 (by decide) ?_
                  refine lv_iload hx hb dX9_pieceAt_176 (lv_at hl 1 rfl) ?_
                  refine lv_imul hx hb dX9_pieceAt_178 ?_
                  obtain ⟨x41, ex41, hF⟩ := ltt_some hF
                  refine lv_topi (fun zx41 ezx41 => ?_)
                  obtain rfl : x41 = zx41 := ex41.trans ezx41.symm
                  refine lv_iload hx hb dX9_pieceAt_179 (lv_at hl 0 rfl) ?_
                  refine lv_iadd hx hb dX9_pieceAt_181 ?_
                  obtain ⟨x42, ex42, hF⟩ := ltt_some hF
                  refine lv_topi (fun zx42 ezx42 => ?_)
                  obtain rfl : x42 = zx42 := ex42.trans ezx42.symm
                  refine lv_goto (tgt := 186) hx hb dX9_pieceAt_182 (by decide) ?_
                  obtain rfl := Option.some.inj hF
                  exact J39 _ _ _ hP hD hS (lv_sub hl [0, 1, 2, 3, 4, 5, 6, 7, 8] rfl)
            · rw [if_pos c31] at hF
              refine lv_iload hx hb dX9_pieceAt_129 (lv_at hl 0 rfl) ?_
              refine lv_iload hx hb dX9_pieceAt_131 (lv_at hl 8 rfl) ?_
              obtain ⟨y43, hy43, hF⟩ := bnd_some hF
              have J43 : ∀ (H : Heap) (locs : List Loc) (ls : Array Slot), va_P D classes (wld ct ad G M) H → va_D A (wld ct ad G M) → va_S A s.heap H locs → lv_has ls 9 [(8, .int x30), (7, .int x16), (6, .int x9), (5, .int x5), (0, .ref (ad a)), (1, .int p0), (2, .int p1), (3, .int p2), (4, .int p3)] → W p l e (headSpec wsX9_pieceAt ({ frames := 0, cells := 0, slots := 0, locals := 0 })).room s m ([.ref (ad a), .int p0, .int p1, .int p2, .int p3] : List Value).toArray below meth c H locs 0 0 (MQ below (va_Qi (fun (q : Int32) (_ : Unit) => q = y.2) (fun _ t => kE D ct ad G A y.1 t) A) ([.ref (ad a), .int p0, .int p1, .int p2, .int p3] : List Value).toArray s 0 0 A) (F0 m 147 ls [.int y43]) := by
                intro H locs ls hP hD hS hl
                obtain rfl := Option.some.inj hF
                exact W.iret (v := y43) hx hb hr (fun t ht hW => ⟨⟨_, (), rfl, rfl, ⟨by rw [ht]; exact hP, va_K.moved hW.alike hK, hD⟩⟩, hS.F ht⟩) hS.2.2 dX9_pieceAt_147
              clear hF
              have hF := hy43
              clear hy43
              refine lv_icmp_ge (tgt := 146) hx hb dX9_pieceAt_133 (by decide) (fun c44 => ?_) (fun c44 => ?_)
              · rw [if_pos c44] at hF
                refine lv_iconst (v := (-1 : Int32)) hx hb dX9_pieceAt_146 (by decide) ?_
                obtain rfl := Option.some.inj hF
                exact J43 _ _ _ hP hD hS (lv_sub hl [0, 1, 2, 3, 4, 5, 6, 7, 8] rfl)
              · rw [if_neg c44] at hF
                refine lv_bipush (v := (16 : Int32)) hx hb dX9_pieceAt_136 (by decide) ?_
                refine lv_iload_n hx hb dX9_pieceAt_138 rfl (lv_at hl 5 rfl) ?_
                refine lv_imul hx hb dX9_pieceAt_139 ?_
                obtain ⟨x45, ex45, hF⟩ := ltt_some hF
                refine lv_topi (fun zx45 ezx45 => ?_)
                obtain rfl : x45 = zx45 := ex45.trans ezx45.symm
                refine lv_iload hx hb dX9_pieceAt_140 (lv_at hl 0 rfl) ?_
                refine lv_iadd hx hb dX9_pieceAt_142 ?_
                obtain ⟨x46, ex46, hF⟩ := ltt_some hF
                refine lv_topi (fun zx46 ezx46 => ?_)
                obtain rfl : x46 = zx46 := ex46.trans ezx46.symm
                refine lv_goto (tgt := 147) hx hb dX9_pieceAt_143 (by decide) ?_
                obtain rfl := Option.some.inj hF
                exact J43 _ _ _ hP hD hS (lv_sub hl [0, 1, 2, 3, 4, 5, 6, 7, 8] rfl)
          · rw [if_neg c13] at hF
            refine lv_iconst (v := (-1 : Int32)) hx hb dX9_pieceAt_74 (by decide) ?_
            obtain rfl := Option.some.inj hF
            exact W.iret (v := (-1 : Int32)) hx hb hr (fun t ht hW => ⟨⟨_, (), rfl, rfl, ⟨by rw [ht]; exact hP, va_K.moved hW.alike hK, hD⟩⟩, hS.F ht⟩) hS.2.2 dX9_pieceAt_75
    clear hF
    have hF := hy8
    clear hy8
    refine lv_if_ge (tgt := 48) hx hb dX9_pieceAt_41 (by decide) (fun c47 => ?_) (fun c47 => ?_)
    · rw [if_pos c47] at hF
      refine lv_iconst (v := (0 : Int32)) hx hb dX9_pieceAt_48 (by decide) ?_
      obtain rfl := Option.some.inj hF
      exact J8 _ _ _ hP hD hS (lv_sub hl [0, 1, 2, 3, 4, 5] rfl)
    · rw [if_neg c47] at hF
      refine lv_iconst (v := (1 : Int32)) hx hb dX9_pieceAt_44 (by decide) ?_
      refine lv_goto (tgt := 49) hx hb dX9_pieceAt_45 (by decide) ?_
      obtain rfl := Option.some.inj hF
      exact J8 _ _ _ hP hD hS (lv_sub hl [0, 1, 2, 3, 4, 5] rfl)
  clear hF
  have hF := hy4
  clear hy4
  refine lv_if_ge (tgt := 17) hx hb dX9_pieceAt_10 (by decide) (fun c48 => ?_) (fun c48 => ?_)
  · rw [if_pos c48] at hF
    refine lv_iload_n hx hb dX9_pieceAt_17 rfl (lv_at hl 2 rfl) ?_
    refine lv_bipush (v := (15 : Int32)) hx hb dX9_pieceAt_18 (by decide) ?_
    obtain ⟨y49, hy49, hF⟩ := bnd_some hF
    have J49 : ∀ (H : Heap) (locs : List Loc) (ls : Array Slot), va_P D classes (wld ct ad G M) H → va_D A (wld ct ad G M) → va_S A s.heap H locs → lv_has ls 9 [(0, .ref (ad a)), (1, .int p0), (2, .int p1), (3, .int p2), (4, .int p3)] → W p l e (headSpec wsX9_pieceAt ({ frames := 0, cells := 0, slots := 0, locals := 0 })).room s m ([.ref (ad a), .int p0, .int p1, .int p2, .int p3] : List Value).toArray below meth c H locs 0 0 (MQ below (va_Qi (fun (q : Int32) (_ : Unit) => q = y.2) (fun _ t => kE D ct ad G A y.1 t) A) ([.ref (ad a), .int p0, .int p1, .int p2, .int p3] : List Value).toArray s 0 0 A) (F0 m 28 ls [.int y49, .int x3]) := by
      intro H locs ls hP hD hS hl
      obtain rfl := Option.some.inj hF
      exact J4 _ _ _ hP hD hS (lv_sub hl [0, 1, 2, 3, 4] rfl)
    clear hF
    have hF := hy49
    clear hy49
    refine lv_icmp_le (tgt := 27) hx hb dX9_pieceAt_20 (by decide) (fun c50 => ?_) (fun c50 => ?_)
    · rw [if_pos c50] at hF
      refine lv_iconst (v := (0 : Int32)) hx hb dX9_pieceAt_27 (by decide) ?_
      obtain rfl := Option.some.inj hF
      exact J49 _ _ _ hP hD hS (lv_sub hl [0, 1, 2, 3, 4] rfl)
    · rw [if_neg c50] at hF
      refine lv_iconst (v := (1 : Int32)) hx hb dX9_pieceAt_23 (by decide) ?_
      refine lv_goto (tgt := 28) hx hb dX9_pieceAt_24 (by decide) ?_
      obtain rfl := Option.some.inj hF
      exact J49 _ _ _ hP hD hS (lv_sub hl [0, 1, 2, 3, 4] rfl)
  · rw [if_neg c48] at hF
    refine lv_iconst (v := (-1 : Int32)) hx hb dX9_pieceAt_13 (by decide) ?_
    refine lv_goto (tgt := 28) hx hb dX9_pieceAt_14 (by decide) ?_
    obtain rfl := Option.some.inj hF
    exact J4 _ _ _ hP hD hS (lv_sub hl [0, 1, 2, 3, 4] rfl)
theorem dX9_pieceX_0 : decode cX9_pieceX 0 = .ok (.bipush 8, 2) := by decide +kernel
theorem dX9_pieceX_2 : decode cX9_pieceX 2 = .ok (.iload_n 0, 1) := by decide +kernel
theorem dX9_pieceX_3 : decode cX9_pieceX 3 = .ok (.iconst 4, 1) := by decide +kernel
theorem dX9_pieceX_4 : decode cX9_pieceX 4 = .ok (.idiv, 1) := by decide +kernel
theorem dX9_pieceX_5 : decode cX9_pieceX 5 = .ok (.iconst 2, 1) := by decide +kernel
theorem dX9_pieceX_6 : decode cX9_pieceX 6 = .ok (.irem, 1) := by decide +kernel
theorem dX9_pieceX_7 : decode cX9_pieceX 7 = .ok (.imul, 1) := by decide +kernel
theorem dX9_pieceX_8 : decode cX9_pieceX 8 = .ok (.iconst 4, 1) := by decide +kernel
theorem dX9_pieceX_9 : decode cX9_pieceX 9 = .ok (.iload_n 0, 1) := by decide +kernel
theorem dX9_pieceX_10 : decode cX9_pieceX 10 = .ok (.iconst 2, 1) := by decide +kernel
theorem dX9_pieceX_11 : decode cX9_pieceX 11 = .ok (.irem, 1) := by decide +kernel
theorem dX9_pieceX_12 : decode cX9_pieceX 12 = .ok (.imul, 1) := by decide +kernel
theorem dX9_pieceX_13 : decode cX9_pieceX 13 = .ok (.iadd, 1) := by decide +kernel
theorem dX9_pieceX_14 : decode cX9_pieceX 14 = .ok (.ireturn, 1) := by decide +kernel
def FX9_pieceX (G : GG) (M : DD) (p0 : Int32) : Option (DD × Int32) :=
  ltt (p0 / ((4 : Int32))) fun x1 =>
  ltt (x1 - x1 / ((2 : Int32)) * ((2 : Int32))) fun x2 =>
  ltt ((((8 : Int32)) * x2)) fun x3 =>
  ltt (p0 - p0 / ((2 : Int32)) * ((2 : Int32))) fun x4 =>
  ltt ((((4 : Int32)) * x4)) fun x5 =>
  ltt ((x3 + x5)) fun x6 =>
  some (M, x6)
set_option maxHeartbeats 4000000 in
set_option maxRecDepth 100000 in
theorem kX9_pieceX (l : Launch) (D : va_G) (ct : CT) (ad : Nat → Nat) (Z : Nat → Nat) (G : GG) (M : DD) (sz : Nat) (p0 : Int32) (y : DD × Int32) (hF : FX9_pieceX G M p0 = some y) : Met l yX9_pieceX wsX9_pieceX ({ frames := 0, cells := 0, slots := 0, locals := 0 }) (va_Pc [.int p0] (kB D ct ad Z G M sz)) (va_Qi (fun (q : Int32) (_ : Unit) => q = y.2) (fun _ t => kE D ct ad G (wA ad G sz) y.1 t) (wA ad G sz)) 0 0 (wA ad G sz) := by
  refine Met.ofW (cc := cX9_pieceX) (maxL := 1) (ret := (some .int)) (by decide) rfl ?_
  intro p e s m args below meth c s₁ B hml hv
  obtain ⟨rfl, hsz, hP, hK, hD0, hZ, hN⟩ := hv
  have hx := B.exec
  have hb := B.bytes
  have hr := B.returns
  have hts := atoms_spec (ws := wsX9_pieceX) B.pre
  have hown : s.vm.findClass RX9 = some m.cls := findClass_of_methodNamed B.named
  have hlocks := B.notSynchronized
  subst hsz
  have hD := wD_self (sz := s.heap.size) hD0
  have hA9 : ∀ q, s.heap.size ≤ q → wA ad G s.heap.size q := fun q h => Or.inr h
  generalize hAe : wA ad G s.heap.size = A at hD hA9 hZ ⊢
  have hS : va_S A s.heap s.heap [] := va_S.rf
  have hl := lv_entry ([.int p0]) (n := 1) (Nat.le_of_ble_eq_true rfl)
  rw [lg_entry_eq]
  generalize (lg_sl ([.int p0]) ++ List.replicate (1 - (lg_sl ([.int p0])).length) Slot.unset).toArray = ls at hl ⊢
  have hl : lv_has ls 1 [(0, .int p0)] := hl
  unfold FX9_pieceX at hF
  refine lv_bipush (v := (8 : Int32)) hx hb dX9_pieceX_0 (by decide) ?_
  refine lv_iload_n hx hb dX9_pieceX_2 rfl (lv_at hl 0 rfl) ?_
  refine lv_iconst (v := (4 : Int32)) hx hb dX9_pieceX_3 (by decide) ?_
  refine lv_idiv hx hb dX9_pieceX_4 (by decide) ?_
  obtain ⟨x1, ex1, hF⟩ := ltt_some hF
  refine lv_topi (fun zx1 ezx1 => ?_)
  obtain rfl : x1 = zx1 := ex1.trans ezx1.symm
  refine lv_iconst (v := (2 : Int32)) hx hb dX9_pieceX_5 (by decide) ?_
  refine lv_irem hx hb dX9_pieceX_6 (by decide) ?_
  obtain ⟨x2, ex2, hF⟩ := ltt_some hF
  refine lv_topi (fun zx2 ezx2 => ?_)
  obtain rfl : x2 = zx2 := ex2.trans ezx2.symm
  refine lv_imul hx hb dX9_pieceX_7 ?_
  obtain ⟨x3, ex3, hF⟩ := ltt_some hF
  refine lv_topi (fun zx3 ezx3 => ?_)
  obtain rfl : x3 = zx3 := ex3.trans ezx3.symm
  refine lv_iconst (v := (4 : Int32)) hx hb dX9_pieceX_8 (by decide) ?_
  refine lv_iload_n hx hb dX9_pieceX_9 rfl (lv_at hl 0 rfl) ?_
  refine lv_iconst (v := (2 : Int32)) hx hb dX9_pieceX_10 (by decide) ?_
  refine lv_irem hx hb dX9_pieceX_11 (by decide) ?_
  obtain ⟨x4, ex4, hF⟩ := ltt_some hF
  refine lv_topi (fun zx4 ezx4 => ?_)
  obtain rfl : x4 = zx4 := ex4.trans ezx4.symm
  refine lv_imul hx hb dX9_pieceX_12 ?_
  obtain ⟨x5, ex5, hF⟩ := ltt_some hF
  refine lv_topi (fun zx5 ezx5 => ?_)
  obtain rfl : x5 = zx5 := ex5.trans ezx5.symm
  refine lv_iadd hx hb dX9_pieceX_13 ?_
  obtain ⟨x6, ex6, hF⟩ := ltt_some hF
  refine lv_topi (fun zx6 ezx6 => ?_)
  obtain rfl : x6 = zx6 := ex6.trans ezx6.symm
  obtain rfl := Option.some.inj hF
  exact W.iret (v := x6) hx hb hr (fun t ht hW => ⟨⟨_, (), rfl, rfl, ⟨by rw [ht]; exact hP, va_K.moved hW.alike hK, hD⟩⟩, hS.F ht⟩) hS.2.2 dX9_pieceX_14
theorem dX9_pieceY_0 : decode cX9_pieceY 0 = .ok (.bipush 8, 2) := by decide +kernel
theorem dX9_pieceY_2 : decode cX9_pieceY 2 = .ok (.iload_n 0, 1) := by decide +kernel
theorem dX9_pieceY_3 : decode cX9_pieceY 3 = .ok (.bipush 8, 2) := by decide +kernel
theorem dX9_pieceY_5 : decode cX9_pieceY 5 = .ok (.idiv, 1) := by decide +kernel
theorem dX9_pieceY_6 : decode cX9_pieceY 6 = .ok (.imul, 1) := by decide +kernel
theorem dX9_pieceY_7 : decode cX9_pieceY 7 = .ok (.iconst 4, 1) := by decide +kernel
theorem dX9_pieceY_8 : decode cX9_pieceY 8 = .ok (.iload_n 0, 1) := by decide +kernel
theorem dX9_pieceY_9 : decode cX9_pieceY 9 = .ok (.iconst 2, 1) := by decide +kernel
theorem dX9_pieceY_10 : decode cX9_pieceY 10 = .ok (.idiv, 1) := by decide +kernel
theorem dX9_pieceY_11 : decode cX9_pieceY 11 = .ok (.iconst 2, 1) := by decide +kernel
theorem dX9_pieceY_12 : decode cX9_pieceY 12 = .ok (.irem, 1) := by decide +kernel
theorem dX9_pieceY_13 : decode cX9_pieceY 13 = .ok (.imul, 1) := by decide +kernel
theorem dX9_pieceY_14 : decode cX9_pieceY 14 = .ok (.iadd, 1) := by decide +kernel
theorem dX9_pieceY_15 : decode cX9_pieceY 15 = .ok (.ireturn, 1) := by decide +kernel
def FX9_pieceY (G : GG) (M : DD) (p0 : Int32) : Option (DD × Int32) :=
  ltt (p0 / ((8 : Int32))) fun x1 =>
  ltt ((((8 : Int32)) * x1)) fun x2 =>
  ltt (p0 / ((2 : Int32))) fun x3 =>
  ltt (x3 - x3 / ((2 : Int32)) * ((2 : Int32))) fun x4 =>
  ltt ((((4 : Int32)) * x4)) fun x5 =>
  ltt ((x2 + x5)) fun x6 =>
  some (M, x6)
set_option maxHeartbeats 4000000 in
set_option maxRecDepth 100000 in
theorem kX9_pieceY (l : Launch) (D : va_G) (ct : CT) (ad : Nat → Nat) (Z : Nat → Nat) (G : GG) (M : DD) (sz : Nat) (p0 : Int32) (y : DD × Int32) (hF : FX9_pieceY G M p0 = some y) : Met l yX9_pieceY wsX9_pieceY ({ frames := 0, cells := 0, slots := 0, locals := 0 }) (va_Pc [.int p0] (kB D ct ad Z G M sz)) (va_Qi (fun (q : Int32) (_ : Unit) => q = y.2) (fun _ t => kE D ct ad G (wA ad G sz) y.1 t) (wA ad G sz)) 0 0 (wA ad G sz) := by
  refine Met.ofW (cc := cX9_pieceY) (maxL := 1) (ret := (some .int)) (by decide) rfl ?_
  intro p e s m args below meth c s₁ B hml hv
  obtain ⟨rfl, hsz, hP, hK, hD0, hZ, hN⟩ := hv
  have hx := B.exec
  have hb := B.bytes
  have hr := B.returns
  have hts := atoms_spec (ws := wsX9_pieceY) B.pre
  have hown : s.vm.findClass RX9 = some m.cls := findClass_of_methodNamed B.named
  have hlocks := B.notSynchronized
  subst hsz
  have hD := wD_self (sz := s.heap.size) hD0
  have hA9 : ∀ q, s.heap.size ≤ q → wA ad G s.heap.size q := fun q h => Or.inr h
  generalize hAe : wA ad G s.heap.size = A at hD hA9 hZ ⊢
  have hS : va_S A s.heap s.heap [] := va_S.rf
  have hl := lv_entry ([.int p0]) (n := 1) (Nat.le_of_ble_eq_true rfl)
  rw [lg_entry_eq]
  generalize (lg_sl ([.int p0]) ++ List.replicate (1 - (lg_sl ([.int p0])).length) Slot.unset).toArray = ls at hl ⊢
  have hl : lv_has ls 1 [(0, .int p0)] := hl
  unfold FX9_pieceY at hF
  refine lv_bipush (v := (8 : Int32)) hx hb dX9_pieceY_0 (by decide) ?_
  refine lv_iload_n hx hb dX9_pieceY_2 rfl (lv_at hl 0 rfl) ?_
  refine lv_bipush (v := (8 : Int32)) hx hb dX9_pieceY_3 (by decide) ?_
  refine lv_idiv hx hb dX9_pieceY_5 (by decide) ?_
  obtain ⟨x1, ex1, hF⟩ := ltt_some hF
  refine lv_topi (fun zx1 ezx1 => ?_)
  obtain rfl : x1 = zx1 := ex1.trans ezx1.symm
  refine lv_imul hx hb dX9_pieceY_6 ?_
  obtain ⟨x2, ex2, hF⟩ := ltt_some hF
  refine lv_topi (fun zx2 ezx2 => ?_)
  obtain rfl : x2 = zx2 := ex2.trans ezx2.symm
  refine lv_iconst (v := (4 : Int32)) hx hb dX9_pieceY_7 (by decide) ?_
  refine lv_iload_n hx hb dX9_pieceY_8 rfl (lv_at hl 0 rfl) ?_
  refine lv_iconst (v := (2 : Int32)) hx hb dX9_pieceY_9 (by decide) ?_
  refine lv_idiv hx hb dX9_pieceY_10 (by decide) ?_
  obtain ⟨x3, ex3, hF⟩ := ltt_some hF
  refine lv_topi (fun zx3 ezx3 => ?_)
  obtain rfl : x3 = zx3 := ex3.trans ezx3.symm
  refine lv_iconst (v := (2 : Int32)) hx hb dX9_pieceY_11 (by decide) ?_
  refine lv_irem hx hb dX9_pieceY_12 (by decide) ?_
  obtain ⟨x4, ex4, hF⟩ := ltt_some hF
  refine lv_topi (fun zx4 ezx4 => ?_)
  obtain rfl : x4 = zx4 := ex4.trans ezx4.symm
  refine lv_imul hx hb dX9_pieceY_13 ?_
  obtain ⟨x5, ex5, hF⟩ := ltt_some hF
  refine lv_topi (fun zx5 ezx5 => ?_)
  obtain rfl : x5 = zx5 := ex5.trans ezx5.symm
  refine lv_iadd hx hb dX9_pieceY_14 ?_
  obtain ⟨x6, ex6, hF⟩ := ltt_some hF
  refine lv_topi (fun zx6 ezx6 => ?_)
  obtain rfl : x6 = zx6 := ex6.trans ezx6.symm
  obtain rfl := Option.some.inj hF
  exact W.iret (v := x6) hx hb hr (fun t ht hW => ⟨⟨_, (), rfl, rfl, ⟨by rw [ht]; exact hP, va_K.moved hW.alike hK, hD⟩⟩, hS.F ht⟩) hS.2.2 dX9_pieceY_15
theorem ggX9_planQuarter_X9_addGroup : GoodIn wsX9_planQuarter wsX9_addGroup := goodIn_r _ [8, 9, 10, 17, 18, 19, 20, 21, 22, 23, 24, 25, 26, 27, 28, 29, 30, 31, 32, 33, 34, 35, 36] (by decide +kernel) (by decide +kernel)
set_option maxRecDepth 20000 in
theorem gX9_planQuarter_X9_addGroup : GoodIn wsX9_planQuarter (wsV RX9 148 RX9 yX9_addGroup wsX9_addGroup) := goodIn_app (goodIn_of _ (by decide +kernel)) ggX9_planQuarter_X9_addGroup
set_option maxRecDepth 20000 in
theorem ggX9_planQuarter_X9_addPart : GoodIn wsX9_planQuarter wsX9_addPart := goodIn_r _ [14, 15, 16, 10, 9, 17, 18, 19, 20, 21, 22, 23, 24, 25, 26, 27, 28, 29, 30, 31, 32, 33, 34, 35, 36] (by decide +kernel) (by decide +kernel)
set_option maxRecDepth 20000 in
theorem gX9_planQuarter_X9_addPart : GoodIn wsX9_planQuarter (wsV RX9 152 RX9 yX9_addPart wsX9_addPart) := goodIn_app (goodIn_of _ (by decide +kernel)) ggX9_planQuarter_X9_addPart
theorem dX9_planQuarter_0 : decode cX9_planQuarter 0 = .ok (.aload_n 0, 1) := by decide +kernel
theorem dX9_planQuarter_1 : decode cX9_planQuarter 1 = .ok (.getfield 39, 3) := by decide +kernel
theorem dX9_planQuarter_4 : decode cX9_planQuarter 4 = .ok (.iload_n 2, 1) := by decide +kernel
theorem dX9_planQuarter_5 : decode cX9_planQuarter 5 = .ok (.iaload, 1) := by decide +kernel
theorem dX9_planQuarter_6 : decode cX9_planQuarter 6 = .ok (.istore_n 3, 1) := by decide +kernel
theorem dX9_planQuarter_7 : decode cX9_planQuarter 7 = .ok (.iload_n 1, 1) := by decide +kernel
theorem dX9_planQuarter_8 : decode cX9_planQuarter 8 = .ok (.ifCond .ne 7, 3) := by decide +kernel
theorem dX9_planQuarter_11 : decode cX9_planQuarter 11 = .ok (.iload_n 3, 1) := by decide +kernel
theorem dX9_planQuarter_12 : decode cX9_planQuarter 12 = .ok (.goto 8, 3) := by decide +kernel
theorem dX9_planQuarter_15 : decode cX9_planQuarter 15 = .ok (.getstatic 155, 3) := by decide +kernel
theorem dX9_planQuarter_18 : decode cX9_planQuarter 18 = .ok (.iload_n 3, 1) := by decide +kernel
theorem dX9_planQuarter_19 : decode cX9_planQuarter 19 = .ok (.iaload, 1) := by decide +kernel
theorem dX9_planQuarter_20 : decode cX9_planQuarter 20 = .ok (.istore 4, 2) := by decide +kernel
theorem dX9_planQuarter_22 : decode cX9_planQuarter 22 = .ok (.iload_n 1, 1) := by decide +kernel
theorem dX9_planQuarter_23 : decode cX9_planQuarter 23 = .ok (.ifCond .ne 7, 3) := by decide +kernel
theorem dX9_planQuarter_26 : decode cX9_planQuarter 26 = .ok (.iconst 1, 1) := by decide +kernel
theorem dX9_planQuarter_27 : decode cX9_planQuarter 27 = .ok (.goto 8, 3) := by decide +kernel
theorem dX9_planQuarter_30 : decode cX9_planQuarter 30 = .ok (.getstatic 158, 3) := by decide +kernel
theorem dX9_planQuarter_33 : decode cX9_planQuarter 33 = .ok (.iload_n 3, 1) := by decide +kernel
theorem dX9_planQuarter_34 : decode cX9_planQuarter 34 = .ok (.iaload, 1) := by decide +kernel
theorem dX9_planQuarter_35 : decode cX9_planQuarter 35 = .ok (.istore 5, 2) := by decide +kernel
theorem dX9_planQuarter_37 : decode cX9_planQuarter 37 = .ok (.iload 5, 2) := by decide +kernel
theorem dX9_planQuarter_39 : decode cX9_planQuarter 39 = .ok (.ifCond .ne 4, 3) := by decide +kernel
theorem dX9_planQuarter_42 : decode cX9_planQuarter 42 = .ok (.return_, 1) := by decide +kernel
theorem dX9_planQuarter_43 : decode cX9_planQuarter 43 = .ok (.aload_n 0, 1) := by decide +kernel
theorem dX9_planQuarter_44 : decode cX9_planQuarter 44 = .ok (.iconst 4, 1) := by decide +kernel
theorem dX9_planQuarter_45 : decode cX9_planQuarter 45 = .ok (.iload_n 2, 1) := by decide +kernel
theorem dX9_planQuarter_46 : decode cX9_planQuarter 46 = .ok (.imul, 1) := by decide +kernel
theorem dX9_planQuarter_47 : decode cX9_planQuarter 47 = .ok (.bipush 8, 2) := by decide +kernel
theorem dX9_planQuarter_49 : decode cX9_planQuarter 49 = .ok (.bipush 8, 2) := by decide +kernel
theorem dX9_planQuarter_51 : decode cX9_planQuarter 51 = .ok (.iload 5, 2) := by decide +kernel
theorem dX9_planQuarter_53 : decode cX9_planQuarter 53 = .ok (.invokevirtual 148, 3) := by decide +kernel
theorem dX9_planQuarter_56 : decode cX9_planQuarter 56 = .ok (.iload 4, 2) := by decide +kernel
theorem dX9_planQuarter_58 : decode cX9_planQuarter 58 = .ok (.iconst 1, 1) := by decide +kernel
theorem dX9_planQuarter_59 : decode cX9_planQuarter 59 = .ok (.if_icmp .le 7, 3) := by decide +kernel
theorem dX9_planQuarter_62 : decode cX9_planQuarter 62 = .ok (.iconst 4, 1) := by decide +kernel
theorem dX9_planQuarter_63 : decode cX9_planQuarter 63 = .ok (.goto 5, 3) := by decide +kernel
theorem dX9_planQuarter_66 : decode cX9_planQuarter 66 = .ok (.bipush 8, 2) := by decide +kernel
theorem dX9_planQuarter_68 : decode cX9_planQuarter 68 = .ok (.istore 6, 2) := by decide +kernel
theorem dX9_planQuarter_70 : decode cX9_planQuarter 70 = .ok (.iload 4, 2) := by decide +kernel
theorem dX9_planQuarter_72 : decode cX9_planQuarter 72 = .ok (.iconst 2, 1) := by decide +kernel
theorem dX9_planQuarter_73 : decode cX9_planQuarter 73 = .ok (.irem, 1) := by decide +kernel
theorem dX9_planQuarter_74 : decode cX9_planQuarter 74 = .ok (.iconst 1, 1) := by decide +kernel
theorem dX9_planQuarter_75 : decode cX9_planQuarter 75 = .ok (.if_icmp .ne 7, 3) := by decide +kernel
theorem dX9_planQuarter_78 : decode cX9_planQuarter 78 = .ok (.iconst 4, 1) := by decide +kernel
theorem dX9_planQuarter_79 : decode cX9_planQuarter 79 = .ok (.goto 5, 3) := by decide +kernel
theorem dX9_planQuarter_82 : decode cX9_planQuarter 82 = .ok (.bipush 8, 2) := by decide +kernel
theorem dX9_planQuarter_84 : decode cX9_planQuarter 84 = .ok (.istore 7, 2) := by decide +kernel
theorem dX9_planQuarter_86 : decode cX9_planQuarter 86 = .ok (.iconst 0, 1) := by decide +kernel
theorem dX9_planQuarter_87 : decode cX9_planQuarter 87 = .ok (.istore 8, 2) := by decide +kernel
theorem dX9_planQuarter_89 : decode cX9_planQuarter 89 = .ok (.iload 8, 2) := by decide +kernel
theorem dX9_planQuarter_91 : decode cX9_planQuarter 91 = .ok (.iconst 4, 1) := by decide +kernel
theorem dX9_planQuarter_92 : decode cX9_planQuarter 92 = .ok (.if_icmp .ge 62, 3) := by decide +kernel
theorem dX9_planQuarter_95 : decode cX9_planQuarter 95 = .ok (.iload 4, 2) := by decide +kernel
theorem dX9_planQuarter_97 : decode cX9_planQuarter 97 = .ok (.ifCond .ne 8, 3) := by decide +kernel
theorem dX9_planQuarter_100 : decode cX9_planQuarter 100 = .ok (.iload 8, 2) := by decide +kernel
theorem dX9_planQuarter_102 : decode cX9_planQuarter 102 = .ok (.ifCond .gt 33, 3) := by decide +kernel
theorem dX9_planQuarter_105 : decode cX9_planQuarter 105 = .ok (.iload 4, 2) := by decide +kernel
theorem dX9_planQuarter_107 : decode cX9_planQuarter 107 = .ok (.iconst 2, 1) := by decide +kernel
theorem dX9_planQuarter_108 : decode cX9_planQuarter 108 = .ok (.if_icmp .ne 12, 3) := by decide +kernel
theorem dX9_planQuarter_111 : decode cX9_planQuarter 111 = .ok (.iload 8, 2) := by decide +kernel
theorem dX9_planQuarter_113 : decode cX9_planQuarter 113 = .ok (.iconst 1, 1) := by decide +kernel
theorem dX9_planQuarter_114 : decode cX9_planQuarter 114 = .ok (.if_icmp .le 6, 3) := by decide +kernel
theorem dX9_planQuarter_117 : decode cX9_planQuarter 117 = .ok (.goto 18, 3) := by decide +kernel
theorem dX9_planQuarter_120 : decode cX9_planQuarter 120 = .ok (.aload_n 0, 1) := by decide +kernel
theorem dX9_planQuarter_121 : decode cX9_planQuarter 121 = .ok (.iconst 4, 1) := by decide +kernel
theorem dX9_planQuarter_122 : decode cX9_planQuarter 122 = .ok (.iload_n 2, 1) := by decide +kernel
theorem dX9_planQuarter_123 : decode cX9_planQuarter 123 = .ok (.imul, 1) := by decide +kernel
theorem dX9_planQuarter_124 : decode cX9_planQuarter 124 = .ok (.iload 8, 2) := by decide +kernel
theorem dX9_planQuarter_126 : decode cX9_planQuarter 126 = .ok (.iadd, 1) := by decide +kernel
theorem dX9_planQuarter_127 : decode cX9_planQuarter 127 = .ok (.iload 6, 2) := by decide +kernel
theorem dX9_planQuarter_129 : decode cX9_planQuarter 129 = .ok (.iload 7, 2) := by decide +kernel
theorem dX9_planQuarter_131 : decode cX9_planQuarter 131 = .ok (.iconst 0, 1) := by decide +kernel
theorem dX9_planQuarter_132 : decode cX9_planQuarter 132 = .ok (.invokevirtual 152, 3) := by decide +kernel
theorem dX9_planQuarter_135 : decode cX9_planQuarter 135 = .ok (.iload 8, 2) := by decide +kernel
theorem dX9_planQuarter_137 : decode cX9_planQuarter 137 = .ok (.iload 4, 2) := by decide +kernel
theorem dX9_planQuarter_139 : decode cX9_planQuarter 139 = .ok (.iconst 1, 1) := by decide +kernel
theorem dX9_planQuarter_140 : decode cX9_planQuarter 140 = .ok (.if_icmp .ne 7, 3) := by decide +kernel
theorem dX9_planQuarter_143 : decode cX9_planQuarter 143 = .ok (.iconst 2, 1) := by decide +kernel
theorem dX9_planQuarter_144 : decode cX9_planQuarter 144 = .ok (.goto 4, 3) := by decide +kernel
theorem dX9_planQuarter_147 : decode cX9_planQuarter 147 = .ok (.iconst 1, 1) := by decide +kernel
theorem dX9_planQuarter_148 : decode cX9_planQuarter 148 = .ok (.iadd, 1) := by decide +kernel
theorem dX9_planQuarter_149 : decode cX9_planQuarter 149 = .ok (.istore 8, 2) := by decide +kernel
theorem dX9_planQuarter_151 : decode cX9_planQuarter 151 = .ok (.goto (-62), 3) := by decide +kernel
theorem dX9_planQuarter_154 : decode cX9_planQuarter 154 = .ok (.return_, 1) := by decide +kernel
def FX9_planQuarter (G : GG) (M : DD) (a : Nat) (p0 : Int32) (p1 : Int32) : Option (DD) :=
  dr G 13 ((M.2 a 12)) fun b2 =>
  chk (¬ (p1 < 0 ∨ G.2.2 b2 ≤ p1.toNatClampNeg)) <|
  ltt (M.1 b2 p1.toNatClampNeg) fun x3 =>
  bnd (if p0 = ((0 : Int32)) then (some (x3)) else
  (chk (¬ (x3 < 0 ∨ 13 ≤ x3.toNatClampNeg)) <|
  ltt ((sT 17).getD x3.toNatClampNeg 0) fun x49 =>
  some (x49))) fun (y4 : Int32) =>
  bnd (if p0 = ((0 : Int32)) then (some ((1 : Int32))) else
  (chk (¬ (x3 < 0 ∨ 13 ≤ x3.toNatClampNeg)) <|
  ltt ((sT 18).getD x3.toNatClampNeg 0) fun x47 =>
  some (x47))) fun (y5 : Int32) =>
  if y5 = ((0 : Int32)) then (some M) else
  (ltt ((((4 : Int32)) * p1)) fun x7 =>
  bnd (FX9_addGroup G M a x7 ((8 : Int32)) ((8 : Int32)) y5) fun y8 =>
  bnd (if y4 ≤ ((1 : Int32)) then (some ((8 : Int32))) else
  (some ((4 : Int32)))) fun (y9 : Int32) =>
  ltt (y4 - y4 / ((2 : Int32)) * ((2 : Int32))) fun x10 =>
  bnd (if x10 = ((1 : Int32)) then (some ((4 : Int32))) else
  (some ((8 : Int32)))) fun (y11 : Int32) =>
  bnd (itr (fun (s13 : Int32 × DD) => ((if ((4 : Int32)) ≤ s13.1 then (some (.inr (s13.1, s13.2))) else
  (bnd (if y4 = ((0 : Int32)) then (bnd (if ((0 : Int32)) < s13.1 then (some (s13.2)) else
  (bnd (if y4 = ((2 : Int32)) then (bnd (if s13.1 ≤ ((1 : Int32)) then (ltt ((((4 : Int32)) * p1)) fun x41 =>
  ltt ((x41 + s13.1)) fun x42 =>
  bnd (FX9_addPart G s13.2 a x42 y9 y11 ((0 : Int32))) fun y43 =>
  some (y43)) else
  (some (s13.2))) fun (y39 : DD) =>
  some (y39)) else
  (ltt ((((4 : Int32)) * p1)) fun x36 =>
  ltt ((x36 + s13.1)) fun x37 =>
  bnd (FX9_addPart G s13.2 a x37 y9 y11 ((0 : Int32))) fun y38 =>
  some (y38))) fun (y34 : DD) =>
  some (y34))) fun (y32 : DD) =>
  some (y32)) else
  (bnd (if y4 = ((2 : Int32)) then (bnd (if s13.1 ≤ ((1 : Int32)) then (ltt ((((4 : Int32)) * p1)) fun x29 =>
  ltt ((x29 + s13.1)) fun x30 =>
  bnd (FX9_addPart G s13.2 a x30 y9 y11 ((0 : Int32))) fun y31 =>
  some (y31)) else
  (some (s13.2))) fun (y27 : DD) =>
  some (y27)) else
  (ltt ((((4 : Int32)) * p1)) fun x24 =>
  ltt ((x24 + s13.1)) fun x25 =>
  bnd (FX9_addPart G s13.2 a x25 y9 y11 ((0 : Int32))) fun y26 =>
  some (y26))) fun (y22 : DD) =>
  some (y22))) fun (y17 : DD) =>
  bnd (if y4 = ((1 : Int32)) then (some ((2 : Int32))) else
  (some ((1 : Int32)))) fun (y18 : Int32) =>
  ltt ((s13.1 + y18)) fun x19 =>
  some (.inl (x19, y17)))) : Option ((Int32 × DD) ⊕ (Int32 × DD)))) 1000000 ((0 : Int32), y8)) fun (y12 : Int32 × DD) =>
  some y12.2)
set_option maxHeartbeats 4000000 in
set_option maxRecDepth 100000 in
theorem kX9_planQuarter (l : Launch) (D : va_G) (ct : CT) (ad : Nat → Nat) (Z : Nat → Nat) (G : GG) (M : DD) (sz : Nat) (a : Nat) (p0 : Int32) (p1 : Int32) (y : DD) (hc : a < G.1) (hk : G.2.1 a = 9) (hF : FX9_planQuarter G M a p0 p1 = some y) : Met l yX9_planQuarter wsX9_planQuarter ({ frames := 1, cells := 0, slots := 0, locals := 25 }) (va_Pc [.ref (ad a), .int p0, .int p1] (kB D ct ad Z G M sz)) (va_Qv (fun (_ : Unit) => True) (fun _ t => kE D ct ad G (wA ad G sz) y t) (wA ad G sz)) 0 0 (wA ad G sz) := by
  refine Met.ofW (cc := cX9_planQuarter) (maxL := 9) (ret := none) (by decide) rfl ?_
  intro p e s m args below meth c s₁ B hml hv
  obtain ⟨rfl, hsz, hP, hK, hD0, hZ, hN⟩ := hv
  have hx := B.exec
  have hb := B.bytes
  have hr := B.returns
  have hts := atoms_spec (ws := wsX9_planQuarter) B.pre
  have hown : s.vm.findClass RX9 = some m.cls := findClass_of_methodNamed B.named
  have hlocks := B.notSynchronized
  subst hsz
  have hD := wD_self (sz := s.heap.size) hD0
  have hA9 : ∀ q, s.heap.size ≤ q → wA ad G s.heap.size q := fun q h => Or.inr h
  generalize hAe : wA ad G s.heap.size = A at hD hA9 hZ ⊢
  have hS : va_S A s.heap s.heap [] := va_S.rf
  have hl := lv_entry ([.ref (ad a), .int p0, .int p1]) (n := 9) (Nat.le_of_ble_eq_true rfl)
  rw [lg_entry_eq]
  generalize (lg_sl ([.ref (ad a), .int p0, .int p1]) ++ List.replicate (9 - (lg_sl ([.ref (ad a), .int p0, .int p1])).length) Slot.unset).toArray = ls at hl ⊢
  have hl : lv_has ls 9 [(0, .ref (ad a)), (1, .int p0), (2, .int p1)] := hl
  unfold FX9_planQuarter at hF
  refine lv_aload_n hx hb dX9_planQuarter_0 rfl (lv_at hl 0 rfl) ?_
  refine va_get (D := D) (ci := 9) (v := va_re ad (M.2 a 12)) (C := RX9) (T := TX9) (N := 20) hx hb hts (by decide +kernel) hown hK hP a (wld_o ct ad G M hc hk (by decide)) rfl 12 (by decide) (hts (.fieldLink RX9 39 "VideoSuite$Work" "sub" "[I") (by decide +kernel)) (fun _ h9 => h9) rfl dX9_planQuarter_1 ?_
  refine lv_iload_n hx hb dX9_planQuarter_4 rfl (lv_at hl 2 rfl) ?_
  obtain ⟨b2, ho2, hc2, hk2, hF⟩ := dr_some hF
  refine W_st (st' := [.int p1, .ref (ad b2)]) (by rw [va_some ho2]) ?_
  obtain ⟨hvc, hF⟩ := chk_some hF
  refine va_iald hx hb hK hP b2 1 (wld_i ct ad G M hc2 hk2) rfl hvc dX9_planQuarter_5 ?_
  obtain ⟨x3, ex3, hF⟩ := ltt_some hF
  refine lv_topi (fun zx3 ezx3 => ?_)
  obtain rfl : x3 = zx3 := ex3.trans ezx3.symm
  refine lv_istore_n (lv' := [(3, .int x3), (0, .ref (ad a)), (1, .int p0), (2, .int p1)]) hx hb dX9_planQuarter_6 rfl hl (by decide) rfl (fun ls hl => ?_)
  refine lv_iload_n hx hb dX9_planQuarter_7 rfl (lv_at hl 2 rfl) ?_
  obtain ⟨y4, hy4, hF⟩ := bnd_some hF
  have J4 : ∀ (H : Heap) (locs : List Loc) (ls : Array Slot), va_P D classes (wld ct ad G M) H → va_D A (wld ct ad G M) → va_S A s.heap H locs → lv_has ls 9 [(3, .int x3), (0, .ref (ad a)), (1, .int p0), (2, .int p1)] → W p l e (headSpec wsX9_planQuarter ({ frames := 1, cells := 0, slots := 0, locals := 25 })).room s m ([.ref (ad a), .int p0, .int p1] : List Value).toArray below meth c H locs 0 0 (MQ below (va_Qv (fun (_ : Unit) => True) (fun _ t => kE D ct ad G A y t) A) ([.ref (ad a), .int p0, .int p1] : List Value).toArray s 0 0 A) (F0 m 20 ls [.int y4]) := by
    intro H locs ls hP hD hS hl
    refine lv_istore (lv' := [(4, .int y4), (3, .int x3), (0, .ref (ad a)), (1, .int p0), (2, .int p1)]) hx hb dX9_planQuarter_20 hl (by decide) rfl (fun ls hl => ?_)
    refine lv_iload_n hx hb dX9_planQuarter_22 rfl (lv_at hl 3 rfl) ?_
    obtain ⟨y5, hy5, hF⟩ := bnd_some hF
    have J5 : ∀ (H : Heap) (locs : List Loc) (ls : Array Slot), va_P D classes (wld ct ad G M) H → va_D A (wld ct ad G M) → va_S A s.heap H locs → lv_has ls 9 [(4, .int y4), (3, .int x3), (0, .ref (ad a)), (1, .int p0), (2, .int p1)] → W p l e (headSpec wsX9_planQuarter ({ frames := 1, cells := 0, slots := 0, locals := 25 })).room s m ([.ref (ad a), .int p0, .int p1] : List Value).toArray below meth c H locs 0 0 (MQ below (va_Qv (fun (_ : Unit) => True) (fun _ t => kE D ct ad G A y t) A) ([.ref (ad a), .int p0, .int p1] : List Value).toArray s 0 0 A) (F0 m 35 ls [.int y5]) := by
      intro H locs ls hP hD hS hl
      refine lv_istore (lv' := [(5, .int y5), (4, .int y4), (3, .int x3), (0, .ref (ad a)), (1, .int p0), (2, .int p1)]) hx hb dX9_planQuarter_35 hl (by decide) rfl (fun ls hl => ?_)
      refine lv_iload hx hb dX9_planQuarter_37 (lv_at hl 0 rfl) ?_
      refine lv_if_ne (tgt := 43) hx hb dX9_planQuarter_39 (by decide) (fun c6 => ?_) (fun c6 => ?_)
      · rw [if_neg c6] at hF
        refine lv_aload_n hx hb dX9_planQuarter_43 rfl (lv_at hl 3 rfl) ?_
        refine lv_iconst (v := (4 : Int32)) hx hb dX9_planQuarter_44 (by decide) ?_
        refine lv_iload_n hx hb dX9_planQuarter_45 rfl (lv_at hl 5 rfl) ?_
        refine lv_imul hx hb dX9_planQuarter_46 ?_
        obtain ⟨x7, ex7, hF⟩ := ltt_some hF
        refine lv_topi (fun zx7 ezx7 => ?_)
        obtain rfl : x7 = zx7 := ex7.trans ezx7.symm
        refine lv_bipush (v := (8 : Int32)) hx hb dX9_planQuarter_47 (by decide) ?_
        refine lv_bipush (v := (8 : Int32)) hx hb dX9_planQuarter_49 (by decide) ?_
        refine lv_iload hx hb dX9_planQuarter_51 (lv_at hl 0 rfl) ?_
        obtain ⟨y8, hy8, hF⟩ := bnd_some hF
        have hf9 := wA_in hD hA9 hS
        refine va_callv (va_runV (As := [.int x7, .int (8 : Int32), .int (8 : Int32), .int y5]) (rest := []) ⟨hx, hb, hml, hown, hts⟩ (kX9_addGroup l D ct ad Z G M H.size a x7 ((8 : Int32)) ((8 : Int32)) y5 y8 hc hk hy8) (cwV 4 hts gX9_planQuarter_X9_addGroup rfl rfl rfl (by decide +kernel) ⟨Nat.le_of_ble_eq_true rfl, Nat.le_of_ble_eq_true rfl⟩) ⟨fun a U g mk q => by obtain ⟨q0, q1, qP, qK, qD, qZ, qN⟩ := q; exact ⟨q0, q1, qP, va_K.moved (u := U) (U := U.calling g mk a) (Vm.Alike.refl U.vm) qK, qD, sF.moved (u := U) (U := U.calling g mk a) (Vm.Alike.refl U.vm) qZ, nF.same rfl qN⟩, va_recv hK hP (ci := 9) (q0 := a) rfl (wld_o ct ad G M hc hk (by decide)), fun U hU hW => ⟨rfl, by rw [hU], by rw [hU]; exact hP, va_K.moved hW.alike hK, hD.weaken (fun _ _ _ _ => trivial), by rw [hU]; exact ((hZ.kept hS.2.1).narrow hf9).moved hW.alike, hN.warm hW⟩⟩ rfl rfl hl.1 rfl (lv_room (Nat.le_of_ble_eq_true rfl)) dX9_planQuarter_53 ⟨(Nat.zero_le _), (Nat.zero_le _)⟩) hS (fun q _ h => hf9 q h) hf9 (fun u t H locs ht hvm hw hB hz1 hk1 hS => ?_)
        obtain ⟨hP, hK9, hD9⟩ := hB
        rw [ht] at hP
        have hD := hD9.weaken (fun _ q _ h => hf9 q.1 h)
        refine lv_iload hx hb dX9_planQuarter_56 (lv_at hl 1 rfl) ?_
        refine lv_iconst (v := (1 : Int32)) hx hb dX9_planQuarter_58 (by decide) ?_
        obtain ⟨y9, hy9, hF⟩ := bnd_some hF
        have J9 : ∀ (H : Heap) (locs : List Loc) (ls : Array Slot), va_P D classes (wld ct ad G y8) H → va_D A (wld ct ad G y8) → va_S A s.heap H locs → lv_has ls 9 [(5, .int y5), (4, .int y4), (3, .int x3), (0, .ref (ad a)), (1, .int p0), (2, .int p1)] → W p l e (headSpec wsX9_planQuarter ({ frames := 1, cells := 0, slots := 0, locals := 25 })).room s m ([.ref (ad a), .int p0, .int p1] : List Value).toArray below meth c H locs 0 0 (MQ below (va_Qv (fun (_ : Unit) => True) (fun _ t => kE D ct ad G A y t) A) ([.ref (ad a), .int p0, .int p1] : List Value).toArray s 0 0 A) (F0 m 68 ls [.int y9]) := by
          intro H locs ls hP hD hS hl
          refine lv_istore (lv' := [(6, .int y9), (5, .int y5), (4, .int y4), (3, .int x3), (0, .ref (ad a)), (1, .int p0), (2, .int p1)]) hx hb dX9_planQuarter_68 hl (by decide) rfl (fun ls hl => ?_)
          refine lv_iload hx hb dX9_planQuarter_70 (lv_at hl 2 rfl) ?_
          refine lv_iconst (v := (2 : Int32)) hx hb dX9_planQuarter_72 (by decide) ?_
          refine lv_irem hx hb dX9_planQuarter_73 (by decide) ?_
          obtain ⟨x10, ex10, hF⟩ := ltt_some hF
          refine lv_topi (fun zx10 ezx10 => ?_)
          obtain rfl : x10 = zx10 := ex10.trans ezx10.symm
          refine lv_iconst (v := (1 : Int32)) hx hb dX9_planQuarter_74 (by decide) ?_
          obtain ⟨y11, hy11, hF⟩ := bnd_some hF
          have J11 : ∀ (H : Heap) (locs : List Loc) (ls : Array Slot), va_P D classes (wld ct ad G y8) H → va_D A (wld ct ad G y8) → va_S A s.heap H locs → lv_has ls 9 [(6, .int y9), (5, .int y5), (4, .int y4), (3, .int x3), (0, .ref (ad a)), (1, .int p0), (2, .int p1)] → W p l e (headSpec wsX9_planQuarter ({ frames := 1, cells := 0, slots := 0, locals := 25 })).room s m ([.ref (ad a), .int p0, .int p1] : List Value).toArray below meth c H locs 0 0 (MQ below (va_Qv (fun (_ : Unit) => True) (fun _ t => kE D ct ad G A y t) A) ([.ref (ad a), .int p0, .int p1] : List Value).toArray s 0 0 A) (F0 m 84 ls [.int y11]) := by
            intro H locs ls hP hD hS hl
            refine lv_istore (lv' := [(7, .int y11), (6, .int y9), (5, .int y5), (4, .int y4), (3, .int x3), (0, .ref (ad a)), (1, .int p0), (2, .int p1)]) hx hb dX9_planQuarter_84 hl (by decide) rfl (fun ls hl => ?_)
            refine lv_iconst (v := (0 : Int32)) hx hb dX9_planQuarter_86 (by decide) ?_
            refine lv_istore (lv' := [(8, .int (0 : Int32)), (7, .int y11), (6, .int y9), (5, .int y5), (4, .int y4), (3, .int x3), (0, .ref (ad a)), (1, .int p0), (2, .int p1)]) hx hb dX9_planQuarter_87 hl (by decide) rfl (fun ls hl => ?_)
            obtain ⟨y12, hy12, hF⟩ := bnd_some hF
            have K12 : ∀ (H : Heap) (locs : List Loc) (ls : Array Slot), va_P D classes (wld ct ad G y12.2) H → va_D A (wld ct ad G y12.2) → va_S A s.heap H locs → lv_has ls 9 [(8, .int y12.1), (7, .int y11), (6, .int y9), (5, .int y5), (4, .int y4), (3, .int x3), (0, .ref (ad a)), (1, .int p0), (2, .int p1)] → W p l e (headSpec wsX9_planQuarter ({ frames := 1, cells := 0, slots := 0, locals := 25 })).room s m ([.ref (ad a), .int p0, .int p1] : List Value).toArray below meth c H locs 0 0 (MQ below (va_Qv (fun (_ : Unit) => True) (fun _ t => kE D ct ad G A y t) A) ([.ref (ad a), .int p0, .int p1] : List Value).toArray s 0 0 A) (F0 m 154 ls []) := by
              intro H locs ls hP hD hS hl
              obtain rfl := Option.some.inj hF
              exact W.vret hx hb hr (fun t ht hW => ⟨⟨(), rfl, trivial, ⟨by rw [ht]; exact hP, va_K.moved hW.alike hK, hD⟩⟩, hS.F ht⟩) hS.2.2 dX9_planQuarter_154
            clear hF
            refine itr_rule (fun (s13 : Int32 × DD) => ∀ (H : Heap) (locs : List Loc) (ls : Array Slot), va_P D classes (wld ct ad G s13.2) H → va_D A (wld ct ad G s13.2) → va_S A s.heap H locs → lv_has ls 9 [(8, .int s13.1), (7, .int y11), (6, .int y9), (5, .int y5), (4, .int y4), (3, .int x3), (0, .ref (ad a)), (1, .int p0), (2, .int p1)] → W p l e (headSpec wsX9_planQuarter ({ frames := 1, cells := 0, slots := 0, locals := 25 })).room s m ([.ref (ad a), .int p0, .int p1] : List Value).toArray below meth c H locs 0 0 (MQ below (va_Qv (fun (_ : Unit) => True) (fun _ t => kE D ct ad G A y t) A) ([.ref (ad a), .int p0, .int p1] : List Value).toArray s 0 0 A) (F0 m 89 ls [])) ?_ _ _ hy12 _ _ _ hP hD hS (lv_sub hl [0, 1, 2, 3, 4, 5, 6, 7, 8] rfl)
            rintro s13 ⟨z15, hF, hwz15⟩ H locs ls hP hD hS hl
            try dsimp only at hF
            refine lv_iload hx hb dX9_planQuarter_89 (lv_at hl 0 rfl) ?_
            refine lv_iconst (v := (4 : Int32)) hx hb dX9_planQuarter_91 (by decide) ?_
            refine lv_icmp_ge (tgt := 154) hx hb dX9_planQuarter_92 (by decide) (fun c16 => ?_) (fun c16 => ?_)
            · rw [if_pos c16] at hF
              obtain rfl := Option.some.inj hF
              subst hwz15
              exact K12 _ _ _ hP hD hS (lv_sub hl [0, 1, 2, 3, 4, 5, 6, 7, 8] rfl)
            · rw [if_neg c16] at hF
              refine lv_iload hx hb dX9_planQuarter_95 (lv_at hl 4 rfl) ?_
              obtain ⟨y17, hy17, hF⟩ := bnd_some hF
              have J17 : ∀ (H : Heap) (locs : List Loc) (ls : Array Slot), va_P D classes (wld ct ad G y17) H → va_D A (wld ct ad G y17) → va_S A s.heap H locs → lv_has ls 9 [(8, .int s13.1), (7, .int y11), (6, .int y9), (5, .int y5), (4, .int y4), (3, .int x3), (0, .ref (ad a)), (1, .int p0), (2, .int p1)] → W p l e (headSpec wsX9_planQuarter ({ frames := 1, cells := 0, slots := 0, locals := 25 })).room s m ([.ref (ad a), .int p0, .int p1] : List Value).toArray below meth c H locs 0 0 (MQ below (va_Qv (fun (_ : Unit) => True) (fun _ t => kE D ct ad G A y t) A) ([.ref (ad a), .int p0, .int p1] : List Value).toArray s 0 0 A) (F0 m 135 ls []) := by
                intro H locs ls hP hD hS hl
                refine lv_iload hx hb dX9_planQuarter_135 (lv_at hl 0 rfl) ?_
                refine lv_iload hx hb dX9_planQuarter_137 (lv_at hl 4 rfl) ?_
                refine lv_iconst (v := (1 : Int32)) hx hb dX9_planQuarter_139 (by decide) ?_
                obtain ⟨y18, hy18, hF⟩ := bnd_some hF
                have J18 : ∀ (H : Heap) (locs : List Loc) (ls : Array Slot), va_P D classes (wld ct ad G y17) H → va_D A (wld ct ad G y17) → va_S A s.heap H locs → lv_has ls 9 [(8, .int s13.1), (7, .int y11), (6, .int y9), (5, .int y5), (4, .int y4), (3, .int x3), (0, .ref (ad a)), (1, .int p0), (2, .int p1)] → W p l e (headSpec wsX9_planQuarter ({ frames := 1, cells := 0, slots := 0, locals := 25 })).room s m ([.ref (ad a), .int p0, .int p1] : List Value).toArray below meth c H locs 0 0 (MQ below (va_Qv (fun (_ : Unit) => True) (fun _ t => kE D ct ad G A y t) A) ([.ref (ad a), .int p0, .int p1] : List Value).toArray s 0 0 A) (F0 m 148 ls [.int y18, .int s13.1]) := by
                  intro H locs ls hP hD hS hl
                  refine lv_iadd hx hb dX9_planQuarter_148 ?_
                  obtain ⟨x19, ex19, hF⟩ := ltt_some hF
                  refine lv_topi (fun zx19 ezx19 => ?_)
                  obtain rfl : x19 = zx19 := ex19.trans ezx19.symm
                  refine lv_istore (lv' := [(8, .int x19), (7, .int y11), (6, .int y9), (5, .int y5), (4, .int y4), (3, .int x3), (0, .ref (ad a)), (1, .int p0), (2, .int p1)]) hx hb dX9_planQuarter_149 hl (by decide) rfl (fun ls hl => ?_)
                  refine lv_goto (tgt := 89) hx hb dX9_planQuarter_151 (by decide) ?_
                  obtain rfl := Option.some.inj hF
                  exact hwz15 _ _ _ hP hD hS (lv_sub hl [0, 1, 2, 3, 4, 5, 6, 7, 8] rfl)
                clear hF
                have hF := hy18
                clear hy18
                refine lv_icmp_ne (tgt := 147) hx hb dX9_planQuarter_140 (by decide) (fun c20 => ?_) (fun c20 => ?_)
                · rw [if_neg c20] at hF
                  refine lv_iconst (v := (1 : Int32)) hx hb dX9_planQuarter_147 (by decide) ?_
                  obtain rfl := Option.some.inj hF
                  exact J18 _ _ _ hP hD hS (lv_sub hl [0, 1, 2, 3, 4, 5, 6, 7, 8] rfl)
                · rw [if_pos c20] at hF
                  refine lv_iconst (v := (2 : Int32)) hx hb dX9_planQuarter_143 (by decide) ?_
                  refine lv_goto (tgt := 148) hx hb dX9_planQuarter_144 (by decide) ?_
                  obtain rfl := Option.some.inj hF
                  exact J18 _ _ _ hP hD hS (lv_sub hl [0, 1, 2, 3, 4, 5, 6, 7, 8] rfl)
              clear hF
              have hF := hy17
              clear hy17
              refine lv_if_ne (tgt := 105) hx hb dX9_planQuarter_97 (by decide) (fun c21 => ?_) (fun c21 => ?_)
              · rw [if_neg c21] at hF
                refine lv_iload hx hb dX9_planQuarter_105 (lv_at hl 4 rfl) ?_
                refine lv_iconst (v := (2 : Int32)) hx hb dX9_planQuarter_107 (by decide) ?_
                obtain ⟨y22, hy22, hF⟩ := bnd_some hF
                have J22 : ∀ (H : Heap) (locs : List Loc) (ls : Array Slot), va_P D classes (wld ct ad G y22) H → va_D A (wld ct ad G y22) → va_S A s.heap H locs → lv_has ls 9 [(8, .int s13.1), (7, .int y11), (6, .int y9), (5, .int y5), (4, .int y4), (3, .int x3), (0, .ref (ad a)), (1, .int p0), (2, .int p1)] → W p l e (headSpec wsX9_planQuarter ({ frames := 1, cells := 0, slots := 0, locals := 25 })).room s m ([.ref (ad a), .int p0, .int p1] : List Value).toArray below meth c H locs 0 0 (MQ below (va_Qv (fun (_ : Unit) => True) (fun _ t => kE D ct ad G A y t) A) ([.ref (ad a), .int p0, .int p1] : List Value).toArray s 0 0 A) (F0 m 135 ls []) := by
                  intro H locs ls hP hD hS hl
                  obtain rfl := Option.some.inj hF
                  exact J17 _ _ _ hP hD hS (lv_sub hl [0, 1, 2, 3, 4, 5, 6, 7, 8] rfl)
                clear hF
                have hF := hy22
                clear hy22
                refine lv_icmp_ne (tgt := 120) hx hb dX9_planQuarter_108 (by decide) (fun c23 => ?_) (fun c23 => ?_)
                · rw [if_neg c23] at hF
                  refine lv_aload_n hx hb dX9_planQuarter_120 rfl (lv_at hl 6 rfl) ?_
                  refine lv_iconst (v := (4 : Int32)) hx hb dX9_planQuarter_121 (by decide) ?_
                  refine lv_iload_n hx hb dX9_planQuarter_122 rfl (lv_at hl 8 rfl) ?_
                  refine lv_imul hx hb dX9_planQuarter_123 ?_
                  obtain ⟨x24, ex24, hF⟩ := ltt_some hF
                  refine lv_topi (fun zx24 ezx24 => ?_)
                  obtain rfl : x24 = zx24 := ex24.trans ezx24.symm
                  refine lv_iload hx hb dX9_planQuarter_124 (lv_at hl 0 rfl) ?_
                  refine lv_iadd hx hb dX9_planQuarter_126 ?_
                  obtain ⟨x25, ex25, hF⟩ := ltt_some hF
                  refine lv_topi (fun zx25 ezx25 => ?_)
                  obtain rfl : x25 = zx25 := ex25.trans ezx25.symm
                  refine lv_iload hx hb dX9_planQuarter_127 (lv_at hl 2 rfl) ?_
                  refine lv_iload hx hb dX9_planQuarter_129 (lv_at hl 1 rfl) ?_
                  refine lv_iconst (v := (0 : Int32)) hx hb dX9_planQuarter_131 (by decide) ?_
                  obtain ⟨y26, hy26, hF⟩ := bnd_some hF
                  have hf9 := wA_in hD hA9 hS
                  refine va_callv (va_runV (As := [.int x25, .int y9, .int y11, .int (0 : Int32)]) (rest := []) ⟨hx, hb, hml, hown, hts⟩ (kX9_addPart l D ct ad Z G s13.2 H.size a x25 y9 y11 ((0 : Int32)) y26 hc hk hy26) (cwV 4 hts gX9_planQuarter_X9_addPart rfl rfl rfl (by decide +kernel) ⟨Nat.le_of_ble_eq_true rfl, Nat.le_of_ble_eq_true rfl⟩) ⟨fun a U g mk q => by obtain ⟨q0, q1, qP, qK, qD, qZ, qN⟩ := q; exact ⟨q0, q1, qP, va_K.moved (u := U) (U := U.calling g mk a) (Vm.Alike.refl U.vm) qK, qD, sF.moved (u := U) (U := U.calling g mk a) (Vm.Alike.refl U.vm) qZ, nF.same rfl qN⟩, va_recv hK hP (ci := 9) (q0 := a) rfl (wld_o ct ad G s13.2 hc hk (by decide)), fun U hU hW => ⟨rfl, by rw [hU], by rw [hU]; exact hP, va_K.moved hW.alike hK, hD.weaken (fun _ _ _ _ => trivial), by rw [hU]; exact ((hZ.kept hS.2.1).narrow hf9).moved hW.alike, hN.warm hW⟩⟩ rfl rfl hl.1 rfl (lv_room (Nat.le_of_ble_eq_true rfl)) dX9_planQuarter_132 ⟨(Nat.zero_le _), (Nat.zero_le _)⟩) hS (fun q _ h => hf9 q h) hf9 (fun u t H locs ht hvm hw hB hz1 hk1 hS => ?_)
                  obtain ⟨hP, hK9, hD9⟩ := hB
                  rw [ht] at hP
                  have hD := hD9.weaken (fun _ q _ h => hf9 q.1 h)
                  obtain rfl := Option.some.inj hF
                  exact J22 _ _ _ hP hD hS (lv_sub hl [0, 1, 2, 3, 4, 5, 6, 7, 8] rfl)
                · rw [if_pos c23] at hF
                  refine lv_iload hx hb dX9_planQuarter_111 (lv_at hl 0 rfl) ?_
                  refine lv_iconst (v := (1 : Int32)) hx hb dX9_planQuarter_113 (by decide) ?_
                  obtain ⟨y27, hy27, hF⟩ := bnd_some hF
                  have J27 : ∀ (H : Heap) (locs : List Loc) (ls : Array Slot), va_P D classes (wld ct ad G y27) H → va_D A (wld ct ad G y27) → va_S A s.heap H locs → lv_has ls 9 [(8, .int s13.1), (7, .int y11), (6, .int y9), (5, .int y5), (4, .int y4), (3, .int x3), (0, .ref (ad a)), (1, .int p0), (2, .int p1)] → W p l e (headSpec wsX9_planQuarter ({ frames := 1, cells := 0, slots := 0, locals := 25 })).room s m ([.ref (ad a), .int p0, .int p1] : List Value).toArray below meth c H locs 0 0 (MQ below (va_Qv (fun (_ : Unit) => True) (fun _ t => kE D ct ad G A y t) A) ([.ref (ad a), .int p0, .int p1] : List Value).toArray s 0 0 A) (F0 m 135 ls []) := by
                    intro H locs ls hP hD hS hl
                    obtain rfl := Option.some.inj hF
                    exact J22 _ _ _ hP hD hS (lv_sub hl [0, 1, 2, 3, 4, 5, 6, 7, 8] rfl)
                  clear hF
                  have hF := hy27
                  clear hy27
                  refine lv_icmp_le (tgt := 120) hx hb dX9_planQuarter_114 (by decide) (fun c28 => ?_) (fun c28 => ?_)
                  · rw [if_pos c28] at hF
                    refine lv_aload_n hx hb dX9_planQuarter_120 rfl (lv_at hl 6 rfl) ?_
                    refine lv_iconst (v := (4 : Int32)) hx hb dX9_planQuarter_121 (by decide) ?_
                    refine lv_iload_n hx hb dX9_planQuarter_122 rfl (lv_at hl 8 rfl) ?_
                    refine lv_imul hx hb dX9_planQuarter_123 ?_
                    obtain ⟨x29, ex29, hF⟩ := ltt_some hF
                    refine lv_topi (fun zx29 ezx29 => ?_)
                    obtain rfl : x29 = zx29 := ex29.trans ezx29.symm
                    refine lv_iload hx hb dX9_planQuarter_124 (lv_at hl 0 rfl) ?_
                    refine lv_iadd hx hb dX9_planQuarter_126 ?_
                    obtain ⟨x30, ex30, hF⟩ := ltt_some hF
                    refine lv_topi (fun zx30 ezx30 => ?_)
                    obtain rfl : x30 = zx30 := ex30.trans ezx30.symm
                    refine lv_iload hx hb dX9_planQuarter_127 (lv_at hl 2 rfl) ?_
                    refine lv_iload hx hb dX9_planQuarter_129 (lv_at hl 1 rfl) ?_
                    refine lv_iconst (v := (0 : Int32)) hx hb dX9_planQuarter_131 (by decide) ?_
                    obtain ⟨y31, hy31, hF⟩ := bnd_some hF
                    have hf9 := wA_in hD hA9 hS
                    refine va_callv (va_runV (As := [.int x30, .int y9, .int y11, .int (0 : Int32)]) (rest := []) ⟨hx, hb, hml, hown, hts⟩ (kX9_addPart l D ct ad Z G s13.2 H.size a x30 y9 y11 ((0 : Int32)) y31 hc hk hy31) (cwV 4 hts gX9_planQuarter_X9_addPart rfl rfl rfl (by decide +kernel) ⟨Nat.le_of_ble_eq_true rfl, Nat.le_of_ble_eq_true rfl⟩) ⟨fun a U g mk q => by obtain ⟨q0, q1, qP, qK, qD, qZ, qN⟩ := q; exact ⟨q0, q1, qP, va_K.moved (u := U) (U := U.calling g mk a) (Vm.Alike.refl U.vm) qK, qD, sF.moved (u := U) (U := U.calling g mk a) (Vm.Alike.refl U.vm) qZ, nF.same rfl qN⟩, va_recv hK hP (ci := 9) (q0 := a) rfl (wld_o ct ad G s13.2 hc hk (by decide)), fun U hU hW => ⟨rfl, by rw [hU], by rw [hU]; exact hP, va_K.moved hW.alike hK, hD.weaken (fun _ _ _ _ => trivial), by rw [hU]; exact ((hZ.kept hS.2.1).narrow hf9).moved hW.alike, hN.warm hW⟩⟩ rfl rfl hl.1 rfl (lv_room (Nat.le_of_ble_eq_true rfl)) dX9_planQuarter_132 ⟨(Nat.zero_le _), (Nat.zero_le _)⟩) hS (fun q _ h => hf9 q h) hf9 (fun u t H locs ht hvm hw hB hz1 hk1 hS => ?_)
                    obtain ⟨hP, hK9, hD9⟩ := hB
                    rw [ht] at hP
                    have hD := hD9.weaken (fun _ q _ h => hf9 q.1 h)
                    obtain rfl := Option.some.inj hF
                    exact J27 _ _ _ hP hD hS (lv_sub hl [0, 1, 2, 3, 4, 5, 6, 7, 8] rfl)
                  · rw [if_neg c28] at hF
                    refine lv_goto (tgt := 135) hx hb dX9_planQuarter_117 (by decide) ?_
                    obtain rfl := Option.some.inj hF
                    exact J27 _ _ _ hP hD hS (lv_sub hl [0, 1, 2, 3, 4, 5, 6, 7, 8] rfl)
              · rw [if_pos c21] at hF
                refine lv_iload hx hb dX9_planQuarter_100 (lv_at hl 0 rfl) ?_
                obtain ⟨y32, hy32, hF⟩ := bnd_some hF
                have J32 : ∀ (H : Heap) (locs : List Loc) (ls : Array Slot), va_P D classes (wld ct ad G y32) H → va_D A (wld ct ad G y32) → va_S A s.heap H locs → lv_has ls 9 [(8, .int s13.1), (7, .int y11), (6, .int y9), (5, .int y5), (4, .int y4), (3, .int x3), (0, .ref (ad a)), (1, .int p0), (2, .int p1)] → W p l e (headSpec wsX9_planQuarter ({ frames := 1, cells := 0, slots := 0, locals := 25 })).room s m ([.ref (ad a), .int p0, .int p1] : List Value).toArray below meth c H locs 0 0 (MQ below (va_Qv (fun (_ : Unit) => True) (fun _ t => kE D ct ad G A y t) A) ([.ref (ad a), .int p0, .int p1] : List Value).toArray s 0 0 A) (F0 m 135 ls []) := by
                  intro H locs ls hP hD hS hl
                  obtain rfl := Option.some.inj hF
                  exact J17 _ _ _ hP hD hS (lv_sub hl [0, 1, 2, 3, 4, 5, 6, 7, 8] rfl)
                clear hF
                have hF := hy32
                clear hy32
                refine lv_if_gt (tgt := 135) hx hb dX9_planQuarter_102 (by decide) (fun c33 => ?_) (fun c33 => ?_)
                · rw [if_pos c33] at hF
                  obtain rfl := Option.some.inj hF
                  exact J32 _ _ _ hP hD hS (lv_sub hl [0, 1, 2, 3, 4, 5, 6, 7, 8] rfl)
                · rw [if_neg c33] at hF
                  refine lv_iload hx hb dX9_planQuarter_105 (lv_at hl 4 rfl) ?_
                  refine lv_iconst (v := (2 : Int32)) hx hb dX9_planQuarter_107 (by decide) ?_
                  obtain ⟨y34, hy34, hF⟩ := bnd_some hF
                  have J34 : ∀ (H : Heap) (locs : List Loc) (ls : Array Slot), va_P D classes (wld ct ad G y34) H → va_D A (wld ct ad G y34) → va_S A s.heap H locs → lv_has ls 9 [(8, .int s13.1), (7, .int y11), (6, .int y9), (5, .int y5), (4, .int y4), (3, .int x3), (0, .ref (ad a)), (1, .int p0), (2, .int p1)] → W p l e (headSpec wsX9_planQuarter ({ frames := 1, cells := 0, slots := 0, locals := 25 })).room s m ([.ref (ad a), .int p0, .int p1] : List Value).toArray below meth c H locs 0 0 (MQ below (va_Qv (fun (_ : Unit) => True) (fun _ t => kE D ct ad G A y t) A) ([.ref (ad a), .int p0, .int p1] : List Value).toArray s 0 0 A) (F0 m 135 ls []) := by
                    intro H locs ls hP hD hS hl
                    obtain rfl := Option.some.inj hF
                    exact J32 _ _ _ hP hD hS (lv_sub hl [0, 1, 2, 3, 4, 5, 6, 7, 8] rfl)
                  clear hF
                  have hF := hy34
                  clear hy34
                  refine lv_icmp_ne (tgt := 120) hx hb dX9_planQuarter_108 (by decide) (fun c35 => ?_) (fun c35 => ?_)
                  · rw [if_neg c35] at hF
                    refine lv_aload_n hx hb dX9_planQuarter_120 rfl (lv_at hl 6 rfl) ?_
                    refine lv_iconst (v := (4 : Int32)) hx hb dX9_planQuarter_121 (by decide) ?_
                    refine lv_iload_n hx hb dX9_planQuarter_122 rfl (lv_at hl 8 rfl) ?_
                    refine lv_imul hx hb dX9_planQuarter_123 ?_
                    obtain ⟨x36, ex36, hF⟩ := ltt_some hF
                    refine lv_topi (fun zx36 ezx36 => ?_)
                    obtain rfl : x36 = zx36 := ex36.trans ezx36.symm
                    refine lv_iload hx hb dX9_planQuarter_124 (lv_at hl 0 rfl) ?_
                    refine lv_iadd hx hb dX9_planQuarter_126 ?_
                    obtain ⟨x37, ex37, hF⟩ := ltt_some hF
                    refine lv_topi (fun zx37 ezx37 => ?_)
                    obtain rfl : x37 = zx37 := ex37.trans ezx37.symm
                    refine lv_iload hx hb dX9_planQuarter_127 (lv_at hl 2 rfl) ?_
                    refine lv_iload hx hb dX9_planQuarter_129 (lv_at hl 1 rfl) ?_
                    refine lv_iconst (v := (0 : Int32)) hx hb dX9_planQuarter_131 (by decide) ?_
                    obtain ⟨y38, hy38, hF⟩ := bnd_some hF
                    have hf9 := wA_in hD hA9 hS
                    refine va_callv (va_runV (As := [.int x37, .int y9, .int y11, .int (0 : Int32)]) (rest := []) ⟨hx, hb, hml, hown, hts⟩ (kX9_addPart l D ct ad Z G s13.2 H.size a x37 y9 y11 ((0 : Int32)) y38 hc hk hy38) (cwV 4 hts gX9_planQuarter_X9_addPart rfl rfl rfl (by decide +kernel) ⟨Nat.le_of_ble_eq_true rfl, Nat.le_of_ble_eq_true rfl⟩) ⟨fun a U g mk q => by obtain ⟨q0, q1, qP, qK, qD, qZ, qN⟩ := q; exact ⟨q0, q1, qP, va_K.moved (u := U) (U := U.calling g mk a) (Vm.Alike.refl U.vm) qK, qD, sF.moved (u := U) (U := U.calling g mk a) (Vm.Alike.refl U.vm) qZ, nF.same rfl qN⟩, va_recv hK hP (ci := 9) (q0 := a) rfl (wld_o ct ad G s13.2 hc hk (by decide)), fun U hU hW => ⟨rfl, by rw [hU], by rw [hU]; exact hP, va_K.moved hW.alike hK, hD.weaken (fun _ _ _ _ => trivial), by rw [hU]; exact ((hZ.kept hS.2.1).narrow hf9).moved hW.alike, hN.warm hW⟩⟩ rfl rfl hl.1 rfl (lv_room (Nat.le_of_ble_eq_true rfl)) dX9_planQuarter_132 ⟨(Nat.zero_le _), (Nat.zero_le _)⟩) hS (fun q _ h => hf9 q h) hf9 (fun u t H locs ht hvm hw hB hz1 hk1 hS => ?_)
                    obtain ⟨hP, hK9, hD9⟩ := hB
                    rw [ht] at hP
                    have hD := hD9.weaken (fun _ q _ h => hf9 q.1 h)
                    obtain rfl := Option.some.inj hF
                    exact J34 _ _ _ hP hD hS (lv_sub hl [0, 1, 2, 3, 4, 5, 6, 7, 8] rfl)
                  · rw [if_pos c35] at hF
                    refine lv_iload hx hb dX9_planQuarter_111 (lv_at hl 0 rfl) ?_
                    refine lv_iconst (v := (1 : Int32)) hx hb dX9_planQuarter_113 (by decide) ?_
                    obtain ⟨y39, hy39, hF⟩ := bnd_some hF
                    have J39 : ∀ (H : Heap) (locs : List Loc) (ls : Array Slot), va_P D classes (wld ct ad G y39) H → va_D A (wld ct ad G y39) → va_S A s.heap H locs → lv_has ls 9 [(8, .int s13.1), (7, .int y11), (6, .int y9), (5, .int y5), (4, .int y4), (3, .int x3), (0, .ref (ad a)), (1, .int p0), (2, .int p1)] → W p l e (headSpec wsX9_planQuarter ({ frames := 1, cells := 0, slots := 0, locals := 25 })).room s m ([.ref (ad a), .int p0, .int p1] : List Value).toArray below meth c H locs 0 0 (MQ below (va_Qv (fun (_ : Unit) => True) (fun _ t => kE D ct ad G A y t) A) ([.ref (ad a), .int p0, .int p1] : List Value).toArray s 0 0 A) (F0 m 135 ls []) := by
                      intro H locs ls hP hD hS hl
                      obtain rfl := Option.some.inj hF
                      exact J34 _ _ _ hP hD hS (lv_sub hl [0, 1, 2, 3, 4, 5, 6, 7, 8] rfl)
                    clear hF
                    have hF := hy39
                    clear hy39
                    refine lv_icmp_le (tgt := 120) hx hb dX9_planQuarter_114 (by decide) (fun c40 => ?_) (fun c40 => ?_)
                    · rw [if_pos c40] at hF
                      refine lv_aload_n hx hb dX9_planQuarter_120 rfl (lv_at hl 6 rfl) ?_
                      refine lv_iconst (v := (4 : Int32)) hx hb dX9_planQuarter_121 (by decide) ?_
                      refine lv_iload_n hx hb dX9_planQuarter_122 rfl (lv_at hl 8 rfl) ?_
                      refine lv_imul hx hb dX9_planQuarter_123 ?_
                      obtain ⟨x41, ex41, hF⟩ := ltt_some hF
                      refine lv_topi (fun zx41 ezx41 => ?_)
                      obtain rfl : x41 = zx41 := ex41.trans ezx41.symm
                      refine lv_iload hx hb dX9_planQuarter_124 (lv_at hl 0 rfl) ?_
                      refine lv_iadd hx hb dX9_planQuarter_126 ?_
                      obtain ⟨x42, ex42, hF⟩ := ltt_some hF
                      refine lv_topi (fun zx42 ezx42 => ?_)
                      obtain rfl : x42 = zx42 := ex42.trans ezx42.symm
                      refine lv_iload hx hb dX9_planQuarter_127 (lv_at hl 2 rfl) ?_
                      refine lv_iload hx hb dX9_planQuarter_129 (lv_at hl 1 rfl) ?_
                      refine lv_iconst (v := (0 : Int32)) hx hb dX9_planQuarter_131 (by decide) ?_
                      obtain ⟨y43, hy43, hF⟩ := bnd_some hF
                      have hf9 := wA_in hD hA9 hS
                      refine va_callv (va_runV (As := [.int x42, .int y9, .int y11, .int (0 : Int32)]) (rest := []) ⟨hx, hb, hml, hown, hts⟩ (kX9_addPart l D ct ad Z G s13.2 H.size a x42 y9 y11 ((0 : Int32)) y43 hc hk hy43) (cwV 4 hts gX9_planQuarter_X9_addPart rfl rfl rfl (by decide +kernel) ⟨Nat.le_of_ble_eq_true rfl, Nat.le_of_ble_eq_true rfl⟩) ⟨fun a U g mk q => by obtain ⟨q0, q1, qP, qK, qD, qZ, qN⟩ := q; exact ⟨q0, q1, qP, va_K.moved (u := U) (U := U.calling g mk a) (Vm.Alike.refl U.vm) qK, qD, sF.moved (u := U) (U := U.calling g mk a) (Vm.Alike.refl U.vm) qZ, nF.same rfl qN⟩, va_recv hK hP (ci := 9) (q0 := a) rfl (wld_o ct ad G s13.2 hc hk (by decide)), fun U hU hW => ⟨rfl, by rw [hU], by rw [hU]; exact hP, va_K.moved hW.alike hK, hD.weaken (fun _ _ _ _ => trivial), by rw [hU]; exact ((hZ.kept hS.2.1).narrow hf9).moved hW.alike, hN.warm hW⟩⟩ rfl rfl hl.1 rfl (lv_room (Nat.le_of_ble_eq_true rfl)) dX9_planQuarter_132 ⟨(Nat.zero_le _), (Nat.zero_le _)⟩) hS (fun q _ h => hf9 q h) hf9 (fun u t H locs ht hvm hw hB hz1 hk1 hS => ?_)
                      obtain ⟨hP, hK9, hD9⟩ := hB
                      rw [ht] at hP
                      have hD := hD9.weaken (fun _ q _ h => hf9 q.1 h)
                      obtain rfl := Option.some.inj hF
                      exact J39 _ _ _ hP hD hS (lv_sub hl [0, 1, 2, 3, 4, 5, 6, 7, 8] rfl)
                    · rw [if_neg c40] at hF
                      refine lv_goto (tgt := 135) hx hb dX9_planQuarter_117 (by decide) ?_
                      obtain rfl := Option.some.inj hF
                      exact J39 _ _ _ hP hD hS (lv_sub hl [0, 1, 2, 3, 4, 5, 6, 7, 8] rfl)
          clear hF
          have hF := hy11
          clear hy11
          refine lv_icmp_ne (tgt := 82) hx hb dX9_planQuarter_75 (by decide) (fun c44 => ?_) (fun c44 => ?_)
          · rw [if_neg c44] at hF
            refine lv_bipush (v := (8 : Int32)) hx hb dX9_planQuarter_82 (by decide) ?_
            obtain rfl := Option.some.inj hF
            exact J11 _ _ _ hP hD hS (lv_sub hl [0, 1, 2, 3, 4, 5, 6] rfl)
          · rw [if_pos c44] at hF
            refine lv_iconst (v := (4 : Int32)) hx hb dX9_planQuarter_78 (by decide) ?_
            refine lv_goto (tgt := 84) hx hb dX9_planQuarter_79 (by decide) ?_
            obtain rfl := Option.some.inj hF
            exact J11 _ _ _ hP hD hS (lv_sub hl [0, 1, 2, 3, 4, 5, 6] rfl)
        clear hF
        have hF := hy9
        clear hy9
        refine lv_icmp_le (tgt := 66) hx hb dX9_planQuarter_59 (by decide) (fun c45 => ?_) (fun c45 => ?_)
        · rw [if_pos c45] at hF
          refine lv_bipush (v := (8 : Int32)) hx hb dX9_planQuarter_66 (by decide) ?_
          obtain rfl := Option.some.inj hF
          exact J9 _ _ _ hP hD hS (lv_sub hl [0, 1, 2, 3, 4, 5] rfl)
        · rw [if_neg c45] at hF
          refine lv_iconst (v := (4 : Int32)) hx hb dX9_planQuarter_62 (by decide) ?_
          refine lv_goto (tgt := 68) hx hb dX9_planQuarter_63 (by decide) ?_
          obtain rfl := Option.some.inj hF
          exact J9 _ _ _ hP hD hS (lv_sub hl [0, 1, 2, 3, 4, 5] rfl)
      · rw [if_pos c6] at hF
        obtain rfl := Option.some.inj hF
        exact W.vret hx hb hr (fun t ht hW => ⟨⟨(), rfl, trivial, ⟨by rw [ht]; exact hP, va_K.moved hW.alike hK, hD⟩⟩, hS.F ht⟩) hS.2.2 dX9_planQuarter_42
    clear hF
    have hF := hy5
    clear hy5
    refine lv_if_ne (tgt := 30) hx hb dX9_planQuarter_23 (by decide) (fun c46 => ?_) (fun c46 => ?_)
    · rw [if_neg c46] at hF
      refine va_gets hx hb (hZ.1 18 (by decide)).1 hS hown (hts (.fieldLink RX9 158 "VideoSuite$Work" "SUB_USE" "[I") (by decide +kernel)) (fun _ h => h) dX9_planQuarter_30 ?_
      refine lv_iload_n hx hb dX9_planQuarter_33 rfl (lv_at hl 1 rfl) ?_
      obtain ⟨hvc, hF⟩ := chk_some hF
      refine va_ti (v := .int ((sT 18).getD x3.toNatClampNeg 0)) hx hb (hZ.1 18 (by decide)).2 hS hvc rfl dX9_planQuarter_34 ?_
      obtain ⟨x47, ex47, hF⟩ := ltt_some hF
      refine lv_topi (fun zx47 ezx47 => ?_)
      obtain rfl : x47 = zx47 := ex47.trans ezx47.symm
      obtain rfl := Option.some.inj hF
      exact J5 _ _ _ hP hD hS (lv_sub hl [0, 1, 2, 3, 4] rfl)
    · rw [if_pos c46] at hF
      refine lv_iconst (v := (1 : Int32)) hx hb dX9_planQuarter_26 (by decide) ?_
      refine lv_goto (tgt := 35) hx hb dX9_planQuarter_27 (by decide) ?_
      obtain rfl := Option.some.inj hF
      exact J5 _ _ _ hP hD hS (lv_sub hl [0, 1, 2, 3, 4] rfl)
  clear hF
  have hF := hy4
  clear hy4
  refine lv_if_ne (tgt := 15) hx hb dX9_planQuarter_8 (by decide) (fun c48 => ?_) (fun c48 => ?_)
  · rw [if_neg c48] at hF
    refine va_gets hx hb (hZ.1 17 (by decide)).1 hS hown (hts (.fieldLink RX9 155 "VideoSuite$Work" "SUB_SHAPE" "[I") (by decide +kernel)) (fun _ h => h) dX9_planQuarter_15 ?_
    refine lv_iload_n hx hb dX9_planQuarter_18 rfl (lv_at hl 0 rfl) ?_
    obtain ⟨hvc, hF⟩ := chk_some hF
    refine va_ti (v := .int ((sT 17).getD x3.toNatClampNeg 0)) hx hb (hZ.1 17 (by decide)).2 hS hvc rfl dX9_planQuarter_19 ?_
    obtain ⟨x49, ex49, hF⟩ := ltt_some hF
    refine lv_topi (fun zx49 ezx49 => ?_)
    obtain rfl : x49 = zx49 := ex49.trans ezx49.symm
    obtain rfl := Option.some.inj hF
    exact J4 _ _ _ hP hD hS (lv_sub hl [0, 1, 2, 3] rfl)
  · rw [if_pos c48] at hF
    refine lv_iload_n hx hb dX9_planQuarter_11 rfl (lv_at hl 0 rfl) ?_
    refine lv_goto (tgt := 20) hx hb dX9_planQuarter_12 (by decide) ?_
    obtain rfl := Option.some.inj hF
    exact J4 _ _ _ hP hD hS (lv_sub hl [0, 1, 2, 3] rfl)
