theorem dX7_keeps_0 : decode cX7_keeps 0 = .ok (.iload_n 1, 1) := by decide +kernel
theorem dX7_keeps_1 : decode cX7_keeps 1 = .ok (.ifCond .lt 21, 3) := by decide +kernel
theorem dX7_keeps_4 : decode cX7_keeps 4 = .ok (.iload_n 1, 1) := by decide +kernel
theorem dX7_keeps_5 : decode cX7_keeps 5 = .ok (.aload_n 0, 1) := by decide +kernel
theorem dX7_keeps_6 : decode cX7_keeps 6 = .ok (.getfield 58, 3) := by decide +kernel
theorem dX7_keeps_9 : decode cX7_keeps 9 = .ok (.if_icmp .ge 13, 3) := by decide +kernel
theorem dX7_keeps_12 : decode cX7_keeps 12 = .ok (.iload_n 1, 1) := by decide +kernel
theorem dX7_keeps_13 : decode cX7_keeps 13 = .ok (.bipush 40, 2) := by decide +kernel
theorem dX7_keeps_15 : decode cX7_keeps 15 = .ok (.if_icmp .ge 7, 3) := by decide +kernel
theorem dX7_keeps_18 : decode cX7_keeps 18 = .ok (.iconst 1, 1) := by decide +kernel
theorem dX7_keeps_19 : decode cX7_keeps 19 = .ok (.goto 4, 3) := by decide +kernel
theorem dX7_keeps_22 : decode cX7_keeps 22 = .ok (.iconst 0, 1) := by decide +kernel
theorem dX7_keeps_23 : decode cX7_keeps 23 = .ok (.ireturn, 1) := by decide +kernel
def FX7_keeps (G : GG) (M : DD) (a : Nat) (p0 : Int32) : Option (DD × Int32) :=
  bnd (if p0 < ((0 : Int32)) then (some ((0 : Int32))) else
  (ltt (M.1 a 14) fun x3 =>
  bnd (if x3 ≤ p0 then (some ((0 : Int32))) else
  (bnd (if ((40 : Int32)) ≤ p0 then (some ((0 : Int32))) else
  (some ((1 : Int32)))) fun (y6 : Int32) =>
  some (y6))) fun (y4 : Int32) =>
  some (y4))) fun (y1 : Int32) =>
  chk (y1 = 0 ∨ y1 = 1) <|
  some (M, y1)
set_option maxHeartbeats 4000000 in
set_option maxRecDepth 100000 in
theorem kX7_keeps (l : Launch) (D : va_G) (ct : CT) (ad : Nat → Nat) (Z : Nat → Nat) (G : GG) (M : DD) (sz : Nat) (a : Nat) (p0 : Int32) (y : DD × Int32) (hc : a < G.1) (hk : G.2.1 a = 7) (hF : FX7_keeps G M a p0 = some y) : Met l yX7_keeps wsX7_keeps ({ frames := 0, cells := 0, slots := 0, locals := 0 }) (va_Pc [.ref (ad a), .int p0] (kB D ct ad Z G M sz)) (va_Qi (fun (q : Int32) (_ : Unit) => q = y.2) (fun _ t => kE D ct ad G (wA ad G sz) y.1 t) (wA ad G sz)) 0 0 (wA ad G sz) := by
  refine Met.ofW (cc := cX7_keeps) (maxL := 2) (ret := (some .boolean)) (by decide) rfl ?_
  intro p e s m args below meth c s₁ B hml hv
  obtain ⟨rfl, hsz, hP, hK, hD0, hZ, hN⟩ := hv
  have hx := B.exec
  have hb := B.bytes
  have hr := B.returns
  have hts := atoms_spec (ws := wsX7_keeps) B.pre
  have hown : s.vm.findClass RX7 = some m.cls := findClass_of_methodNamed B.named
  have hlocks := B.notSynchronized
  subst hsz
  have hD := wD_self (sz := s.heap.size) hD0
  have hA9 : ∀ q, s.heap.size ≤ q → wA ad G s.heap.size q := fun q h => Or.inr h
  generalize hAe : wA ad G s.heap.size = A at hD hA9 hZ ⊢
  have hS : va_S A s.heap s.heap [] := va_S.rf
  have hl := lv_entry ([.ref (ad a), .int p0]) (n := 2) (Nat.le_of_ble_eq_true rfl)
  rw [lg_entry_eq]
  generalize (lg_sl ([.ref (ad a), .int p0]) ++ List.replicate (2 - (lg_sl ([.ref (ad a), .int p0])).length) Slot.unset).toArray = ls at hl ⊢
  have hl : lv_has ls 2 [(0, .ref (ad a)), (1, .int p0)] := hl
  unfold FX7_keeps at hF
  refine lv_iload_n hx hb dX7_keeps_0 rfl (lv_at hl 1 rfl) ?_
  obtain ⟨y1, hy1, hF⟩ := bnd_some hF
  have J1 : ∀ (H : Heap) (locs : List Loc) (ls : Array Slot), va_P D classes (wld ct ad G M) H → va_D A (wld ct ad G M) → va_S A s.heap H locs → lv_has ls 2 [(0, .ref (ad a)), (1, .int p0)] → W p l e (headSpec wsX7_keeps ({ frames := 0, cells := 0, slots := 0, locals := 0 })).room s m ([.ref (ad a), .int p0] : List Value).toArray below meth c H locs 0 0 (MQ below (va_Qi (fun (q : Int32) (_ : Unit) => q = y.2) (fun _ t => kE D ct ad G A y.1 t) A) ([.ref (ad a), .int p0] : List Value).toArray s 0 0 A) (F0 m 23 ls [.int y1]) := by
    intro H locs ls hP hD hS hl
    obtain ⟨hz9, hF⟩ := chk_some hF
    obtain rfl := Option.some.inj hF
    exact W.zret (v := y1) (ty := .boolean) hx hb hr (nar_z hz9).1 (fun t ht hW => ⟨⟨_, (), rfl, rfl, ⟨by rw [ht]; exact hP, va_K.moved hW.alike hK, hD⟩⟩, hS.F ht⟩) hS.2.2 dX7_keeps_23
  clear hF
  have hF := hy1
  clear hy1
  refine lv_if_lt (tgt := 22) hx hb dX7_keeps_1 (by decide) (fun c2 => ?_) (fun c2 => ?_)
  · rw [if_pos c2] at hF
    refine lv_iconst (v := (0 : Int32)) hx hb dX7_keeps_22 (by decide) ?_
    obtain rfl := Option.some.inj hF
    exact J1 _ _ _ hP hD hS (lv_sub hl [0, 1] rfl)
  · rw [if_neg c2] at hF
    refine lv_iload_n hx hb dX7_keeps_4 rfl (lv_at hl 1 rfl) ?_
    refine lv_aload_n hx hb dX7_keeps_5 rfl (lv_at hl 0 rfl) ?_
    refine va_get (D := D) (ci := 7) (v := .int (M.1 a 14)) (C := RX7) (T := TX7) (N := 17) hx hb hts (by decide +kernel) hown hK hP a (wld_o ct ad G M hc hk (by decide)) rfl 14 (by decide) (hts (.fieldLink RX7 58 "VideoSuite$Store" "outputs" "I") (by decide +kernel)) (fun _ h9 => h9) rfl dX7_keeps_6 ?_
    obtain ⟨x3, ex3, hF⟩ := ltt_some hF
    refine lv_topi (fun zx3 ezx3 => ?_)
    obtain rfl : x3 = zx3 := ex3.trans ezx3.symm
    obtain ⟨y4, hy4, hF⟩ := bnd_some hF
    have J4 : ∀ (H : Heap) (locs : List Loc) (ls : Array Slot), va_P D classes (wld ct ad G M) H → va_D A (wld ct ad G M) → va_S A s.heap H locs → lv_has ls 2 [(0, .ref (ad a)), (1, .int p0)] → W p l e (headSpec wsX7_keeps ({ frames := 0, cells := 0, slots := 0, locals := 0 })).room s m ([.ref (ad a), .int p0] : List Value).toArray below meth c H locs 0 0 (MQ below (va_Qi (fun (q : Int32) (_ : Unit) => q = y.2) (fun _ t => kE D ct ad G A y.1 t) A) ([.ref (ad a), .int p0] : List Value).toArray s 0 0 A) (F0 m 23 ls [.int y4]) := by
      intro H locs ls hP hD hS hl
      obtain rfl := Option.some.inj hF
      exact J1 _ _ _ hP hD hS (lv_sub hl [0, 1] rfl)
    clear hF
    have hF := hy4
    clear hy4
    refine lv_icmp_ge (tgt := 22) hx hb dX7_keeps_9 (by decide) (fun c5 => ?_) (fun c5 => ?_)
    · rw [if_pos c5] at hF
      refine lv_iconst (v := (0 : Int32)) hx hb dX7_keeps_22 (by decide) ?_
      obtain rfl := Option.some.inj hF
      exact J4 _ _ _ hP hD hS (lv_sub hl [0, 1] rfl)
    · rw [if_neg c5] at hF
      refine lv_iload_n hx hb dX7_keeps_12 rfl (lv_at hl 1 rfl) ?_
      refine lv_bipush (v := (40 : Int32)) hx hb dX7_keeps_13 (by decide) ?_
      obtain ⟨y6, hy6, hF⟩ := bnd_some hF
      have J6 : ∀ (H : Heap) (locs : List Loc) (ls : Array Slot), va_P D classes (wld ct ad G M) H → va_D A (wld ct ad G M) → va_S A s.heap H locs → lv_has ls 2 [(0, .ref (ad a)), (1, .int p0)] → W p l e (headSpec wsX7_keeps ({ frames := 0, cells := 0, slots := 0, locals := 0 })).room s m ([.ref (ad a), .int p0] : List Value).toArray below meth c H locs 0 0 (MQ below (va_Qi (fun (q : Int32) (_ : Unit) => q = y.2) (fun _ t => kE D ct ad G A y.1 t) A) ([.ref (ad a), .int p0] : List Value).toArray s 0 0 A) (F0 m 23 ls [.int y6]) := by
        intro H locs ls hP hD hS hl
        obtain rfl := Option.some.inj hF
        exact J4 _ _ _ hP hD hS (lv_sub hl [0, 1] rfl)
      clear hF
      have hF := hy6
      clear hy6
      refine lv_icmp_ge (tgt := 22) hx hb dX7_keeps_15 (by decide) (fun c7 => ?_) (fun c7 => ?_)
      · rw [if_pos c7] at hF
        refine lv_iconst (v := (0 : Int32)) hx hb dX7_keeps_22 (by decide) ?_
        obtain rfl := Option.some.inj hF
        exact J6 _ _ _ hP hD hS (lv_sub hl [0, 1] rfl)
      · rw [if_neg c7] at hF
        refine lv_iconst (v := (1 : Int32)) hx hb dX7_keeps_18 (by decide) ?_
        refine lv_goto (tgt := 23) hx hb dX7_keeps_19 (by decide) ?_
        obtain rfl := Option.some.inj hF
        exact J6 _ _ _ hP hD hS (lv_sub hl [0, 1] rfl)
theorem ggX7_keyOf_X7_frameNumber : GoodIn wsX7_keyOf wsX7_frameNumber := goodIn_r _ [8, 4, 9, 10, 11, 12, 13, 14, 15, 16, 17, 18, 19, 20, 21, 22, 23, 24, 25, 26] (by decide +kernel) (by decide +kernel)
set_option maxRecDepth 20000 in
theorem gX7_keyOf_X7_frameNumber : GoodIn wsX7_keyOf (va_wsS RX7 134 yX7_frameNumber wsX7_frameNumber) := goodIn_app (goodIn_of _ (by decide +kernel)) ggX7_keyOf_X7_frameNumber
theorem dX7_keyOf_0 : decode cX7_keyOf 0 = .ok (.iload_n 2, 1) := by decide +kernel
theorem dX7_keyOf_1 : decode cX7_keyOf 1 = .ok (.iconst 3, 1) := by decide +kernel
theorem dX7_keyOf_2 : decode cX7_keyOf 2 = .ok (.if_icmp .ne 9, 3) := by decide +kernel
theorem dX7_keyOf_5 : decode cX7_keyOf 5 = .ok (.aload_n 0, 1) := by decide +kernel
theorem dX7_keyOf_6 : decode cX7_keyOf 6 = .ok (.getfield 129, 3) := by decide +kernel
theorem dX7_keyOf_9 : decode cX7_keyOf 9 = .ok (.i2l, 1) := by decide +kernel
theorem dX7_keyOf_10 : decode cX7_keyOf 10 = .ok (.lreturn, 1) := by decide +kernel
theorem dX7_keyOf_11 : decode cX7_keyOf 11 = .ok (.iload_n 2, 1) := by decide +kernel
theorem dX7_keyOf_12 : decode cX7_keyOf 12 = .ok (.ifCond .ne 7, 3) := by decide +kernel
theorem dX7_keyOf_15 : decode cX7_keyOf 15 = .ok (.lconst 0, 1) := by decide +kernel
theorem dX7_keyOf_16 : decode cX7_keyOf 16 = .ok (.goto 22, 3) := by decide +kernel
theorem dX7_keyOf_19 : decode cX7_keyOf 19 = .ok (.iload_n 2, 1) := by decide +kernel
theorem dX7_keyOf_20 : decode cX7_keyOf 20 = .ok (.iconst 1, 1) := by decide +kernel
theorem dX7_keyOf_21 : decode cX7_keyOf 21 = .ok (.if_icmp .ne 12, 3) := by decide +kernel
theorem dX7_keyOf_24 : decode cX7_keyOf 24 = .ok (.aload_n 0, 1) := by decide +kernel
theorem dX7_keyOf_25 : decode cX7_keyOf 25 = .ok (.getfield 126, 3) := by decide +kernel
theorem dX7_keyOf_28 : decode cX7_keyOf 28 = .ok (.i2l, 1) := by decide +kernel
theorem dX7_keyOf_29 : decode cX7_keyOf 29 = .ok (.lneg, 1) := by decide +kernel
theorem dX7_keyOf_30 : decode cX7_keyOf 30 = .ok (.goto 8, 3) := by decide +kernel
theorem dX7_keyOf_33 : decode cX7_keyOf 33 = .ok (.aload_n 0, 1) := by decide +kernel
theorem dX7_keyOf_34 : decode cX7_keyOf 34 = .ok (.getfield 126, 3) := by decide +kernel
theorem dX7_keyOf_37 : decode cX7_keyOf 37 = .ok (.i2l, 1) := by decide +kernel
theorem dX7_keyOf_38 : decode cX7_keyOf 38 = .ok (.lstore 4, 2) := by decide +kernel
theorem dX7_keyOf_40 : decode cX7_keyOf 40 = .ok (.lload 4, 2) := by decide +kernel
theorem dX7_keyOf_42 : decode cX7_keyOf 42 = .ok (.ldc2_w 132, 3) := by decide +kernel
theorem dX7_keyOf_45 : decode cX7_keyOf 45 = .ok (.lmul, 1) := by decide +kernel
theorem dX7_keyOf_46 : decode cX7_keyOf 46 = .ok (.aload_n 0, 1) := by decide +kernel
theorem dX7_keyOf_47 : decode cX7_keyOf 47 = .ok (.aload_n 1, 1) := by decide +kernel
theorem dX7_keyOf_48 : decode cX7_keyOf 48 = .ok (.getfield 92, 3) := by decide +kernel
theorem dX7_keyOf_51 : decode cX7_keyOf 51 = .ok (.iload_n 3, 1) := by decide +kernel
theorem dX7_keyOf_52 : decode cX7_keyOf 52 = .ok (.invokestatic 134, 3) := by decide +kernel
theorem dX7_keyOf_55 : decode cX7_keyOf 55 = .ok (.i2l, 1) := by decide +kernel
theorem dX7_keyOf_56 : decode cX7_keyOf 56 = .ok (.lsub, 1) := by decide +kernel
theorem dX7_keyOf_57 : decode cX7_keyOf 57 = .ok (.lreturn, 1) := by decide +kernel
def FX7_keyOf (G : GG) (M : DD) (p0 : Option Nat) (p1 : Option Nat) (p2 : Int32) (p3 : Int32) : Option (DD × Int64) :=
  if p2 = ((3 : Int32)) then (dr G 4 p0 fun b19 =>
  ltt (M.1 b19 11) fun x20 =>
  ltt (x20.toInt64) fun x21 =>
  some (M, x21)) else
  (bnd (if p2 = ((0 : Int32)) then (some ((0 : Int64))) else
  (bnd (if p2 = ((1 : Int32)) then (dr G 4 p0 fun b15 =>
  ltt (M.1 b15 9) fun x16 =>
  ltt (x16.toInt64) fun x17 =>
  ltt (-x17) fun x18 =>
  some (x18)) else
  (dr G 4 p0 fun b12 =>
  ltt (M.1 b12 9) fun x13 =>
  ltt (x13.toInt64) fun x14 =>
  some (x14))) fun (y10 : Int64) =>
  some (y10))) fun (y2 : Int64) =>
  ltt (y2 * ((1048576 : Int64))) fun x3 =>
  dr G 4 p1 fun b4 =>
  ltt (M.1 b4 8) fun x5 =>
  bnd (FX7_frameNumber G M p0 x5 p3) fun y6 =>
  ltt (y6.2.toInt64) fun x7 =>
  ltt (x3 - x7) fun x8 =>
  some (y6.1, x8))
set_option maxHeartbeats 4000000 in
set_option maxRecDepth 100000 in
theorem kX7_keyOf (l : Launch) (D : va_G) (ct : CT) (ad : Nat → Nat) (Z : Nat → Nat) (G : GG) (M : DD) (sz : Nat) (p0 : Option Nat) (p1 : Option Nat) (p2 : Int32) (p3 : Int32) (y : DD × Int64) (hF : FX7_keyOf G M p0 p1 p2 p3 = some y) : Met l yX7_keyOf wsX7_keyOf ({ frames := 1, cells := 0, slots := 0, locals := 22 }) (va_Pc [va_re ad p0, va_re ad p1, .int p2, .int p3] (kB D ct ad Z G M sz)) (va_Ql (fun (q : Int64) (_ : Unit) => q = y.2) (fun _ t => kE D ct ad G (wA ad G sz) y.1 t) (wA ad G sz)) 0 0 (wA ad G sz) := by
  refine Met.ofW (cc := cX7_keyOf) (maxL := 6) (ret := (some .long)) (by decide) rfl ?_
  intro p e s m args below meth c s₁ B hml hv
  obtain ⟨rfl, hsz, hP, hK, hD0, hZ, hN⟩ := hv
  have hx := B.exec
  have hb := B.bytes
  have hr := B.returns
  have hts := atoms_spec (ws := wsX7_keyOf) B.pre
  have hown : s.vm.findClass RX7 = some m.cls := findClass_of_methodNamed B.named
  have hlocks := B.notSynchronized
  subst hsz
  have hD := wD_self (sz := s.heap.size) hD0
  have hA9 : ∀ q, s.heap.size ≤ q → wA ad G s.heap.size q := fun q h => Or.inr h
  generalize hAe : wA ad G s.heap.size = A at hD hA9 hZ ⊢
  have hS : va_S A s.heap s.heap [] := va_S.rf
  have hl := lv_entry ([va_re ad p0, va_re ad p1, .int p2, .int p3]) (n := 6) (by cases p0 <;> cases p1 <;> exact Nat.le_of_ble_eq_true rfl)
  rw [lg_entry_eq]
  generalize (lg_sl ([va_re ad p0, va_re ad p1, .int p2, .int p3]) ++ List.replicate (6 - (lg_sl ([va_re ad p0, va_re ad p1, .int p2, .int p3])).length) Slot.unset).toArray = ls at hl ⊢
  have hl : lv_has ls 6 [(0, va_re ad p0), (1, va_re ad p1), (2, .int p2), (3, .int p3)] := by have e9 : lv_args 0 [va_re ad p0, va_re ad p1, .int p2, .int p3] = [(0, va_re ad p0), (1, va_re ad p1), (2, .int p2), (3, .int p3)] := (by cases p0 <;> cases p1 <;> rfl); rw [e9] at hl; exact hl
  unfold FX7_keyOf at hF
  refine lv_iload_n hx hb dX7_keyOf_0 rfl (lv_at hl 2 rfl) ?_
  refine lv_iconst (v := (3 : Int32)) hx hb dX7_keyOf_1 (by decide) ?_
  refine lv_icmp_ne (tgt := 11) hx hb dX7_keyOf_2 (by decide) (fun c1 => ?_) (fun c1 => ?_)
  · rw [if_neg c1] at hF
    refine lv_iload_n hx hb dX7_keyOf_11 rfl (lv_at hl 2 rfl) ?_
    obtain ⟨y2, hy2, hF⟩ := bnd_some hF
    have J2 : ∀ (H : Heap) (locs : List Loc) (ls : Array Slot), va_P D classes (wld ct ad G M) H → va_D A (wld ct ad G M) → va_S A s.heap H locs → lv_has ls 6 [(0, va_re ad p0), (1, va_re ad p1), (2, .int p2), (3, .int p3)] → W p l e (headSpec wsX7_keyOf ({ frames := 1, cells := 0, slots := 0, locals := 22 })).room s m ([va_re ad p0, va_re ad p1, .int p2, .int p3] : List Value).toArray below meth c H locs 0 0 (MQ below (va_Ql (fun (q : Int64) (_ : Unit) => q = y.2) (fun _ t => kE D ct ad G A y.1 t) A) ([va_re ad p0, va_re ad p1, .int p2, .int p3] : List Value).toArray s 0 0 A) (F0 m 38 ls [.long y2]) := by
      intro H locs ls hP hD hS hl
      refine lv_lstore (lv' := [(4, .long y2), (0, va_re ad p0), (1, va_re ad p1), (2, .int p2), (3, .int p3)]) hx hb dX7_keyOf_38 hl (by decide) rfl (fun ls hl => ?_)
      refine lv_lload hx hb dX7_keyOf_40 (lv_at hl 0 rfl) ?_
      refine lv_ldc2 (v := (1048576 : Int64)) hx hb hown (hts (.constantLong RX7 132 (1048576 : Int64)) (by decide +kernel)) dX7_keyOf_42 ?_
      refine lv_lmul hx hb dX7_keyOf_45 ?_
      obtain ⟨x3, ex3, hF⟩ := ltt_some hF
      refine lv_topl (fun zx3 ezx3 => ?_)
      obtain rfl : x3 = zx3 := ex3.trans ezx3.symm
      refine lv_aloadq_n hx hb dX7_keyOf_46 rfl (lv_at hl 1 rfl) ?_
      refine lv_aloadq_n hx hb dX7_keyOf_47 rfl (lv_at hl 2 rfl) ?_
      obtain ⟨b4, ho4, hc4, hk4, hF⟩ := dr_some hF
      refine W_st (st' := [.ref (ad b4), va_re ad p0, .long x3]) (by rw [va_some ho4]) ?_
      refine va_get (D := D) (ci := 4) (v := .int (M.1 b4 8)) (C := RX4) (T := TX4) (N := 18) hx hb hts (by decide +kernel) hown hK hP b4 (wld_o ct ad G M hc4 hk4 (by decide)) rfl 8 (by decide) (hts (.fieldLink RX7 92 "VideoSuite$Picture" "frame" "I") (by decide +kernel)) (fun _ h9 => h9) rfl dX7_keyOf_48 ?_
      obtain ⟨x5, ex5, hF⟩ := ltt_some hF
      refine lv_topi (fun zx5 ezx5 => ?_)
      obtain rfl : x5 = zx5 := ex5.trans ezx5.symm
      refine lv_iload_n hx hb dX7_keyOf_51 rfl (lv_at hl 4 rfl) ?_
      obtain ⟨y6, hy6, hF⟩ := bnd_some hF
      have hf9 := wA_in hD hA9 hS
      refine va_calli (va_runS (As := [va_re ad p0, .int x5, .int p3]) (rest := [.long x3]) ⟨hx, hb, hml, hown, hts⟩ (kX7_frameNumber l D ct ad Z G M H.size p0 x5 p3 y6 hy6) (va_cwS 3 hts gX7_keyOf_X7_frameNumber rfl rfl rfl (by decide +kernel) ⟨Nat.le_of_ble_eq_true rfl, Nat.le_of_ble_eq_true rfl⟩) ⟨fun a U g mk q => by obtain ⟨q0, q1, qP, qK, qD, qZ, qN⟩ := q; exact ⟨q0, q1, qP, va_K.moved (u := U) (U := U.calling g mk a) (Vm.Alike.refl U.vm) qK, qD, sF.moved (u := U) (U := U.calling g mk a) (Vm.Alike.refl U.vm) qZ, nF.same rfl qN⟩, fun U hU hW => ⟨rfl, by rw [hU], by rw [hU]; exact hP, va_K.moved hW.alike hK, hD.weaken (fun _ _ _ _ => trivial), by rw [hU]; exact ((hZ.kept hS.2.1).narrow hf9).moved hW.alike, hN.warm hW⟩⟩ rfl rfl hl.1 rfl (lv_room (Nat.le_of_ble_eq_true rfl)) dX7_keyOf_52 ⟨(Nat.zero_le _), (Nat.zero_le _)⟩) hS (fun q _ h => hf9 q h) hf9 (fun r u t H locs ht hvm hw hB hz1 hk1 hS => ?_)
      obtain ⟨hP, hK9, hD9⟩ := hB
      rw [ht] at hP
      try dsimp only at hw
      subst hw
      have hD := hD9.weaken (fun _ q _ h => hf9 q.1 h)
      refine lv_i2l (v := y6.2.toInt64) hx hb dX7_keyOf_55 rfl ?_
      obtain ⟨x7, ex7, hF⟩ := ltt_some hF
      refine lv_topl (fun zx7 ezx7 => ?_)
      obtain rfl : x7 = zx7 := ex7.trans ezx7.symm
      refine lv_lsub hx hb dX7_keyOf_56 ?_
      obtain ⟨x8, ex8, hF⟩ := ltt_some hF
      refine lv_topl (fun zx8 ezx8 => ?_)
      obtain rfl : x8 = zx8 := ex8.trans ezx8.symm
      obtain rfl := Option.some.inj hF
      exact W.lret (v := x8) hx hb hr (fun t ht hW => ⟨⟨_, (), rfl, rfl, ⟨by rw [ht]; exact hP, va_K.moved hW.alike hK, hD⟩⟩, hS.F ht⟩) hS.2.2 dX7_keyOf_57
    clear hF
    have hF := hy2
    clear hy2
    refine lv_if_ne (tgt := 19) hx hb dX7_keyOf_12 (by decide) (fun c9 => ?_) (fun c9 => ?_)
    · rw [if_neg c9] at hF
      refine lv_iload_n hx hb dX7_keyOf_19 rfl (lv_at hl 2 rfl) ?_
      refine lv_iconst (v := (1 : Int32)) hx hb dX7_keyOf_20 (by decide) ?_
      obtain ⟨y10, hy10, hF⟩ := bnd_some hF
      have J10 : ∀ (H : Heap) (locs : List Loc) (ls : Array Slot), va_P D classes (wld ct ad G M) H → va_D A (wld ct ad G M) → va_S A s.heap H locs → lv_has ls 6 [(0, va_re ad p0), (1, va_re ad p1), (2, .int p2), (3, .int p3)] → W p l e (headSpec wsX7_keyOf ({ frames := 1, cells := 0, slots := 0, locals := 22 })).room s m ([va_re ad p0, va_re ad p1, .int p2, .int p3] : List Value).toArray below meth c H locs 0 0 (MQ below (va_Ql (fun (q : Int64) (_ : Unit) => q = y.2) (fun _ t => kE D ct ad G A y.1 t) A) ([va_re ad p0, va_re ad p1, .int p2, .int p3] : List Value).toArray s 0 0 A) (F0 m 38 ls [.long y10]) := by
        intro H locs ls hP hD hS hl
        obtain rfl := Option.some.inj hF
        exact J2 _ _ _ hP hD hS (lv_sub hl [0, 1, 2, 3] rfl)
      clear hF
      have hF := hy10
      clear hy10
      refine lv_icmp_ne (tgt := 33) hx hb dX7_keyOf_21 (by decide) (fun c11 => ?_) (fun c11 => ?_)
      · rw [if_neg c11] at hF
        refine lv_aloadq_n hx hb dX7_keyOf_33 rfl (lv_at hl 0 rfl) ?_
        obtain ⟨b12, ho12, hc12, hk12, hF⟩ := dr_some hF
        refine W_st (st' := [.ref (ad b12)]) (by rw [va_some ho12]) ?_
        refine va_get (D := D) (ci := 4) (v := .int (M.1 b12 9)) (C := RX4) (T := TX4) (N := 18) hx hb hts (by decide +kernel) hown hK hP b12 (wld_o ct ad G M hc12 hk12 (by decide)) rfl 9 (by decide) (hts (.fieldLink RX7 126 "VideoSuite$Picture" "order" "I") (by decide +kernel)) (fun _ h9 => h9) rfl dX7_keyOf_34 ?_
        obtain ⟨x13, ex13, hF⟩ := ltt_some hF
        refine lv_topi (fun zx13 ezx13 => ?_)
        obtain rfl : x13 = zx13 := ex13.trans ezx13.symm
        refine lv_i2l (v := x13.toInt64) hx hb dX7_keyOf_37 rfl ?_
        obtain ⟨x14, ex14, hF⟩ := ltt_some hF
        refine lv_topl (fun zx14 ezx14 => ?_)
        obtain rfl : x14 = zx14 := ex14.trans ezx14.symm
        obtain rfl := Option.some.inj hF
        exact J10 _ _ _ hP hD hS (lv_sub hl [0, 1, 2, 3] rfl)
      · rw [if_pos c11] at hF
        refine lv_aloadq_n hx hb dX7_keyOf_24 rfl (lv_at hl 0 rfl) ?_
        obtain ⟨b15, ho15, hc15, hk15, hF⟩ := dr_some hF
        refine W_st (st' := [.ref (ad b15)]) (by rw [va_some ho15]) ?_
        refine va_get (D := D) (ci := 4) (v := .int (M.1 b15 9)) (C := RX4) (T := TX4) (N := 18) hx hb hts (by decide +kernel) hown hK hP b15 (wld_o ct ad G M hc15 hk15 (by decide)) rfl 9 (by decide) (hts (.fieldLink RX7 126 "VideoSuite$Picture" "order" "I") (by decide +kernel)) (fun _ h9 => h9) rfl dX7_keyOf_25 ?_
        obtain ⟨x16, ex16, hF⟩ := ltt_some hF
        refine lv_topi (fun zx16 ezx16 => ?_)
        obtain rfl : x16 = zx16 := ex16.trans ezx16.symm
        refine lv_i2l (v := x16.toInt64) hx hb dX7_keyOf_28 rfl ?_
        obtain ⟨x17, ex17, hF⟩ := ltt_some hF
        refine lv_topl (fun zx17 ezx17 => ?_)
        obtain rfl : x17 = zx17 := ex17.trans ezx17.symm
        refine lv_lneg hx hb dX7_keyOf_29 ?_
        obtain ⟨x18, ex18, hF⟩ := ltt_some hF
        refine lv_topl (fun zx18 ezx18 => ?_)
        obtain rfl : x18 = zx18 := ex18.trans ezx18.symm
        refine lv_goto (tgt := 38) hx hb dX7_keyOf_30 (by decide) ?_
        obtain rfl := Option.some.inj hF
        exact J10 _ _ _ hP hD hS (lv_sub hl [0, 1, 2, 3] rfl)
    · rw [if_pos c9] at hF
      refine lv_lconst (v := (0 : Int64)) hx hb dX7_keyOf_15 rfl ?_
      refine lv_goto (tgt := 38) hx hb dX7_keyOf_16 (by decide) ?_
      obtain rfl := Option.some.inj hF
      exact J2 _ _ _ hP hD hS (lv_sub hl [0, 1, 2, 3] rfl)
  · rw [if_pos c1] at hF
    refine lv_aloadq_n hx hb dX7_keyOf_5 rfl (lv_at hl 0 rfl) ?_
    obtain ⟨b19, ho19, hc19, hk19, hF⟩ := dr_some hF
    refine W_st (st' := [.ref (ad b19)]) (by rw [va_some ho19]) ?_
    refine va_get (D := D) (ci := 4) (v := .int (M.1 b19 11)) (C := RX4) (T := TX4) (N := 18) hx hb hts (by decide +kernel) hown hK hP b19 (wld_o ct ad G M hc19 hk19 (by decide)) rfl 11 (by decide) (hts (.fieldLink RX7 129 "VideoSuite$Picture" "number" "I") (by decide +kernel)) (fun _ h9 => h9) rfl dX7_keyOf_6 ?_
    obtain ⟨x20, ex20, hF⟩ := ltt_some hF
    refine lv_topi (fun zx20 ezx20 => ?_)
    obtain rfl : x20 = zx20 := ex20.trans ezx20.symm
    refine lv_i2l (v := x20.toInt64) hx hb dX7_keyOf_9 rfl ?_
    obtain ⟨x21, ex21, hF⟩ := ltt_some hF
    refine lv_topl (fun zx21 ezx21 => ?_)
    obtain rfl : x21 = zx21 := ex21.trans ezx21.symm
    obtain rfl := Option.some.inj hF
    exact W.lret (v := x21) hx hb hr (fun t ht hW => ⟨⟨_, (), rfl, rfl, ⟨by rw [ht]; exact hP, va_K.moved hW.alike hK, hD⟩⟩, hS.F ht⟩) hS.2.2 dX7_keyOf_10
theorem dX7_latestLong_0 : decode cX7_latestLong 0 = .ok (.aload_n 0, 1) := by decide +kernel
theorem dX7_latestLong_1 : decode cX7_latestLong 1 = .ok (.getfield 29, 3) := by decide +kernel
theorem dX7_latestLong_4 : decode cX7_latestLong 4 = .ok (.iconst 1, 1) := by decide +kernel
theorem dX7_latestLong_5 : decode cX7_latestLong 5 = .ok (.isub, 1) := by decide +kernel
theorem dX7_latestLong_6 : decode cX7_latestLong 6 = .ok (.istore_n 2, 1) := by decide +kernel
theorem dX7_latestLong_7 : decode cX7_latestLong 7 = .ok (.iload_n 2, 1) := by decide +kernel
theorem dX7_latestLong_8 : decode cX7_latestLong 8 = .ok (.ifCond .lt 42, 3) := by decide +kernel
theorem dX7_latestLong_11 : decode cX7_latestLong 11 = .ok (.aload_n 0, 1) := by decide +kernel
theorem dX7_latestLong_12 : decode cX7_latestLong 12 = .ok (.getfield 17, 3) := by decide +kernel
theorem dX7_latestLong_15 : decode cX7_latestLong 15 = .ok (.iload_n 2, 1) := by decide +kernel
theorem dX7_latestLong_16 : decode cX7_latestLong 16 = .ok (.aaload, 1) := by decide +kernel
theorem dX7_latestLong_17 : decode cX7_latestLong 17 = .ok (.getfield 123, 3) := by decide +kernel
theorem dX7_latestLong_20 : decode cX7_latestLong 20 = .ok (.iconst 2, 1) := by decide +kernel
theorem dX7_latestLong_21 : decode cX7_latestLong 21 = .ok (.if_icmp .ne 23, 3) := by decide +kernel
theorem dX7_latestLong_24 : decode cX7_latestLong 24 = .ok (.aload_n 0, 1) := by decide +kernel
theorem dX7_latestLong_25 : decode cX7_latestLong 25 = .ok (.getfield 17, 3) := by decide +kernel
theorem dX7_latestLong_28 : decode cX7_latestLong 28 = .ok (.iload_n 2, 1) := by decide +kernel
theorem dX7_latestLong_29 : decode cX7_latestLong 29 = .ok (.aaload, 1) := by decide +kernel
theorem dX7_latestLong_30 : decode cX7_latestLong 30 = .ok (.getfield 129, 3) := by decide +kernel
theorem dX7_latestLong_33 : decode cX7_latestLong 33 = .ok (.iload_n 1, 1) := by decide +kernel
theorem dX7_latestLong_34 : decode cX7_latestLong 34 = .ok (.if_icmp .ne 10, 3) := by decide +kernel
theorem dX7_latestLong_37 : decode cX7_latestLong 37 = .ok (.aload_n 0, 1) := by decide +kernel
theorem dX7_latestLong_38 : decode cX7_latestLong 38 = .ok (.getfield 17, 3) := by decide +kernel
theorem dX7_latestLong_41 : decode cX7_latestLong 41 = .ok (.iload_n 2, 1) := by decide +kernel
theorem dX7_latestLong_42 : decode cX7_latestLong 42 = .ok (.aaload, 1) := by decide +kernel
theorem dX7_latestLong_43 : decode cX7_latestLong 43 = .ok (.areturn, 1) := by decide +kernel
theorem dX7_latestLong_44 : decode cX7_latestLong 44 = .ok (.iinc 2 (-1), 3) := by decide +kernel
theorem dX7_latestLong_47 : decode cX7_latestLong 47 = .ok (.goto (-40), 3) := by decide +kernel
theorem dX7_latestLong_50 : decode cX7_latestLong 50 = .ok (.aconst_null, 1) := by decide +kernel
theorem dX7_latestLong_51 : decode cX7_latestLong 51 = .ok (.areturn, 1) := by decide +kernel
def FX7_latestLong (G : GG) (M : DD) (a : Nat) (p0 : Int32) : Option (DD × Option Nat) :=
  ltt (M.1 a 3) fun x1 =>
  ltt ((x1 - ((1 : Int32)))) fun x2 =>
  bnd (itr (fun (s4 : Int32) => ((if s4 < ((0 : Int32)) then (some (.inr (.inl (s4)))) else
  (dr G 14 ((M.2 a 2)) fun b8 =>
  chk (¬ (s4 < 0 ∨ G.2.2 b8 ≤ s4.toNatClampNeg)) <|
  dr G 4 ((M.2 b8 s4.toNatClampNeg)) fun b9 =>
  ltt (M.1 b9 10) fun x10 =>
  if x10 = ((2 : Int32)) then (chk (¬ (s4 < 0 ∨ G.2.2 b8 ≤ s4.toNatClampNeg)) <|
  ltt (M.1 b9 11) fun x13 =>
  if x13 = p0 then (chk (¬ (s4 < 0 ∨ G.2.2 b8 ≤ s4.toNatClampNeg)) <|
  some (.inr (.inr (M, (M.2 b8 s4.toNatClampNeg))))) else
  (ltt (s4 + (-1 : Int32)) fun x15 =>
  some (.inl (x15)))) else
  (ltt (s4 + (-1 : Int32)) fun x12 =>
  some (.inl (x12))))) : Option ((Int32) ⊕ ((Int32) ⊕ (DD × Option Nat))))) 1000000 (x2)) fun (y3 : (Int32) ⊕ (DD × Option Nat)) =>
  sel y3 (fun (z3k : Int32) =>
  some (M, none)) fun r9 => some r9
set_option maxHeartbeats 4000000 in
set_option maxRecDepth 100000 in
theorem kX7_latestLong (l : Launch) (D : va_G) (ct : CT) (ad : Nat → Nat) (Z : Nat → Nat) (G : GG) (M : DD) (sz : Nat) (a : Nat) (p0 : Int32) (y : DD × Option Nat) (hc : a < G.1) (hk : G.2.1 a = 7) (hF : FX7_latestLong G M a p0 = some y) : Met l yX7_latestLong wsX7_latestLong ({ frames := 0, cells := 0, slots := 0, locals := 0 }) (va_Pc [.ref (ad a), .int p0] (kB D ct ad Z G M sz)) (va_Qe ad (fun (q : Option Nat) (_ : Unit) => q = y.2) (fun _ t => kE D ct ad G (wA ad G sz) y.1 t) (wA ad G sz)) 0 0 (wA ad G sz) := by
  refine Met.ofW (cc := cX7_latestLong) (maxL := 3) (ret := (some (.object "VideoSuite$Picture"))) (by decide) rfl ?_
  intro p e s m args below meth c s₁ B hml hv
  obtain ⟨rfl, hsz, hP, hK, hD0, hZ, hN⟩ := hv
  have hx := B.exec
  have hb := B.bytes
  have hr := B.returns
  have hts := atoms_spec (ws := wsX7_latestLong) B.pre
  have hown : s.vm.findClass RX7 = some m.cls := findClass_of_methodNamed B.named
  have hlocks := B.notSynchronized
  subst hsz
  have hD := wD_self (sz := s.heap.size) hD0
  have hA9 : ∀ q, s.heap.size ≤ q → wA ad G s.heap.size q := fun q h => Or.inr h
  generalize hAe : wA ad G s.heap.size = A at hD hA9 hZ ⊢
  have hS : va_S A s.heap s.heap [] := va_S.rf
  have hl := lv_entry ([.ref (ad a), .int p0]) (n := 3) (Nat.le_of_ble_eq_true rfl)
  rw [lg_entry_eq]
  generalize (lg_sl ([.ref (ad a), .int p0]) ++ List.replicate (3 - (lg_sl ([.ref (ad a), .int p0])).length) Slot.unset).toArray = ls at hl ⊢
  have hl : lv_has ls 3 [(0, .ref (ad a)), (1, .int p0)] := hl
  unfold FX7_latestLong at hF
  refine lv_aload_n hx hb dX7_latestLong_0 rfl (lv_at hl 0 rfl) ?_
  refine va_get (D := D) (ci := 7) (v := .int (M.1 a 3)) (C := RX7) (T := TX7) (N := 17) hx hb hts (by decide +kernel) hown hK hP a (wld_o ct ad G M hc hk (by decide)) rfl 3 (by decide) (hts (.fieldLink RX7 29 "VideoSuite$Store" "count" "I") (by decide +kernel)) (fun _ h9 => h9) rfl dX7_latestLong_1 ?_
  obtain ⟨x1, ex1, hF⟩ := ltt_some hF
  refine lv_topi (fun zx1 ezx1 => ?_)
  obtain rfl : x1 = zx1 := ex1.trans ezx1.symm
  refine lv_iconst (v := (1 : Int32)) hx hb dX7_latestLong_4 (by decide) ?_
  refine lv_isub hx hb dX7_latestLong_5 ?_
  obtain ⟨x2, ex2, hF⟩ := ltt_some hF
  refine lv_topi (fun zx2 ezx2 => ?_)
  obtain rfl : x2 = zx2 := ex2.trans ezx2.symm
  refine lv_istore_n (lv' := [(2, .int x2), (0, .ref (ad a)), (1, .int p0)]) hx hb dX7_latestLong_6 rfl hl (by decide) rfl (fun ls hl => ?_)
  obtain ⟨y3, hy3, hF⟩ := bnd_some hF
  have K3 : ∀ z3k : Int32, y3 = .inl z3k → ∀ (H : Heap) (locs : List Loc) (ls : Array Slot), va_P D classes (wld ct ad G M) H → va_D A (wld ct ad G M) → va_S A s.heap H locs → lv_has ls 3 [(2, .int z3k), (0, .ref (ad a)), (1, .int p0)] → W p l e (headSpec wsX7_latestLong ({ frames := 0, cells := 0, slots := 0, locals := 0 })).room s m ([.ref (ad a), .int p0] : List Value).toArray below meth c H locs 0 0 (MQ below (va_Qe ad (fun (q : Option Nat) (_ : Unit) => q = y.2) (fun _ t => kE D ct ad G A y.1 t) A) ([.ref (ad a), .int p0] : List Value).toArray s 0 0 A) (F0 m 50 ls []) := by
    intro z3k hz3 H locs ls hP hD hS hl
    have hF := sel_inl (hz3 ▸ hF)
    refine lv_nullq (ad := ad) hx hb dX7_latestLong_50 ?_
    obtain rfl := Option.some.inj hF
    exact W.aret (v := va_re ad none) hx hb hr (Or.inl ⟨_, rfl⟩) (va_re_or ad none) (fun t ht hW => ⟨⟨none, (), rfl, rfl, ⟨by rw [ht]; exact hP, va_K.moved hW.alike hK, hD⟩⟩, hS.F ht⟩) hS.2.2 dX7_latestLong_51
  have hR3 := hF
  clear hF
  refine itr_rule (fun (s4 : Int32) => ∀ (H : Heap) (locs : List Loc) (ls : Array Slot), va_P D classes (wld ct ad G M) H → va_D A (wld ct ad G M) → va_S A s.heap H locs → lv_has ls 3 [(2, .int s4), (0, .ref (ad a)), (1, .int p0)] → W p l e (headSpec wsX7_latestLong ({ frames := 0, cells := 0, slots := 0, locals := 0 })).room s m ([.ref (ad a), .int p0] : List Value).toArray below meth c H locs 0 0 (MQ below (va_Qe ad (fun (q : Option Nat) (_ : Unit) => q = y.2) (fun _ t => kE D ct ad G A y.1 t) A) ([.ref (ad a), .int p0] : List Value).toArray s 0 0 A) (F0 m 7 ls [])) ?_ _ _ hy3 _ _ _ hP hD hS (lv_sub hl [0, 1, 2] rfl)
  rintro s4 ⟨z6, hF, hwz6⟩ H locs ls hP hD hS hl
  try dsimp only at hF
  refine lv_iload_n hx hb dX7_latestLong_7 rfl (lv_at hl 0 rfl) ?_
  refine lv_if_lt (tgt := 50) hx hb dX7_latestLong_8 (by decide) (fun c7 => ?_) (fun c7 => ?_)
  · rw [if_pos c7] at hF
    obtain rfl := Option.some.inj hF
    exact K3 _ hwz6.symm _ _ _ hP hD hS (lv_sub hl [0, 1, 2] rfl)
  · rw [if_neg c7] at hF
    refine lv_aload_n hx hb dX7_latestLong_11 rfl (lv_at hl 1 rfl) ?_
    refine va_get (D := D) (ci := 7) (v := va_re ad (M.2 a 2)) (C := RX7) (T := TX7) (N := 17) hx hb hts (by decide +kernel) hown hK hP a (wld_o ct ad G M hc hk (by decide)) rfl 2 (by decide) (hts (.fieldLink RX7 17 "VideoSuite$Store" "kept" "[LVideoSuite$Picture;") (by decide +kernel)) (fun _ h9 => h9) rfl dX7_latestLong_12 ?_
    refine lv_iload_n hx hb dX7_latestLong_15 rfl (lv_at hl 0 rfl) ?_
    obtain ⟨b8, ho8, hc8, hk8, hF⟩ := dr_some hF
    refine W_st (st' := [.int s4, .ref (ad b8)]) (by rw [va_some ho8]) ?_
    obtain ⟨hvc, hF⟩ := chk_some hF
    refine ld_q hx hb hK hP hc8 hk8 hvc dX7_latestLong_16 ?_
    obtain ⟨b9, ho9, hc9, hk9, hF⟩ := dr_some hF
    refine W_st (st' := [.ref (ad b9)]) (by rw [va_some ho9]) ?_
    refine va_get (D := D) (ci := 4) (v := .int (M.1 b9 10)) (C := RX4) (T := TX4) (N := 18) hx hb hts (by decide +kernel) hown hK hP b9 (wld_o ct ad G M hc9 hk9 (by decide)) rfl 10 (by decide) (hts (.fieldLink RX7 123 "VideoSuite$Picture" "use" "I") (by decide +kernel)) (fun _ h9 => h9) rfl dX7_latestLong_17 ?_
    obtain ⟨x10, ex10, hF⟩ := ltt_some hF
    refine lv_topi (fun zx10 ezx10 => ?_)
    obtain rfl : x10 = zx10 := ex10.trans ezx10.symm
    refine lv_iconst (v := (2 : Int32)) hx hb dX7_latestLong_20 (by decide) ?_
    refine lv_icmp_ne (tgt := 44) hx hb dX7_latestLong_21 (by decide) (fun c11 => ?_) (fun c11 => ?_)
    · rw [if_neg c11] at hF
      obtain ⟨x12, ex12, hF⟩ := ltt_some hF
      refine lv_iinc (v := x12) (lv' := [(2, .int x12), (0, .ref (ad a)), (1, .int p0)]) hx hb dX7_latestLong_44 hl (k := 0) rfl (by rw [ex12]; rfl) (by decide) rfl (fun ls hl => ?_)
      refine lv_goto (tgt := 7) hx hb dX7_latestLong_47 (by decide) ?_
      obtain rfl := Option.some.inj hF
      exact hwz6 _ _ _ hP hD hS (lv_sub hl [0, 1, 2] rfl)
    · rw [if_pos c11] at hF
      refine lv_aload_n hx hb dX7_latestLong_24 rfl (lv_at hl 1 rfl) ?_
      refine va_get (D := D) (ci := 7) (v := va_re ad (M.2 a 2)) (C := RX7) (T := TX7) (N := 17) hx hb hts (by decide +kernel) hown hK hP a (wld_o ct ad G M hc hk (by decide)) rfl 2 (by decide) (hts (.fieldLink RX7 17 "VideoSuite$Store" "kept" "[LVideoSuite$Picture;") (by decide +kernel)) (fun _ h9 => h9) rfl dX7_latestLong_25 ?_
      refine lv_iload_n hx hb dX7_latestLong_28 rfl (lv_at hl 0 rfl) ?_
      refine W_st (st' := [.int s4, .ref (ad b8)]) (by rw [va_some ho8]) ?_
      obtain ⟨hvc, hF⟩ := chk_some hF
      refine ld_q hx hb hK hP hc8 hk8 hvc dX7_latestLong_29 ?_
      refine W_st (st' := [.ref (ad b9)]) (by rw [va_some ho9]) ?_
      refine va_get (D := D) (ci := 4) (v := .int (M.1 b9 11)) (C := RX4) (T := TX4) (N := 18) hx hb hts (by decide +kernel) hown hK hP b9 (wld_o ct ad G M hc9 hk9 (by decide)) rfl 11 (by decide) (hts (.fieldLink RX7 129 "VideoSuite$Picture" "number" "I") (by decide +kernel)) (fun _ h9 => h9) rfl dX7_latestLong_30 ?_
      obtain ⟨x13, ex13, hF⟩ := ltt_some hF
      refine lv_topi (fun zx13 ezx13 => ?_)
      obtain rfl : x13 = zx13 := ex13.trans ezx13.symm
      refine lv_iload_n hx hb dX7_latestLong_33 rfl (lv_at hl 2 rfl) ?_
      refine lv_icmp_ne (tgt := 44) hx hb dX7_latestLong_34 (by decide) (fun c14 => ?_) (fun c14 => ?_)
      · rw [if_neg c14] at hF
        obtain ⟨x15, ex15, hF⟩ := ltt_some hF
        refine lv_iinc (v := x15) (lv' := [(2, .int x15), (0, .ref (ad a)), (1, .int p0)]) hx hb dX7_latestLong_44 hl (k := 0) rfl (by rw [ex15]; rfl) (by decide) rfl (fun ls hl => ?_)
        refine lv_goto (tgt := 7) hx hb dX7_latestLong_47 (by decide) ?_
        obtain rfl := Option.some.inj hF
        exact hwz6 _ _ _ hP hD hS (lv_sub hl [0, 1, 2] rfl)
      · rw [if_pos c14] at hF
        refine lv_aload_n hx hb dX7_latestLong_37 rfl (lv_at hl 1 rfl) ?_
        refine va_get (D := D) (ci := 7) (v := va_re ad (M.2 a 2)) (C := RX7) (T := TX7) (N := 17) hx hb hts (by decide +kernel) hown hK hP a (wld_o ct ad G M hc hk (by decide)) rfl 2 (by decide) (hts (.fieldLink RX7 17 "VideoSuite$Store" "kept" "[LVideoSuite$Picture;") (by decide +kernel)) (fun _ h9 => h9) rfl dX7_latestLong_38 ?_
        refine lv_iload_n hx hb dX7_latestLong_41 rfl (lv_at hl 0 rfl) ?_
        refine W_st (st' := [.int s4, .ref (ad b8)]) (by rw [va_some ho8]) ?_
        obtain ⟨hvc, hF⟩ := chk_some hF
        refine ld_q hx hb hK hP hc8 hk8 hvc dX7_latestLong_42 ?_
        obtain rfl := Option.some.inj hF
        have hF := sel_inr (hwz6 ▸ hR3)
        obtain rfl := Option.some.inj hF
        exact W.aret (v := va_re ad ((M.2 b8 s4.toNatClampNeg))) hx hb hr (Or.inl ⟨_, rfl⟩) (va_re_or ad ((M.2 b8 s4.toNatClampNeg))) (fun t ht hW => ⟨⟨((M.2 b8 s4.toNatClampNeg)), (), rfl, rfl, ⟨by rw [ht]; exact hP, va_K.moved hW.alike hK, hD⟩⟩, hS.F ht⟩) hS.2.2 dX7_latestLong_43
theorem dX7_latestShort_0 : decode cX7_latestShort 0 = .ok (.aload_n 0, 1) := by decide +kernel
theorem dX7_latestShort_1 : decode cX7_latestShort 1 = .ok (.getfield 29, 3) := by decide +kernel
theorem dX7_latestShort_4 : decode cX7_latestShort 4 = .ok (.iconst 1, 1) := by decide +kernel
theorem dX7_latestShort_5 : decode cX7_latestShort 5 = .ok (.isub, 1) := by decide +kernel
theorem dX7_latestShort_6 : decode cX7_latestShort 6 = .ok (.istore_n 2, 1) := by decide +kernel
theorem dX7_latestShort_7 : decode cX7_latestShort 7 = .ok (.iload_n 2, 1) := by decide +kernel
theorem dX7_latestShort_8 : decode cX7_latestShort 8 = .ok (.ifCond .lt 42, 3) := by decide +kernel
theorem dX7_latestShort_11 : decode cX7_latestShort 11 = .ok (.aload_n 0, 1) := by decide +kernel
theorem dX7_latestShort_12 : decode cX7_latestShort 12 = .ok (.getfield 17, 3) := by decide +kernel
theorem dX7_latestShort_15 : decode cX7_latestShort 15 = .ok (.iload_n 2, 1) := by decide +kernel
theorem dX7_latestShort_16 : decode cX7_latestShort 16 = .ok (.aaload, 1) := by decide +kernel
theorem dX7_latestShort_17 : decode cX7_latestShort 17 = .ok (.getfield 123, 3) := by decide +kernel
theorem dX7_latestShort_20 : decode cX7_latestShort 20 = .ok (.iconst 1, 1) := by decide +kernel
theorem dX7_latestShort_21 : decode cX7_latestShort 21 = .ok (.if_icmp .ne 23, 3) := by decide +kernel
theorem dX7_latestShort_24 : decode cX7_latestShort 24 = .ok (.aload_n 0, 1) := by decide +kernel
theorem dX7_latestShort_25 : decode cX7_latestShort 25 = .ok (.getfield 17, 3) := by decide +kernel
theorem dX7_latestShort_28 : decode cX7_latestShort 28 = .ok (.iload_n 2, 1) := by decide +kernel
theorem dX7_latestShort_29 : decode cX7_latestShort 29 = .ok (.aaload, 1) := by decide +kernel
theorem dX7_latestShort_30 : decode cX7_latestShort 30 = .ok (.getfield 92, 3) := by decide +kernel
theorem dX7_latestShort_33 : decode cX7_latestShort 33 = .ok (.iload_n 1, 1) := by decide +kernel
theorem dX7_latestShort_34 : decode cX7_latestShort 34 = .ok (.if_icmp .ne 10, 3) := by decide +kernel
theorem dX7_latestShort_37 : decode cX7_latestShort 37 = .ok (.aload_n 0, 1) := by decide +kernel
theorem dX7_latestShort_38 : decode cX7_latestShort 38 = .ok (.getfield 17, 3) := by decide +kernel
theorem dX7_latestShort_41 : decode cX7_latestShort 41 = .ok (.iload_n 2, 1) := by decide +kernel
theorem dX7_latestShort_42 : decode cX7_latestShort 42 = .ok (.aaload, 1) := by decide +kernel
theorem dX7_latestShort_43 : decode cX7_latestShort 43 = .ok (.areturn, 1) := by decide +kernel
theorem dX7_latestShort_44 : decode cX7_latestShort 44 = .ok (.iinc 2 (-1), 3) := by decide +kernel
theorem dX7_latestShort_47 : decode cX7_latestShort 47 = .ok (.goto (-40), 3) := by decide +kernel
theorem dX7_latestShort_50 : decode cX7_latestShort 50 = .ok (.aconst_null, 1) := by decide +kernel
theorem dX7_latestShort_51 : decode cX7_latestShort 51 = .ok (.areturn, 1) := by decide +kernel
def FX7_latestShort (G : GG) (M : DD) (a : Nat) (p0 : Int32) : Option (DD × Option Nat) :=
  ltt (M.1 a 3) fun x1 =>
  ltt ((x1 - ((1 : Int32)))) fun x2 =>
  bnd (itr (fun (s4 : Int32) => ((if s4 < ((0 : Int32)) then (some (.inr (.inl (s4)))) else
  (dr G 14 ((M.2 a 2)) fun b8 =>
  chk (¬ (s4 < 0 ∨ G.2.2 b8 ≤ s4.toNatClampNeg)) <|
  dr G 4 ((M.2 b8 s4.toNatClampNeg)) fun b9 =>
  ltt (M.1 b9 10) fun x10 =>
  if x10 = ((1 : Int32)) then (chk (¬ (s4 < 0 ∨ G.2.2 b8 ≤ s4.toNatClampNeg)) <|
  ltt (M.1 b9 8) fun x13 =>
  if x13 = p0 then (chk (¬ (s4 < 0 ∨ G.2.2 b8 ≤ s4.toNatClampNeg)) <|
  some (.inr (.inr (M, (M.2 b8 s4.toNatClampNeg))))) else
  (ltt (s4 + (-1 : Int32)) fun x15 =>
  some (.inl (x15)))) else
  (ltt (s4 + (-1 : Int32)) fun x12 =>
  some (.inl (x12))))) : Option ((Int32) ⊕ ((Int32) ⊕ (DD × Option Nat))))) 1000000 (x2)) fun (y3 : (Int32) ⊕ (DD × Option Nat)) =>
  sel y3 (fun (z3k : Int32) =>
  some (M, none)) fun r9 => some r9
set_option maxHeartbeats 4000000 in
set_option maxRecDepth 100000 in
theorem kX7_latestShort (l : Launch) (D : va_G) (ct : CT) (ad : Nat → Nat) (Z : Nat → Nat) (G : GG) (M : DD) (sz : Nat) (a : Nat) (p0 : Int32) (y : DD × Option Nat) (hc : a < G.1) (hk : G.2.1 a = 7) (hF : FX7_latestShort G M a p0 = some y) : Met l yX7_latestShort wsX7_latestShort ({ frames := 0, cells := 0, slots := 0, locals := 0 }) (va_Pc [.ref (ad a), .int p0] (kB D ct ad Z G M sz)) (va_Qe ad (fun (q : Option Nat) (_ : Unit) => q = y.2) (fun _ t => kE D ct ad G (wA ad G sz) y.1 t) (wA ad G sz)) 0 0 (wA ad G sz) := by
  refine Met.ofW (cc := cX7_latestShort) (maxL := 3) (ret := (some (.object "VideoSuite$Picture"))) (by decide) rfl ?_
  intro p e s m args below meth c s₁ B hml hv
  obtain ⟨rfl, hsz, hP, hK, hD0, hZ, hN⟩ := hv
  have hx := B.exec
  have hb := B.bytes
  have hr := B.returns
  have hts := atoms_spec (ws := wsX7_latestShort) B.pre
  have hown : s.vm.findClass RX7 = some m.cls := findClass_of_methodNamed B.named
  have hlocks := B.notSynchronized
  subst hsz
  have hD := wD_self (sz := s.heap.size) hD0
  have hA9 : ∀ q, s.heap.size ≤ q → wA ad G s.heap.size q := fun q h => Or.inr h
  generalize hAe : wA ad G s.heap.size = A at hD hA9 hZ ⊢
  have hS : va_S A s.heap s.heap [] := va_S.rf
  have hl := lv_entry ([.ref (ad a), .int p0]) (n := 3) (Nat.le_of_ble_eq_true rfl)
  rw [lg_entry_eq]
  generalize (lg_sl ([.ref (ad a), .int p0]) ++ List.replicate (3 - (lg_sl ([.ref (ad a), .int p0])).length) Slot.unset).toArray = ls at hl ⊢
  have hl : lv_has ls 3 [(0, .ref (ad a)), (1, .int p0)] := hl
  unfold FX7_latestShort at hF
  refine lv_aload_n hx hb dX7_latestShort_0 rfl (lv_at hl 0 rfl) ?_
  refine va_get (D := D) (ci := 7) (v := .int (M.1 a 3)) (C := RX7) (T := TX7) (N := 17) hx hb hts (by decide +kernel) hown hK hP a (wld_o ct ad G M hc hk (by decide)) rfl 3 (by decide) (hts (.fieldLink RX7 29 "VideoSuite$Store" "count" "I") (by decide +kernel)) (fun _ h9 => h9) rfl dX7_latestShort_1 ?_
  obtain ⟨x1, ex1, hF⟩ := ltt_some hF
  refine lv_topi (fun zx1 ezx1 => ?_)
  obtain rfl : x1 = zx1 := ex1.trans ezx1.symm
  refine lv_iconst (v := (1 : Int32)) hx hb dX7_latestShort_4 (by decide) ?_
  refine lv_isub hx hb dX7_latestShort_5 ?_
  obtain ⟨x2, ex2, hF⟩ := ltt_some hF
  refine lv_topi (fun zx2 ezx2 => ?_)
  obtain rfl : x2 = zx2 := ex2.trans ezx2.symm
  refine lv_istore_n (lv' := [(2, .int x2), (0, .ref (ad a)), (1, .int p0)]) hx hb dX7_latestShort_6 rfl hl (by decide) rfl (fun ls hl => ?_)
  obtain ⟨y3, hy3, hF⟩ := bnd_some hF
  have K3 : ∀ z3k : Int32, y3 = .inl z3k → ∀ (H : Heap) (locs : List Loc) (ls : Array Slot), va_P D classes (wld ct ad G M) H → va_D A (wld ct ad G M) → va_S A s.heap H locs → lv_has ls 3 [(2, .int z3k), (0, .ref (ad a)), (1, .int p0)] → W p l e (headSpec wsX7_latestShort ({ frames := 0, cells := 0, slots := 0, locals := 0 })).room s m ([.ref (ad a), .int p0] : List Value).toArray below meth c H locs 0 0 (MQ below (va_Qe ad (fun (q : Option Nat) (_ : Unit) => q = y.2) (fun _ t => kE D ct ad G A y.1 t) A) ([.ref (ad a), .int p0] : List Value).toArray s 0 0 A) (F0 m 50 ls []) := by
    intro z3k hz3 H locs ls hP hD hS hl
    have hF := sel_inl (hz3 ▸ hF)
    refine lv_nullq (ad := ad) hx hb dX7_latestShort_50 ?_
    obtain rfl := Option.some.inj hF
    exact W.aret (v := va_re ad none) hx hb hr (Or.inl ⟨_, rfl⟩) (va_re_or ad none) (fun t ht hW => ⟨⟨none, (), rfl, rfl, ⟨by rw [ht]; exact hP, va_K.moved hW.alike hK, hD⟩⟩, hS.F ht⟩) hS.2.2 dX7_latestShort_51
  have hR3 := hF
  clear hF
  refine itr_rule (fun (s4 : Int32) => ∀ (H : Heap) (locs : List Loc) (ls : Array Slot), va_P D classes (wld ct ad G M) H → va_D A (wld ct ad G M) → va_S A s.heap H locs → lv_has ls 3 [(2, .int s4), (0, .ref (ad a)), (1, .int p0)] → W p l e (headSpec wsX7_latestShort ({ frames := 0, cells := 0, slots := 0, locals := 0 })).room s m ([.ref (ad a), .int p0] : List Value).toArray below meth c H locs 0 0 (MQ below (va_Qe ad (fun (q : Option Nat) (_ : Unit) => q = y.2) (fun _ t => kE D ct ad G A y.1 t) A) ([.ref (ad a), .int p0] : List Value).toArray s 0 0 A) (F0 m 7 ls [])) ?_ _ _ hy3 _ _ _ hP hD hS (lv_sub hl [0, 1, 2] rfl)
  rintro s4 ⟨z6, hF, hwz6⟩ H locs ls hP hD hS hl
  try dsimp only at hF
  refine lv_iload_n hx hb dX7_latestShort_7 rfl (lv_at hl 0 rfl) ?_
  refine lv_if_lt (tgt := 50) hx hb dX7_latestShort_8 (by decide) (fun c7 => ?_) (fun c7 => ?_)
  · rw [if_pos c7] at hF
    obtain rfl := Option.some.inj hF
    exact K3 _ hwz6.symm _ _ _ hP hD hS (lv_sub hl [0, 1, 2] rfl)
  · rw [if_neg c7] at hF
    refine lv_aload_n hx hb dX7_latestShort_11 rfl (lv_at hl 1 rfl) ?_
    refine va_get (D := D) (ci := 7) (v := va_re ad (M.2 a 2)) (C := RX7) (T := TX7) (N := 17) hx hb hts (by decide +kernel) hown hK hP a (wld_o ct ad G M hc hk (by decide)) rfl 2 (by decide) (hts (.fieldLink RX7 17 "VideoSuite$Store" "kept" "[LVideoSuite$Picture;") (by decide +kernel)) (fun _ h9 => h9) rfl dX7_latestShort_12 ?_
    refine lv_iload_n hx hb dX7_latestShort_15 rfl (lv_at hl 0 rfl) ?_
    obtain ⟨b8, ho8, hc8, hk8, hF⟩ := dr_some hF
    refine W_st (st' := [.int s4, .ref (ad b8)]) (by rw [va_some ho8]) ?_
    obtain ⟨hvc, hF⟩ := chk_some hF
    refine ld_q hx hb hK hP hc8 hk8 hvc dX7_latestShort_16 ?_
    obtain ⟨b9, ho9, hc9, hk9, hF⟩ := dr_some hF
    refine W_st (st' := [.ref (ad b9)]) (by rw [va_some ho9]) ?_
    refine va_get (D := D) (ci := 4) (v := .int (M.1 b9 10)) (C := RX4) (T := TX4) (N := 18) hx hb hts (by decide +kernel) hown hK hP b9 (wld_o ct ad G M hc9 hk9 (by decide)) rfl 10 (by decide) (hts (.fieldLink RX7 123 "VideoSuite$Picture" "use" "I") (by decide +kernel)) (fun _ h9 => h9) rfl dX7_latestShort_17 ?_
    obtain ⟨x10, ex10, hF⟩ := ltt_some hF
    refine lv_topi (fun zx10 ezx10 => ?_)
    obtain rfl : x10 = zx10 := ex10.trans ezx10.symm
    refine lv_iconst (v := (1 : Int32)) hx hb dX7_latestShort_20 (by decide) ?_
    refine lv_icmp_ne (tgt := 44) hx hb dX7_latestShort_21 (by decide) (fun c11 => ?_) (fun c11 => ?_)
    · rw [if_neg c11] at hF
      obtain ⟨x12, ex12, hF⟩ := ltt_some hF
      refine lv_iinc (v := x12) (lv' := [(2, .int x12), (0, .ref (ad a)), (1, .int p0)]) hx hb dX7_latestShort_44 hl (k := 0) rfl (by rw [ex12]; rfl) (by decide) rfl (fun ls hl => ?_)
      refine lv_goto (tgt := 7) hx hb dX7_latestShort_47 (by decide) ?_
      obtain rfl := Option.some.inj hF
      exact hwz6 _ _ _ hP hD hS (lv_sub hl [0, 1, 2] rfl)
    · rw [if_pos c11] at hF
      refine lv_aload_n hx hb dX7_latestShort_24 rfl (lv_at hl 1 rfl) ?_
      refine va_get (D := D) (ci := 7) (v := va_re ad (M.2 a 2)) (C := RX7) (T := TX7) (N := 17) hx hb hts (by decide +kernel) hown hK hP a (wld_o ct ad G M hc hk (by decide)) rfl 2 (by decide) (hts (.fieldLink RX7 17 "VideoSuite$Store" "kept" "[LVideoSuite$Picture;") (by decide +kernel)) (fun _ h9 => h9) rfl dX7_latestShort_25 ?_
      refine lv_iload_n hx hb dX7_latestShort_28 rfl (lv_at hl 0 rfl) ?_
      refine W_st (st' := [.int s4, .ref (ad b8)]) (by rw [va_some ho8]) ?_
      obtain ⟨hvc, hF⟩ := chk_some hF
      refine ld_q hx hb hK hP hc8 hk8 hvc dX7_latestShort_29 ?_
      refine W_st (st' := [.ref (ad b9)]) (by rw [va_some ho9]) ?_
      refine va_get (D := D) (ci := 4) (v := .int (M.1 b9 8)) (C := RX4) (T := TX4) (N := 18) hx hb hts (by decide +kernel) hown hK hP b9 (wld_o ct ad G M hc9 hk9 (by decide)) rfl 8 (by decide) (hts (.fieldLink RX7 92 "VideoSuite$Picture" "frame" "I") (by decide +kernel)) (fun _ h9 => h9) rfl dX7_latestShort_30 ?_
      obtain ⟨x13, ex13, hF⟩ := ltt_some hF
      refine lv_topi (fun zx13 ezx13 => ?_)
      obtain rfl : x13 = zx13 := ex13.trans ezx13.symm
      refine lv_iload_n hx hb dX7_latestShort_33 rfl (lv_at hl 2 rfl) ?_
      refine lv_icmp_ne (tgt := 44) hx hb dX7_latestShort_34 (by decide) (fun c14 => ?_) (fun c14 => ?_)
      · rw [if_neg c14] at hF
        obtain ⟨x15, ex15, hF⟩ := ltt_some hF
        refine lv_iinc (v := x15) (lv' := [(2, .int x15), (0, .ref (ad a)), (1, .int p0)]) hx hb dX7_latestShort_44 hl (k := 0) rfl (by rw [ex15]; rfl) (by decide) rfl (fun ls hl => ?_)
        refine lv_goto (tgt := 7) hx hb dX7_latestShort_47 (by decide) ?_
        obtain rfl := Option.some.inj hF
        exact hwz6 _ _ _ hP hD hS (lv_sub hl [0, 1, 2] rfl)
      · rw [if_pos c14] at hF
        refine lv_aload_n hx hb dX7_latestShort_37 rfl (lv_at hl 1 rfl) ?_
        refine va_get (D := D) (ci := 7) (v := va_re ad (M.2 a 2)) (C := RX7) (T := TX7) (N := 17) hx hb hts (by decide +kernel) hown hK hP a (wld_o ct ad G M hc hk (by decide)) rfl 2 (by decide) (hts (.fieldLink RX7 17 "VideoSuite$Store" "kept" "[LVideoSuite$Picture;") (by decide +kernel)) (fun _ h9 => h9) rfl dX7_latestShort_38 ?_
        refine lv_iload_n hx hb dX7_latestShort_41 rfl (lv_at hl 0 rfl) ?_
        refine W_st (st' := [.int s4, .ref (ad b8)]) (by rw [va_some ho8]) ?_
        obtain ⟨hvc, hF⟩ := chk_some hF
        refine ld_q hx hb hK hP hc8 hk8 hvc dX7_latestShort_42 ?_
        obtain rfl := Option.some.inj hF
        have hF := sel_inr (hwz6 ▸ hR3)
        obtain rfl := Option.some.inj hF
        exact W.aret (v := va_re ad ((M.2 b8 s4.toNatClampNeg))) hx hb hr (Or.inl ⟨_, rfl⟩) (va_re_or ad ((M.2 b8 s4.toNatClampNeg))) (fun t ht hW => ⟨⟨((M.2 b8 s4.toNatClampNeg)), (), rfl, rfl, ⟨by rw [ht]; exact hP, va_K.moved hW.alike hK, hD⟩⟩, hS.F ht⟩) hS.2.2 dX7_latestShort_43
theorem dX7_leastLong_0 : decode cX7_leastLong 0 = .ok (.aconst_null, 1) := by decide +kernel
theorem dX7_leastLong_1 : decode cX7_leastLong 1 = .ok (.astore_n 1, 1) := by decide +kernel
theorem dX7_leastLong_2 : decode cX7_leastLong 2 = .ok (.iconst 0, 1) := by decide +kernel
theorem dX7_leastLong_3 : decode cX7_leastLong 3 = .ok (.istore_n 2, 1) := by decide +kernel
theorem dX7_leastLong_4 : decode cX7_leastLong 4 = .ok (.iload_n 2, 1) := by decide +kernel
theorem dX7_leastLong_5 : decode cX7_leastLong 5 = .ok (.aload_n 0, 1) := by decide +kernel
theorem dX7_leastLong_6 : decode cX7_leastLong 6 = .ok (.getfield 29, 3) := by decide +kernel
theorem dX7_leastLong_9 : decode cX7_leastLong 9 = .ok (.if_icmp .ge 49, 3) := by decide +kernel
theorem dX7_leastLong_12 : decode cX7_leastLong 12 = .ok (.aload_n 0, 1) := by decide +kernel
theorem dX7_leastLong_13 : decode cX7_leastLong 13 = .ok (.getfield 17, 3) := by decide +kernel
theorem dX7_leastLong_16 : decode cX7_leastLong 16 = .ok (.iload_n 2, 1) := by decide +kernel
theorem dX7_leastLong_17 : decode cX7_leastLong 17 = .ok (.aaload, 1) := by decide +kernel
theorem dX7_leastLong_18 : decode cX7_leastLong 18 = .ok (.getfield 123, 3) := by decide +kernel
theorem dX7_leastLong_21 : decode cX7_leastLong 21 = .ok (.iconst 2, 1) := by decide +kernel
theorem dX7_leastLong_22 : decode cX7_leastLong 22 = .ok (.if_icmp .ne 30, 3) := by decide +kernel
theorem dX7_leastLong_25 : decode cX7_leastLong 25 = .ok (.aload_n 1, 1) := by decide +kernel
theorem dX7_leastLong_26 : decode cX7_leastLong 26 = .ok (.ifnull 19, 3) := by decide +kernel
theorem dX7_leastLong_29 : decode cX7_leastLong 29 = .ok (.aload_n 0, 1) := by decide +kernel
theorem dX7_leastLong_30 : decode cX7_leastLong 30 = .ok (.getfield 17, 3) := by decide +kernel
theorem dX7_leastLong_33 : decode cX7_leastLong 33 = .ok (.iload_n 2, 1) := by decide +kernel
theorem dX7_leastLong_34 : decode cX7_leastLong 34 = .ok (.aaload, 1) := by decide +kernel
theorem dX7_leastLong_35 : decode cX7_leastLong 35 = .ok (.getfield 129, 3) := by decide +kernel
theorem dX7_leastLong_38 : decode cX7_leastLong 38 = .ok (.aload_n 1, 1) := by decide +kernel
theorem dX7_leastLong_39 : decode cX7_leastLong 39 = .ok (.getfield 129, 3) := by decide +kernel
theorem dX7_leastLong_42 : decode cX7_leastLong 42 = .ok (.if_icmp .ge 10, 3) := by decide +kernel
theorem dX7_leastLong_45 : decode cX7_leastLong 45 = .ok (.aload_n 0, 1) := by decide +kernel
theorem dX7_leastLong_46 : decode cX7_leastLong 46 = .ok (.getfield 17, 3) := by decide +kernel
theorem dX7_leastLong_49 : decode cX7_leastLong 49 = .ok (.iload_n 2, 1) := by decide +kernel
theorem dX7_leastLong_50 : decode cX7_leastLong 50 = .ok (.aaload, 1) := by decide +kernel
theorem dX7_leastLong_51 : decode cX7_leastLong 51 = .ok (.astore_n 1, 1) := by decide +kernel
theorem dX7_leastLong_52 : decode cX7_leastLong 52 = .ok (.iinc 2 1, 3) := by decide +kernel
theorem dX7_leastLong_55 : decode cX7_leastLong 55 = .ok (.goto (-51), 3) := by decide +kernel
theorem dX7_leastLong_58 : decode cX7_leastLong 58 = .ok (.aload_n 1, 1) := by decide +kernel
theorem dX7_leastLong_59 : decode cX7_leastLong 59 = .ok (.areturn, 1) := by decide +kernel
def FX7_leastLong (G : GG) (M : DD) (a : Nat)  : Option (DD × Option Nat) :=
  bnd (itr (fun (s2 : Option Nat × Int32) => ((ltt (M.1 a 3) fun x5 =>
  if x5 ≤ s2.2 then (some (.inr (s2.1, s2.2))) else
  (dr G 14 ((M.2 a 2)) fun b7 =>
  chk (¬ (s2.2 < 0 ∨ G.2.2 b7 ≤ s2.2.toNatClampNeg)) <|
  dr G 4 ((M.2 b7 s2.2.toNatClampNeg)) fun b8 =>
  ltt (M.1 b8 10) fun x9 =>
  bnd (if x9 = ((2 : Int32)) then (bnd (if s2.1 = none then (chk (¬ (s2.2 < 0 ∨ G.2.2 b7 ≤ s2.2.toNatClampNeg)) <|
  some ((M.2 b7 s2.2.toNatClampNeg))) else
  (chk (¬ (s2.2 < 0 ∨ G.2.2 b7 ≤ s2.2.toNatClampNeg)) <|
  ltt (M.1 b8 11) fun x15 =>
  dr G 4 s2.1 fun b16 =>
  ltt (M.1 b16 11) fun x17 =>
  bnd (if x17 ≤ x15 then (some (s2.1)) else
  (chk (¬ (s2.2 < 0 ∨ G.2.2 b7 ≤ s2.2.toNatClampNeg)) <|
  some ((M.2 b7 s2.2.toNatClampNeg)))) fun (y18 : Option Nat) =>
  some (y18))) fun (y13 : Option Nat) =>
  some (y13)) else
  (some (s2.1))) fun (y10 : Option Nat) =>
  ltt (s2.2 + (1 : Int32)) fun x11 =>
  some (.inl (y10, x11)))) : Option ((Option Nat × Int32) ⊕ (Option Nat × Int32)))) 1000000 (none, (0 : Int32))) fun (y1 : Option Nat × Int32) =>
  some (M, y1.1)
set_option maxHeartbeats 4000000 in
set_option maxRecDepth 100000 in
theorem kX7_leastLong (l : Launch) (D : va_G) (ct : CT) (ad : Nat → Nat) (Z : Nat → Nat) (G : GG) (M : DD) (sz : Nat) (a : Nat)  (y : DD × Option Nat) (hc : a < G.1) (hk : G.2.1 a = 7) (hF : FX7_leastLong G M a  = some y) : Met l yX7_leastLong wsX7_leastLong ({ frames := 0, cells := 0, slots := 0, locals := 0 }) (va_Pc [.ref (ad a)] (kB D ct ad Z G M sz)) (va_Qe ad (fun (q : Option Nat) (_ : Unit) => q = y.2) (fun _ t => kE D ct ad G (wA ad G sz) y.1 t) (wA ad G sz)) 0 0 (wA ad G sz) := by
  refine Met.ofW (cc := cX7_leastLong) (maxL := 3) (ret := (some (.object "VideoSuite$Picture"))) (by decide) rfl ?_
  intro p e s m args below meth c s₁ B hml hv
  obtain ⟨rfl, hsz, hP, hK, hD0, hZ, hN⟩ := hv
  have hx := B.exec
  have hb := B.bytes
  have hr := B.returns
  have hts := atoms_spec (ws := wsX7_leastLong) B.pre
  have hown : s.vm.findClass RX7 = some m.cls := findClass_of_methodNamed B.named
  have hlocks := B.notSynchronized
  subst hsz
  have hD := wD_self (sz := s.heap.size) hD0
  have hA9 : ∀ q, s.heap.size ≤ q → wA ad G s.heap.size q := fun q h => Or.inr h
  generalize hAe : wA ad G s.heap.size = A at hD hA9 hZ ⊢
  have hS : va_S A s.heap s.heap [] := va_S.rf
  have hl := lv_entry ([.ref (ad a)]) (n := 3) (Nat.le_of_ble_eq_true rfl)
  rw [lg_entry_eq]
  generalize (lg_sl ([.ref (ad a)]) ++ List.replicate (3 - (lg_sl ([.ref (ad a)])).length) Slot.unset).toArray = ls at hl ⊢
  have hl : lv_has ls 3 [(0, .ref (ad a))] := hl
  unfold FX7_leastLong at hF
  refine lv_nullq (ad := ad) hx hb dX7_leastLong_0 ?_
  refine lv_astoreq_n (lv' := [(1, va_re ad none), (0, .ref (ad a))]) hx hb dX7_leastLong_1 rfl hl (by decide) rfl (fun ls hl => ?_)
  refine lv_iconst (v := (0 : Int32)) hx hb dX7_leastLong_2 (by decide) ?_
  refine lv_istore_n (lv' := [(2, .int (0 : Int32)), (1, va_re ad none), (0, .ref (ad a))]) hx hb dX7_leastLong_3 rfl hl (by decide) (by generalize none = o9; cases o9 <;> rfl) (fun ls hl => ?_)
  obtain ⟨y1, hy1, hF⟩ := bnd_some hF
  have K1 : ∀ (H : Heap) (locs : List Loc) (ls : Array Slot), va_P D classes (wld ct ad G M) H → va_D A (wld ct ad G M) → va_S A s.heap H locs → lv_has ls 3 [(2, .int y1.2), (1, va_re ad y1.1), (0, .ref (ad a))] → W p l e (headSpec wsX7_leastLong ({ frames := 0, cells := 0, slots := 0, locals := 0 })).room s m ([.ref (ad a)] : List Value).toArray below meth c H locs 0 0 (MQ below (va_Qe ad (fun (q : Option Nat) (_ : Unit) => q = y.2) (fun _ t => kE D ct ad G A y.1 t) A) ([.ref (ad a)] : List Value).toArray s 0 0 A) (F0 m 58 ls []) := by
    intro H locs ls hP hD hS hl
    refine lv_aloadq_n hx hb dX7_leastLong_58 rfl (lv_at hl 1 rfl) ?_
    obtain rfl := Option.some.inj hF
    exact W.aret (v := va_re ad y1.1) hx hb hr (Or.inl ⟨_, rfl⟩) (va_re_or ad y1.1) (fun t ht hW => ⟨⟨y1.1, (), rfl, rfl, ⟨by rw [ht]; exact hP, va_K.moved hW.alike hK, hD⟩⟩, hS.F ht⟩) hS.2.2 dX7_leastLong_59
  clear hF
  refine itr_rule (fun (s2 : Option Nat × Int32) => ∀ (H : Heap) (locs : List Loc) (ls : Array Slot), va_P D classes (wld ct ad G M) H → va_D A (wld ct ad G M) → va_S A s.heap H locs → lv_has ls 3 [(2, .int s2.2), (1, va_re ad s2.1), (0, .ref (ad a))] → W p l e (headSpec wsX7_leastLong ({ frames := 0, cells := 0, slots := 0, locals := 0 })).room s m ([.ref (ad a)] : List Value).toArray below meth c H locs 0 0 (MQ below (va_Qe ad (fun (q : Option Nat) (_ : Unit) => q = y.2) (fun _ t => kE D ct ad G A y.1 t) A) ([.ref (ad a)] : List Value).toArray s 0 0 A) (F0 m 4 ls [])) ?_ _ _ hy1 _ _ _ hP hD hS (lv_sub hl [0, 1, 2] rfl)
  rintro s2 ⟨z4, hF, hwz4⟩ H locs ls hP hD hS hl
  try dsimp only at hF
  refine lv_iload_n hx hb dX7_leastLong_4 rfl (lv_at hl 0 rfl) ?_
  refine lv_aload_n hx hb dX7_leastLong_5 rfl (lv_at hl 2 rfl) ?_
  refine va_get (D := D) (ci := 7) (v := .int (M.1 a 3)) (C := RX7) (T := TX7) (N := 17) hx hb hts (by decide +kernel) hown hK hP a (wld_o ct ad G M hc hk (by decide)) rfl 3 (by decide) (hts (.fieldLink RX7 29 "VideoSuite$Store" "count" "I") (by decide +kernel)) (fun _ h9 => h9) rfl dX7_leastLong_6 ?_
  obtain ⟨x5, ex5, hF⟩ := ltt_some hF
  refine lv_topi (fun zx5 ezx5 => ?_)
  obtain rfl : x5 = zx5 := ex5.trans ezx5.symm
  refine lv_icmp_ge (tgt := 58) hx hb dX7_leastLong_9 (by decide) (fun c6 => ?_) (fun c6 => ?_)
  · rw [if_pos c6] at hF
    obtain rfl := Option.some.inj hF
    subst hwz4
    exact K1 _ _ _ hP hD hS (lv_sub hl [0, 1, 2] rfl)
  · rw [if_neg c6] at hF
    refine lv_aload_n hx hb dX7_leastLong_12 rfl (lv_at hl 2 rfl) ?_
    refine va_get (D := D) (ci := 7) (v := va_re ad (M.2 a 2)) (C := RX7) (T := TX7) (N := 17) hx hb hts (by decide +kernel) hown hK hP a (wld_o ct ad G M hc hk (by decide)) rfl 2 (by decide) (hts (.fieldLink RX7 17 "VideoSuite$Store" "kept" "[LVideoSuite$Picture;") (by decide +kernel)) (fun _ h9 => h9) rfl dX7_leastLong_13 ?_
    refine lv_iload_n hx hb dX7_leastLong_16 rfl (lv_at hl 0 rfl) ?_
    obtain ⟨b7, ho7, hc7, hk7, hF⟩ := dr_some hF
    refine W_st (st' := [.int s2.2, .ref (ad b7)]) (by rw [va_some ho7]) ?_
    obtain ⟨hvc, hF⟩ := chk_some hF
    refine ld_q hx hb hK hP hc7 hk7 hvc dX7_leastLong_17 ?_
    obtain ⟨b8, ho8, hc8, hk8, hF⟩ := dr_some hF
    refine W_st (st' := [.ref (ad b8)]) (by rw [va_some ho8]) ?_
    refine va_get (D := D) (ci := 4) (v := .int (M.1 b8 10)) (C := RX4) (T := TX4) (N := 18) hx hb hts (by decide +kernel) hown hK hP b8 (wld_o ct ad G M hc8 hk8 (by decide)) rfl 10 (by decide) (hts (.fieldLink RX7 123 "VideoSuite$Picture" "use" "I") (by decide +kernel)) (fun _ h9 => h9) rfl dX7_leastLong_18 ?_
    obtain ⟨x9, ex9, hF⟩ := ltt_some hF
    refine lv_topi (fun zx9 ezx9 => ?_)
    obtain rfl : x9 = zx9 := ex9.trans ezx9.symm
    refine lv_iconst (v := (2 : Int32)) hx hb dX7_leastLong_21 (by decide) ?_
    obtain ⟨y10, hy10, hF⟩ := bnd_some hF
    have J10 : ∀ (H : Heap) (locs : List Loc) (ls : Array Slot), va_P D classes (wld ct ad G M) H → va_D A (wld ct ad G M) → va_S A s.heap H locs → lv_has ls 3 [(2, .int s2.2), (1, va_re ad y10), (0, .ref (ad a))] → W p l e (headSpec wsX7_leastLong ({ frames := 0, cells := 0, slots := 0, locals := 0 })).room s m ([.ref (ad a)] : List Value).toArray below meth c H locs 0 0 (MQ below (va_Qe ad (fun (q : Option Nat) (_ : Unit) => q = y.2) (fun _ t => kE D ct ad G A y.1 t) A) ([.ref (ad a)] : List Value).toArray s 0 0 A) (F0 m 52 ls []) := by
      intro H locs ls hP hD hS hl
      obtain ⟨x11, ex11, hF⟩ := ltt_some hF
      refine lv_iinc (v := x11) (lv' := [(2, .int x11), (1, va_re ad y10), (0, .ref (ad a))]) hx hb dX7_leastLong_52 hl (k := 0) rfl (by rw [ex11]; rfl) (by decide) (by generalize y10 = o9; cases o9 <;> rfl) (fun ls hl => ?_)
      refine lv_goto (tgt := 4) hx hb dX7_leastLong_55 (by decide) ?_
      obtain rfl := Option.some.inj hF
      exact hwz4 _ _ _ hP hD hS (lv_sub hl [0, 1, 2] rfl)
    clear hF
    have hF := hy10
    clear hy10
    refine lv_icmp_ne (tgt := 52) hx hb dX7_leastLong_22 (by decide) (fun c12 => ?_) (fun c12 => ?_)
    · rw [if_neg c12] at hF
      obtain rfl := Option.some.inj hF
      exact J10 _ _ _ hP hD hS (lv_sub hl [0, 1, 2] rfl)
    · rw [if_pos c12] at hF
      refine lv_aloadq_n hx hb dX7_leastLong_25 rfl (lv_at hl 1 rfl) ?_
      obtain ⟨y13, hy13, hF⟩ := bnd_some hF
      have J13 : ∀ (H : Heap) (locs : List Loc) (ls : Array Slot), va_P D classes (wld ct ad G M) H → va_D A (wld ct ad G M) → va_S A s.heap H locs → lv_has ls 3 [(2, .int s2.2), (1, va_re ad y13), (0, .ref (ad a))] → W p l e (headSpec wsX7_leastLong ({ frames := 0, cells := 0, slots := 0, locals := 0 })).room s m ([.ref (ad a)] : List Value).toArray below meth c H locs 0 0 (MQ below (va_Qe ad (fun (q : Option Nat) (_ : Unit) => q = y.2) (fun _ t => kE D ct ad G A y.1 t) A) ([.ref (ad a)] : List Value).toArray s 0 0 A) (F0 m 52 ls []) := by
        intro H locs ls hP hD hS hl
        obtain rfl := Option.some.inj hF
        exact J10 _ _ _ hP hD hS (lv_sub hl [0, 1, 2] rfl)
      clear hF
      have hF := hy13
      clear hy13
      refine lv_ifnullq (tgt := 45) hx hb dX7_leastLong_26 (by decide) (fun c14 => ?_) (fun c14 => ?_)
      · rw [if_pos c14] at hF
        refine lv_aload_n hx hb dX7_leastLong_45 rfl (lv_at hl 2 rfl) ?_
        refine va_get (D := D) (ci := 7) (v := va_re ad (M.2 a 2)) (C := RX7) (T := TX7) (N := 17) hx hb hts (by decide +kernel) hown hK hP a (wld_o ct ad G M hc hk (by decide)) rfl 2 (by decide) (hts (.fieldLink RX7 17 "VideoSuite$Store" "kept" "[LVideoSuite$Picture;") (by decide +kernel)) (fun _ h9 => h9) rfl dX7_leastLong_46 ?_
        refine lv_iload_n hx hb dX7_leastLong_49 rfl (lv_at hl 0 rfl) ?_
        refine W_st (st' := [.int s2.2, .ref (ad b7)]) (by rw [va_some ho7]) ?_
        obtain ⟨hvc, hF⟩ := chk_some hF
        refine ld_q hx hb hK hP hc7 hk7 hvc dX7_leastLong_50 ?_
        refine lv_astoreq_n (lv' := [(1, va_re ad (M.2 b7 s2.2.toNatClampNeg)), (2, .int s2.2), (0, .ref (ad a))]) hx hb dX7_leastLong_51 rfl hl (by decide) rfl (fun ls hl => ?_)
        obtain rfl := Option.some.inj hF
        exact J13 _ _ _ hP hD hS (lv_sub hl [1, 0, 2] rfl)
      · rw [if_neg c14] at hF
        refine lv_aload_n hx hb dX7_leastLong_29 rfl (lv_at hl 2 rfl) ?_
        refine va_get (D := D) (ci := 7) (v := va_re ad (M.2 a 2)) (C := RX7) (T := TX7) (N := 17) hx hb hts (by decide +kernel) hown hK hP a (wld_o ct ad G M hc hk (by decide)) rfl 2 (by decide) (hts (.fieldLink RX7 17 "VideoSuite$Store" "kept" "[LVideoSuite$Picture;") (by decide +kernel)) (fun _ h9 => h9) rfl dX7_leastLong_30 ?_
        refine lv_iload_n hx hb dX7_leastLong_33 rfl (lv_at hl 0 rfl) ?_
        refine W_st (st' := [.int s2.2, .ref (ad b7)]) (by rw [va_some ho7]) ?_
        obtain ⟨hvc, hF⟩ := chk_some hF
        refine ld_q hx hb hK hP hc7 hk7 hvc dX7_leastLong_34 ?_
        refine W_st (st' := [.ref (ad b8)]) (by rw [va_some ho8]) ?_
        refine va_get (D := D) (ci := 4) (v := .int (M.1 b8 11)) (C := RX4) (T := TX4) (N := 18) hx hb hts (by decide +kernel) hown hK hP b8 (wld_o ct ad G M hc8 hk8 (by decide)) rfl 11 (by decide) (hts (.fieldLink RX7 129 "VideoSuite$Picture" "number" "I") (by decide +kernel)) (fun _ h9 => h9) rfl dX7_leastLong_35 ?_
        obtain ⟨x15, ex15, hF⟩ := ltt_some hF
        refine lv_topi (fun zx15 ezx15 => ?_)
        obtain rfl : x15 = zx15 := ex15.trans ezx15.symm
        refine lv_aloadq_n hx hb dX7_leastLong_38 rfl (lv_at hl 1 rfl) ?_
        obtain ⟨b16, ho16, hc16, hk16, hF⟩ := dr_some hF
        refine W_st (st' := [.ref (ad b16), .int x15]) (by rw [va_some ho16]) ?_
        refine va_get (D := D) (ci := 4) (v := .int (M.1 b16 11)) (C := RX4) (T := TX4) (N := 18) hx hb hts (by decide +kernel) hown hK hP b16 (wld_o ct ad G M hc16 hk16 (by decide)) rfl 11 (by decide) (hts (.fieldLink RX7 129 "VideoSuite$Picture" "number" "I") (by decide +kernel)) (fun _ h9 => h9) rfl dX7_leastLong_39 ?_
        obtain ⟨x17, ex17, hF⟩ := ltt_some hF
        refine lv_topi (fun zx17 ezx17 => ?_)
        obtain rfl : x17 = zx17 := ex17.trans ezx17.symm
        obtain ⟨y18, hy18, hF⟩ := bnd_some hF
        have J18 : ∀ (H : Heap) (locs : List Loc) (ls : Array Slot), va_P D classes (wld ct ad G M) H → va_D A (wld ct ad G M) → va_S A s.heap H locs → lv_has ls 3 [(2, .int s2.2), (1, va_re ad y18), (0, .ref (ad a))] → W p l e (headSpec wsX7_leastLong ({ frames := 0, cells := 0, slots := 0, locals := 0 })).room s m ([.ref (ad a)] : List Value).toArray below meth c H locs 0 0 (MQ below (va_Qe ad (fun (q : Option Nat) (_ : Unit) => q = y.2) (fun _ t => kE D ct ad G A y.1 t) A) ([.ref (ad a)] : List Value).toArray s 0 0 A) (F0 m 52 ls []) := by
          intro H locs ls hP hD hS hl
          obtain rfl := Option.some.inj hF
          exact J13 _ _ _ hP hD hS (lv_sub hl [0, 1, 2] rfl)
        clear hF
        have hF := hy18
        clear hy18
        refine lv_icmp_ge (tgt := 52) hx hb dX7_leastLong_42 (by decide) (fun c19 => ?_) (fun c19 => ?_)
        · rw [if_pos c19] at hF
          obtain rfl := Option.some.inj hF
          exact J18 _ _ _ hP hD hS (lv_sub hl [0, 1, 2] rfl)
        · rw [if_neg c19] at hF
          refine lv_aload_n hx hb dX7_leastLong_45 rfl (lv_at hl 2 rfl) ?_
          refine va_get (D := D) (ci := 7) (v := va_re ad (M.2 a 2)) (C := RX7) (T := TX7) (N := 17) hx hb hts (by decide +kernel) hown hK hP a (wld_o ct ad G M hc hk (by decide)) rfl 2 (by decide) (hts (.fieldLink RX7 17 "VideoSuite$Store" "kept" "[LVideoSuite$Picture;") (by decide +kernel)) (fun _ h9 => h9) rfl dX7_leastLong_46 ?_
          refine lv_iload_n hx hb dX7_leastLong_49 rfl (lv_at hl 0 rfl) ?_
          refine W_st (st' := [.int s2.2, .ref (ad b7)]) (by rw [va_some ho7]) ?_
          obtain ⟨hvc, hF⟩ := chk_some hF
          refine ld_q hx hb hK hP hc7 hk7 hvc dX7_leastLong_50 ?_
          refine lv_astoreq_n (lv' := [(1, va_re ad (M.2 b7 s2.2.toNatClampNeg)), (2, .int s2.2), (0, .ref (ad a))]) hx hb dX7_leastLong_51 rfl hl (by decide) rfl (fun ls hl => ?_)
          obtain rfl := Option.some.inj hF
          exact J18 _ _ _ hP hD hS (lv_sub hl [1, 0, 2] rfl)
theorem dX7_leastRefs_0 : decode cX7_leastRefs 0 = .ok (.aload_n 0, 1) := by decide +kernel
theorem dX7_leastRefs_1 : decode cX7_leastRefs 1 = .ok (.iconst 5, 1) := by decide +kernel
theorem dX7_leastRefs_2 : decode cX7_leastRefs 2 = .ok (.iaload, 1) := by decide +kernel
theorem dX7_leastRefs_3 : decode cX7_leastRefs 3 = .ok (.iconst 1, 1) := by decide +kernel
theorem dX7_leastRefs_4 : decode cX7_leastRefs 4 = .ok (.if_icmp .ge 7, 3) := by decide +kernel
theorem dX7_leastRefs_7 : decode cX7_leastRefs 7 = .ok (.iconst 1, 1) := by decide +kernel
theorem dX7_leastRefs_8 : decode cX7_leastRefs 8 = .ok (.goto 6, 3) := by decide +kernel
theorem dX7_leastRefs_11 : decode cX7_leastRefs 11 = .ok (.aload_n 0, 1) := by decide +kernel
theorem dX7_leastRefs_12 : decode cX7_leastRefs 12 = .ok (.iconst 5, 1) := by decide +kernel
theorem dX7_leastRefs_13 : decode cX7_leastRefs 13 = .ok (.iaload, 1) := by decide +kernel
theorem dX7_leastRefs_14 : decode cX7_leastRefs 14 = .ok (.ireturn, 1) := by decide +kernel
def FX7_leastRefs (G : GG) (M : DD) (p0 : Option Nat) : Option (DD × Int32) :=
  dr G 13 p0 fun b1 =>
  chk (¬ (((5 : Int32)) < 0 ∨ G.2.2 b1 ≤ ((5 : Int32)).toNatClampNeg)) <|
  ltt (M.1 b1 ((5 : Int32)).toNatClampNeg) fun x2 =>
  bnd (if ((1 : Int32)) ≤ x2 then (chk (¬ (((5 : Int32)) < 0 ∨ G.2.2 b1 ≤ ((5 : Int32)).toNatClampNeg)) <|
  ltt (M.1 b1 ((5 : Int32)).toNatClampNeg) fun x5 =>
  some (x5)) else
  (some ((1 : Int32)))) fun (y3 : Int32) =>
  some (M, y3)
set_option maxHeartbeats 4000000 in
set_option maxRecDepth 100000 in
theorem kX7_leastRefs (l : Launch) (D : va_G) (ct : CT) (ad : Nat → Nat) (Z : Nat → Nat) (G : GG) (M : DD) (sz : Nat) (p0 : Option Nat) (y : DD × Int32) (hF : FX7_leastRefs G M p0 = some y) : Met l yX7_leastRefs wsX7_leastRefs ({ frames := 0, cells := 0, slots := 0, locals := 0 }) (va_Pc [va_re ad p0] (kB D ct ad Z G M sz)) (va_Qi (fun (q : Int32) (_ : Unit) => q = y.2) (fun _ t => kE D ct ad G (wA ad G sz) y.1 t) (wA ad G sz)) 0 0 (wA ad G sz) := by
  refine Met.ofW (cc := cX7_leastRefs) (maxL := 1) (ret := (some .int)) (by decide) rfl ?_
  intro p e s m args below meth c s₁ B hml hv
  obtain ⟨rfl, hsz, hP, hK, hD0, hZ, hN⟩ := hv
  have hx := B.exec
  have hb := B.bytes
  have hr := B.returns
  have hts := atoms_spec (ws := wsX7_leastRefs) B.pre
  have hown : s.vm.findClass RX7 = some m.cls := findClass_of_methodNamed B.named
  have hlocks := B.notSynchronized
  subst hsz
  have hD := wD_self (sz := s.heap.size) hD0
  have hA9 : ∀ q, s.heap.size ≤ q → wA ad G s.heap.size q := fun q h => Or.inr h
  generalize hAe : wA ad G s.heap.size = A at hD hA9 hZ ⊢
  have hS : va_S A s.heap s.heap [] := va_S.rf
  have hl := lv_entry ([va_re ad p0]) (n := 1) (by cases p0 <;> exact Nat.le_of_ble_eq_true rfl)
  rw [lg_entry_eq]
  generalize (lg_sl ([va_re ad p0]) ++ List.replicate (1 - (lg_sl ([va_re ad p0])).length) Slot.unset).toArray = ls at hl ⊢
  have hl : lv_has ls 1 [(0, va_re ad p0)] := by have e9 : lv_args 0 [va_re ad p0] = [(0, va_re ad p0)] := (by cases p0 <;> rfl); rw [e9] at hl; exact hl
  unfold FX7_leastRefs at hF
  refine lv_aloadq_n hx hb dX7_leastRefs_0 rfl (lv_at hl 0 rfl) ?_
  refine lv_iconst (v := (5 : Int32)) hx hb dX7_leastRefs_1 (by decide) ?_
  obtain ⟨b1, ho1, hc1, hk1, hF⟩ := dr_some hF
  refine W_st (st' := [.int (5 : Int32), .ref (ad b1)]) (by rw [va_some ho1]) ?_
  obtain ⟨hvc, hF⟩ := chk_some hF
  refine va_iald hx hb hK hP b1 1 (wld_i ct ad G M hc1 hk1) rfl hvc dX7_leastRefs_2 ?_
  obtain ⟨x2, ex2, hF⟩ := ltt_some hF
  refine lv_topi (fun zx2 ezx2 => ?_)
  obtain rfl : x2 = zx2 := ex2.trans ezx2.symm
  refine lv_iconst (v := (1 : Int32)) hx hb dX7_leastRefs_3 (by decide) ?_
  obtain ⟨y3, hy3, hF⟩ := bnd_some hF
  have J3 : ∀ (H : Heap) (locs : List Loc) (ls : Array Slot), va_P D classes (wld ct ad G M) H → va_D A (wld ct ad G M) → va_S A s.heap H locs → lv_has ls 1 [(0, va_re ad p0)] → W p l e (headSpec wsX7_leastRefs ({ frames := 0, cells := 0, slots := 0, locals := 0 })).room s m ([va_re ad p0] : List Value).toArray below meth c H locs 0 0 (MQ below (va_Qi (fun (q : Int32) (_ : Unit) => q = y.2) (fun _ t => kE D ct ad G A y.1 t) A) ([va_re ad p0] : List Value).toArray s 0 0 A) (F0 m 14 ls [.int y3]) := by
    intro H locs ls hP hD hS hl
    obtain rfl := Option.some.inj hF
    exact W.iret (v := y3) hx hb hr (fun t ht hW => ⟨⟨_, (), rfl, rfl, ⟨by rw [ht]; exact hP, va_K.moved hW.alike hK, hD⟩⟩, hS.F ht⟩) hS.2.2 dX7_leastRefs_14
  clear hF
  have hF := hy3
  clear hy3
  refine lv_icmp_ge (tgt := 11) hx hb dX7_leastRefs_4 (by decide) (fun c4 => ?_) (fun c4 => ?_)
  · rw [if_pos c4] at hF
    refine lv_aloadq_n hx hb dX7_leastRefs_11 rfl (lv_at hl 0 rfl) ?_
    refine lv_iconst (v := (5 : Int32)) hx hb dX7_leastRefs_12 (by decide) ?_
    refine W_st (st' := [.int (5 : Int32), .ref (ad b1)]) (by rw [va_some ho1]) ?_
    obtain ⟨hvc, hF⟩ := chk_some hF
    refine va_iald hx hb hK hP b1 1 (wld_i ct ad G M hc1 hk1) rfl hvc dX7_leastRefs_13 ?_
    obtain ⟨x5, ex5, hF⟩ := ltt_some hF
    refine lv_topi (fun zx5 ezx5 => ?_)
    obtain rfl : x5 = zx5 := ex5.trans ezx5.symm
    obtain rfl := Option.some.inj hF
    exact J3 _ _ _ hP hD hS (lv_sub hl [0] rfl)
  · rw [if_neg c4] at hF
    refine lv_iconst (v := (1 : Int32)) hx hb dX7_leastRefs_7 (by decide) ?_
    refine lv_goto (tgt := 14) hx hb dX7_leastRefs_8 (by decide) ?_
    obtain rfl := Option.some.inj hF
    exact J3 _ _ _ hP hD hS (lv_sub hl [0] rfl)
theorem ggX7_leastShort_X7_frameNumber : GoodIn wsX7_leastShort wsX7_frameNumber := goodIn_r _ [7, 8, 26, 27, 28, 29, 30, 31, 32, 33, 34, 35, 36, 37, 38, 39, 40, 41, 42, 43] (by decide +kernel) (by decide +kernel)
set_option maxRecDepth 20000 in
theorem gX7_leastShort_X7_frameNumber : GoodIn wsX7_leastShort (va_wsS RX7 134 yX7_frameNumber wsX7_frameNumber) := goodIn_app (goodIn_of _ (by decide +kernel)) ggX7_leastShort_X7_frameNumber
theorem dX7_leastShort_0 : decode cX7_leastShort 0 = .ok (.aconst_null, 1) := by decide +kernel
theorem dX7_leastShort_1 : decode cX7_leastShort 1 = .ok (.astore_n 3, 1) := by decide +kernel
theorem dX7_leastShort_2 : decode cX7_leastShort 2 = .ok (.iconst 0, 1) := by decide +kernel
theorem dX7_leastShort_3 : decode cX7_leastShort 3 = .ok (.istore 4, 2) := by decide +kernel
theorem dX7_leastShort_5 : decode cX7_leastShort 5 = .ok (.iload 4, 2) := by decide +kernel
theorem dX7_leastShort_7 : decode cX7_leastShort 7 = .ok (.aload_n 0, 1) := by decide +kernel
theorem dX7_leastShort_8 : decode cX7_leastShort 8 = .ok (.getfield 29, 3) := by decide +kernel
theorem dX7_leastShort_11 : decode cX7_leastShort 11 = .ok (.if_icmp .ge 50, 3) := by decide +kernel
theorem dX7_leastShort_14 : decode cX7_leastShort 14 = .ok (.aload_n 0, 1) := by decide +kernel
theorem dX7_leastShort_15 : decode cX7_leastShort 15 = .ok (.getfield 17, 3) := by decide +kernel
theorem dX7_leastShort_18 : decode cX7_leastShort 18 = .ok (.iload 4, 2) := by decide +kernel
theorem dX7_leastShort_20 : decode cX7_leastShort 20 = .ok (.aaload, 1) := by decide +kernel
theorem dX7_leastShort_21 : decode cX7_leastShort 21 = .ok (.astore 5, 2) := by decide +kernel
theorem dX7_leastShort_23 : decode cX7_leastShort 23 = .ok (.aload 5, 2) := by decide +kernel
theorem dX7_leastShort_25 : decode cX7_leastShort 25 = .ok (.getfield 123, 3) := by decide +kernel
theorem dX7_leastShort_28 : decode cX7_leastShort 28 = .ok (.iconst 1, 1) := by decide +kernel
theorem dX7_leastShort_29 : decode cX7_leastShort 29 = .ok (.if_icmp .ne 26, 3) := by decide +kernel
theorem dX7_leastShort_32 : decode cX7_leastShort 32 = .ok (.aload_n 3, 1) := by decide +kernel
theorem dX7_leastShort_33 : decode cX7_leastShort 33 = .ok (.ifnull 19, 3) := by decide +kernel
theorem dX7_leastShort_36 : decode cX7_leastShort 36 = .ok (.aload 5, 2) := by decide +kernel
theorem dX7_leastShort_38 : decode cX7_leastShort 38 = .ok (.iload_n 1, 1) := by decide +kernel
theorem dX7_leastShort_39 : decode cX7_leastShort 39 = .ok (.iload_n 2, 1) := by decide +kernel
theorem dX7_leastShort_40 : decode cX7_leastShort 40 = .ok (.invokestatic 134, 3) := by decide +kernel
theorem dX7_leastShort_43 : decode cX7_leastShort 43 = .ok (.aload_n 3, 1) := by decide +kernel
theorem dX7_leastShort_44 : decode cX7_leastShort 44 = .ok (.iload_n 1, 1) := by decide +kernel
theorem dX7_leastShort_45 : decode cX7_leastShort 45 = .ok (.iload_n 2, 1) := by decide +kernel
theorem dX7_leastShort_46 : decode cX7_leastShort 46 = .ok (.invokestatic 134, 3) := by decide +kernel
theorem dX7_leastShort_49 : decode cX7_leastShort 49 = .ok (.if_icmp .ge 6, 3) := by decide +kernel
theorem dX7_leastShort_52 : decode cX7_leastShort 52 = .ok (.aload 5, 2) := by decide +kernel
theorem dX7_leastShort_54 : decode cX7_leastShort 54 = .ok (.astore_n 3, 1) := by decide +kernel
theorem dX7_leastShort_55 : decode cX7_leastShort 55 = .ok (.iinc 4 1, 3) := by decide +kernel
theorem dX7_leastShort_58 : decode cX7_leastShort 58 = .ok (.goto (-53), 3) := by decide +kernel
theorem dX7_leastShort_61 : decode cX7_leastShort 61 = .ok (.aload_n 3, 1) := by decide +kernel
theorem dX7_leastShort_62 : decode cX7_leastShort 62 = .ok (.areturn, 1) := by decide +kernel
def FX7_leastShort (G : GG) (M : DD) (a : Nat) (p0 : Int32) (p1 : Int32) : Option (DD × Option Nat) :=
  bnd (itr (fun (s2 : Option Nat × Int32 × DD) => ((ltt (s2.2.2.1 a 3) fun x5 =>
  if x5 ≤ s2.2.1 then (some (.inr (s2.1, s2.2.1, s2.2.2))) else
  (dr G 14 ((s2.2.2.2 a 2)) fun b7 =>
  chk (¬ (s2.2.1 < 0 ∨ G.2.2 b7 ≤ s2.2.1.toNatClampNeg)) <|
  dr G 4 ((s2.2.2.2 b7 s2.2.1.toNatClampNeg)) fun b8 =>
  ltt (s2.2.2.1 b8 10) fun x9 =>
  bnd (if x9 = ((1 : Int32)) then (bnd (if s2.1 = none then (some ((s2.2.2.2 b7 s2.2.1.toNatClampNeg), s2.2.2)) else
  (bnd (FX7_frameNumber G s2.2.2 ((s2.2.2.2 b7 s2.2.1.toNatClampNeg)) p0 p1) fun y15 =>
  bnd (FX7_frameNumber G y15.1 s2.1 p0 p1) fun y16 =>
  bnd (if y16.2 ≤ y15.2 then (some (s2.1)) else
  (some ((s2.2.2.2 b7 s2.2.1.toNatClampNeg)))) fun (y17 : Option Nat) =>
  some (y17, y16.1))) fun (y13 : Option Nat × DD) =>
  some (y13.1, y13.2)) else
  (some (s2.1, s2.2.2))) fun (y10 : Option Nat × DD) =>
  ltt (s2.2.1 + (1 : Int32)) fun x11 =>
  some (.inl (y10.1, x11, y10.2)))) : Option ((Option Nat × Int32 × DD) ⊕ (Option Nat × Int32 × DD)))) 1000000 (none, (0 : Int32), M)) fun (y1 : Option Nat × Int32 × DD) =>
  some (y1.2.2, y1.1)
set_option maxHeartbeats 4000000 in
set_option maxRecDepth 100000 in
theorem kX7_leastShort (l : Launch) (D : va_G) (ct : CT) (ad : Nat → Nat) (Z : Nat → Nat) (G : GG) (M : DD) (sz : Nat) (a : Nat) (p0 : Int32) (p1 : Int32) (y : DD × Option Nat) (hc : a < G.1) (hk : G.2.1 a = 7) (hF : FX7_leastShort G M a p0 p1 = some y) : Met l yX7_leastShort wsX7_leastShort ({ frames := 1, cells := 0, slots := 0, locals := 22 }) (va_Pc [.ref (ad a), .int p0, .int p1] (kB D ct ad Z G M sz)) (va_Qe ad (fun (q : Option Nat) (_ : Unit) => q = y.2) (fun _ t => kE D ct ad G (wA ad G sz) y.1 t) (wA ad G sz)) 0 0 (wA ad G sz) := by
  refine Met.ofW (cc := cX7_leastShort) (maxL := 6) (ret := (some (.object "VideoSuite$Picture"))) (by decide) rfl ?_
  intro p e s m args below meth c s₁ B hml hv
  obtain ⟨rfl, hsz, hP, hK, hD0, hZ, hN⟩ := hv
  have hx := B.exec
  have hb := B.bytes
  have hr := B.returns
  have hts := atoms_spec (ws := wsX7_leastShort) B.pre
  have hown : s.vm.findClass RX7 = some m.cls := findClass_of_methodNamed B.named
  have hlocks := B.notSynchronized
  subst hsz
  have hD := wD_self (sz := s.heap.size) hD0
  have hA9 : ∀ q, s.heap.size ≤ q → wA ad G s.heap.size q := fun q h => Or.inr h
  generalize hAe : wA ad G s.heap.size = A at hD hA9 hZ ⊢
  have hS : va_S A s.heap s.heap [] := va_S.rf
  have hl := lv_entry ([.ref (ad a), .int p0, .int p1]) (n := 6) (Nat.le_of_ble_eq_true rfl)
  rw [lg_entry_eq]
  generalize (lg_sl ([.ref (ad a), .int p0, .int p1]) ++ List.replicate (6 - (lg_sl ([.ref (ad a), .int p0, .int p1])).length) Slot.unset).toArray = ls at hl ⊢
  have hl : lv_has ls 6 [(0, .ref (ad a)), (1, .int p0), (2, .int p1)] := hl
  unfold FX7_leastShort at hF
  refine lv_nullq (ad := ad) hx hb dX7_leastShort_0 ?_
  refine lv_astoreq_n (lv' := [(3, va_re ad none), (0, .ref (ad a)), (1, .int p0), (2, .int p1)]) hx hb dX7_leastShort_1 rfl hl (by decide) rfl (fun ls hl => ?_)
  refine lv_iconst (v := (0 : Int32)) hx hb dX7_leastShort_2 (by decide) ?_
  refine lv_istore (lv' := [(4, .int (0 : Int32)), (3, va_re ad none), (0, .ref (ad a)), (1, .int p0), (2, .int p1)]) hx hb dX7_leastShort_3 hl (by decide) (by generalize none = o9; cases o9 <;> rfl) (fun ls hl => ?_)
  obtain ⟨y1, hy1, hF⟩ := bnd_some hF
  have K1 : ∀ (H : Heap) (locs : List Loc) (ls : Array Slot), va_P D classes (wld ct ad G y1.2.2) H → va_D A (wld ct ad G y1.2.2) → va_S A s.heap H locs → lv_has ls 6 [(4, .int y1.2.1), (3, va_re ad y1.1), (0, .ref (ad a)), (1, .int p0), (2, .int p1)] → W p l e (headSpec wsX7_leastShort ({ frames := 1, cells := 0, slots := 0, locals := 22 })).room s m ([.ref (ad a), .int p0, .int p1] : List Value).toArray below meth c H locs 0 0 (MQ below (va_Qe ad (fun (q : Option Nat) (_ : Unit) => q = y.2) (fun _ t => kE D ct ad G A y.1 t) A) ([.ref (ad a), .int p0, .int p1] : List Value).toArray s 0 0 A) (F0 m 61 ls []) := by
    intro H locs ls hP hD hS hl
    refine lv_aloadq_n hx hb dX7_leastShort_61 rfl (lv_at hl 1 rfl) ?_
    obtain rfl := Option.some.inj hF
    exact W.aret (v := va_re ad y1.1) hx hb hr (Or.inl ⟨_, rfl⟩) (va_re_or ad y1.1) (fun t ht hW => ⟨⟨y1.1, (), rfl, rfl, ⟨by rw [ht]; exact hP, va_K.moved hW.alike hK, hD⟩⟩, hS.F ht⟩) hS.2.2 dX7_leastShort_62
  clear hF
  refine itr_rule (fun (s2 : Option Nat × Int32 × DD) => ∀ (H : Heap) (locs : List Loc) (ls : Array Slot), va_P D classes (wld ct ad G s2.2.2) H → va_D A (wld ct ad G s2.2.2) → va_S A s.heap H locs → lv_has ls 6 [(4, .int s2.2.1), (3, va_re ad s2.1), (0, .ref (ad a)), (1, .int p0), (2, .int p1)] → W p l e (headSpec wsX7_leastShort ({ frames := 1, cells := 0, slots := 0, locals := 22 })).room s m ([.ref (ad a), .int p0, .int p1] : List Value).toArray below meth c H locs 0 0 (MQ below (va_Qe ad (fun (q : Option Nat) (_ : Unit) => q = y.2) (fun _ t => kE D ct ad G A y.1 t) A) ([.ref (ad a), .int p0, .int p1] : List Value).toArray s 0 0 A) (F0 m 5 ls [])) ?_ _ _ hy1 _ _ _ hP hD hS (lv_sub hl [0, 1, 2, 3, 4] rfl)
  rintro s2 ⟨z4, hF, hwz4⟩ H locs ls hP hD hS hl
  try dsimp only at hF
  refine lv_iload hx hb dX7_leastShort_5 (lv_at hl 0 rfl) ?_
  refine lv_aload_n hx hb dX7_leastShort_7 rfl (lv_at hl 2 rfl) ?_
  refine va_get (D := D) (ci := 7) (v := .int (s2.2.2.1 a 3)) (C := RX7) (T := TX7) (N := 17) hx hb hts (by decide +kernel) hown hK hP a (wld_o ct ad G s2.2.2 hc hk (by decide)) rfl 3 (by decide) (hts (.fieldLink RX7 29 "VideoSuite$Store" "count" "I") (by decide +kernel)) (fun _ h9 => h9) rfl dX7_leastShort_8 ?_
  obtain ⟨x5, ex5, hF⟩ := ltt_some hF
  refine lv_topi (fun zx5 ezx5 => ?_)
  obtain rfl : x5 = zx5 := ex5.trans ezx5.symm
  refine lv_icmp_ge (tgt := 61) hx hb dX7_leastShort_11 (by decide) (fun c6 => ?_) (fun c6 => ?_)
  · rw [if_pos c6] at hF
    obtain rfl := Option.some.inj hF
    subst hwz4
    exact K1 _ _ _ hP hD hS (lv_sub hl [0, 1, 2, 3, 4] rfl)
  · rw [if_neg c6] at hF
    refine lv_aload_n hx hb dX7_leastShort_14 rfl (lv_at hl 2 rfl) ?_
    refine va_get (D := D) (ci := 7) (v := va_re ad (s2.2.2.2 a 2)) (C := RX7) (T := TX7) (N := 17) hx hb hts (by decide +kernel) hown hK hP a (wld_o ct ad G s2.2.2 hc hk (by decide)) rfl 2 (by decide) (hts (.fieldLink RX7 17 "VideoSuite$Store" "kept" "[LVideoSuite$Picture;") (by decide +kernel)) (fun _ h9 => h9) rfl dX7_leastShort_15 ?_
    refine lv_iload hx hb dX7_leastShort_18 (lv_at hl 0 rfl) ?_
    obtain ⟨b7, ho7, hc7, hk7, hF⟩ := dr_some hF
    refine W_st (st' := [.int s2.2.1, .ref (ad b7)]) (by rw [va_some ho7]) ?_
    obtain ⟨hvc, hF⟩ := chk_some hF
    refine ld_q hx hb hK hP hc7 hk7 hvc dX7_leastShort_20 ?_
    refine lv_astoreq (lv' := [(5, va_re ad (s2.2.2.2 b7 s2.2.1.toNatClampNeg)), (4, .int s2.2.1), (3, va_re ad s2.1), (0, .ref (ad a)), (1, .int p0), (2, .int p1)]) hx hb dX7_leastShort_21 hl (by decide) rfl (fun ls hl => ?_)
    refine lv_aloadq hx hb dX7_leastShort_23 (lv_at hl 0 rfl) ?_
    obtain ⟨b8, ho8, hc8, hk8, hF⟩ := dr_some hF
    refine W_st (st' := [.ref (ad b8)]) (by rw [va_some ho8]) ?_
    refine va_get (D := D) (ci := 4) (v := .int (s2.2.2.1 b8 10)) (C := RX4) (T := TX4) (N := 18) hx hb hts (by decide +kernel) hown hK hP b8 (wld_o ct ad G s2.2.2 hc8 hk8 (by decide)) rfl 10 (by decide) (hts (.fieldLink RX7 123 "VideoSuite$Picture" "use" "I") (by decide +kernel)) (fun _ h9 => h9) rfl dX7_leastShort_25 ?_
    obtain ⟨x9, ex9, hF⟩ := ltt_some hF
    refine lv_topi (fun zx9 ezx9 => ?_)
    obtain rfl : x9 = zx9 := ex9.trans ezx9.symm
    refine lv_iconst (v := (1 : Int32)) hx hb dX7_leastShort_28 (by decide) ?_
    obtain ⟨y10, hy10, hF⟩ := bnd_some hF
    have J10 : ∀ (H : Heap) (locs : List Loc) (ls : Array Slot), va_P D classes (wld ct ad G y10.2) H → va_D A (wld ct ad G y10.2) → va_S A s.heap H locs → lv_has ls 6 [(5, va_re ad (s2.2.2.2 b7 s2.2.1.toNatClampNeg)), (4, .int s2.2.1), (3, va_re ad y10.1), (0, .ref (ad a)), (1, .int p0), (2, .int p1)] → W p l e (headSpec wsX7_leastShort ({ frames := 1, cells := 0, slots := 0, locals := 22 })).room s m ([.ref (ad a), .int p0, .int p1] : List Value).toArray below meth c H locs 0 0 (MQ below (va_Qe ad (fun (q : Option Nat) (_ : Unit) => q = y.2) (fun _ t => kE D ct ad G A y.1 t) A) ([.ref (ad a), .int p0, .int p1] : List Value).toArray s 0 0 A) (F0 m 55 ls []) := by
      intro H locs ls hP hD hS hl
      obtain ⟨x11, ex11, hF⟩ := ltt_some hF
      refine lv_iinc (v := x11) (lv' := [(4, .int x11), (5, va_re ad (s2.2.2.2 b7 s2.2.1.toNatClampNeg)), (3, va_re ad y10.1), (0, .ref (ad a)), (1, .int p0), (2, .int p1)]) hx hb dX7_leastShort_55 hl (k := 1) rfl (by rw [ex11]; rfl) (by decide) (by generalize y10.1 = o9; cases o9 <;> rfl) (fun ls hl => ?_)
      refine lv_goto (tgt := 5) hx hb dX7_leastShort_58 (by decide) ?_
      obtain rfl := Option.some.inj hF
      exact hwz4 _ _ _ hP hD hS (lv_sub hl [0, 2, 3, 4, 5] rfl)
    clear hF
    have hF := hy10
    clear hy10
    refine lv_icmp_ne (tgt := 55) hx hb dX7_leastShort_29 (by decide) (fun c12 => ?_) (fun c12 => ?_)
    · rw [if_neg c12] at hF
      obtain rfl := Option.some.inj hF
      exact J10 _ _ _ hP hD hS (lv_sub hl [0, 1, 2, 3, 4, 5] rfl)
    · rw [if_pos c12] at hF
      refine lv_aloadq_n hx hb dX7_leastShort_32 rfl (lv_at hl 2 rfl) ?_
      obtain ⟨y13, hy13, hF⟩ := bnd_some hF
      have J13 : ∀ (H : Heap) (locs : List Loc) (ls : Array Slot), va_P D classes (wld ct ad G y13.2) H → va_D A (wld ct ad G y13.2) → va_S A s.heap H locs → lv_has ls 6 [(5, va_re ad (s2.2.2.2 b7 s2.2.1.toNatClampNeg)), (4, .int s2.2.1), (3, va_re ad y13.1), (0, .ref (ad a)), (1, .int p0), (2, .int p1)] → W p l e (headSpec wsX7_leastShort ({ frames := 1, cells := 0, slots := 0, locals := 22 })).room s m ([.ref (ad a), .int p0, .int p1] : List Value).toArray below meth c H locs 0 0 (MQ below (va_Qe ad (fun (q : Option Nat) (_ : Unit) => q = y.2) (fun _ t => kE D ct ad G A y.1 t) A) ([.ref (ad a), .int p0, .int p1] : List Value).toArray s 0 0 A) (F0 m 55 ls []) := by
        intro H locs ls hP hD hS hl
        obtain rfl := Option.some.inj hF
        exact J10 _ _ _ hP hD hS (lv_sub hl [0, 1, 2, 3, 4, 5] rfl)
      clear hF
      have hF := hy13
      clear hy13
      refine lv_ifnullq (tgt := 52) hx hb dX7_leastShort_33 (by decide) (fun c14 => ?_) (fun c14 => ?_)
      · rw [if_pos c14] at hF
        refine lv_aloadq hx hb dX7_leastShort_52 (lv_at hl 0 rfl) ?_
        refine lv_astoreq_n (lv' := [(3, va_re ad (s2.2.2.2 b7 s2.2.1.toNatClampNeg)), (5, va_re ad (s2.2.2.2 b7 s2.2.1.toNatClampNeg)), (4, .int s2.2.1), (0, .ref (ad a)), (1, .int p0), (2, .int p1)]) hx hb dX7_leastShort_54 rfl hl (by decide) rfl (fun ls hl => ?_)
        obtain rfl := Option.some.inj hF
        exact J13 _ _ _ hP hD hS (lv_sub hl [1, 2, 0, 3, 4, 5] rfl)
      · rw [if_neg c14] at hF
        refine lv_aloadq hx hb dX7_leastShort_36 (lv_at hl 0 rfl) ?_
        refine lv_iload_n hx hb dX7_leastShort_38 rfl (lv_at hl 4 rfl) ?_
        refine lv_iload_n hx hb dX7_leastShort_39 rfl (lv_at hl 5 rfl) ?_
        obtain ⟨y15, hy15, hF⟩ := bnd_some hF
        have hf9 := wA_in hD hA9 hS
        refine va_calli (va_runS (As := [va_re ad (s2.2.2.2 b7 s2.2.1.toNatClampNeg), .int p0, .int p1]) (rest := []) ⟨hx, hb, hml, hown, hts⟩ (kX7_frameNumber l D ct ad Z G s2.2.2 H.size ((s2.2.2.2 b7 s2.2.1.toNatClampNeg)) p0 p1 y15 hy15) (va_cwS 3 hts gX7_leastShort_X7_frameNumber rfl rfl rfl (by decide +kernel) ⟨Nat.le_of_ble_eq_true rfl, Nat.le_of_ble_eq_true rfl⟩) ⟨fun a U g mk q => by obtain ⟨q0, q1, qP, qK, qD, qZ, qN⟩ := q; exact ⟨q0, q1, qP, va_K.moved (u := U) (U := U.calling g mk a) (Vm.Alike.refl U.vm) qK, qD, sF.moved (u := U) (U := U.calling g mk a) (Vm.Alike.refl U.vm) qZ, nF.same rfl qN⟩, fun U hU hW => ⟨rfl, by rw [hU], by rw [hU]; exact hP, va_K.moved hW.alike hK, hD.weaken (fun _ _ _ _ => trivial), by rw [hU]; exact ((hZ.kept hS.2.1).narrow hf9).moved hW.alike, hN.warm hW⟩⟩ rfl rfl hl.1 rfl (lv_room (Nat.le_of_ble_eq_true rfl)) dX7_leastShort_40 ⟨(Nat.zero_le _), (Nat.zero_le _)⟩) hS (fun q _ h => hf9 q h) hf9 (fun r u t H locs ht hvm hw hB hz1 hk1 hS => ?_)
        obtain ⟨hP, hK9, hD9⟩ := hB
        rw [ht] at hP
        try dsimp only at hw
        subst hw
        have hD := hD9.weaken (fun _ q _ h => hf9 q.1 h)
        refine lv_aloadq_n hx hb dX7_leastShort_43 rfl (lv_at hl 2 rfl) ?_
        refine lv_iload_n hx hb dX7_leastShort_44 rfl (lv_at hl 4 rfl) ?_
        refine lv_iload_n hx hb dX7_leastShort_45 rfl (lv_at hl 5 rfl) ?_
        obtain ⟨y16, hy16, hF⟩ := bnd_some hF
        have hf9 := wA_in hD hA9 hS
        refine va_calli (va_runS (As := [va_re ad s2.1, .int p0, .int p1]) (rest := [.int y15.2]) ⟨hx, hb, hml, hown, hts⟩ (kX7_frameNumber l D ct ad Z G y15.1 H.size s2.1 p0 p1 y16 hy16) (va_cwS 3 hts gX7_leastShort_X7_frameNumber rfl rfl rfl (by decide +kernel) ⟨Nat.le_of_ble_eq_true rfl, Nat.le_of_ble_eq_true rfl⟩) ⟨fun a U g mk q => by obtain ⟨q0, q1, qP, qK, qD, qZ, qN⟩ := q; exact ⟨q0, q1, qP, va_K.moved (u := U) (U := U.calling g mk a) (Vm.Alike.refl U.vm) qK, qD, sF.moved (u := U) (U := U.calling g mk a) (Vm.Alike.refl U.vm) qZ, nF.same rfl qN⟩, fun U hU hW => ⟨rfl, by rw [hU], by rw [hU]; exact hP, va_K.moved hW.alike hK, hD.weaken (fun _ _ _ _ => trivial), by rw [hU]; exact ((hZ.kept hS.2.1).narrow hf9).moved hW.alike, hN.warm hW⟩⟩ rfl rfl hl.1 rfl (lv_room (Nat.le_of_ble_eq_true rfl)) dX7_leastShort_46 ⟨(Nat.zero_le _), (Nat.zero_le _)⟩) hS (fun q _ h => hf9 q h) hf9 (fun r u t H locs ht hvm hw hB hz1 hk1 hS => ?_)
        obtain ⟨hP, hK9, hD9⟩ := hB
        rw [ht] at hP
        try dsimp only at hw
        subst hw
        have hD := hD9.weaken (fun _ q _ h => hf9 q.1 h)
        obtain ⟨y17, hy17, hF⟩ := bnd_some hF
        have J17 : ∀ (H : Heap) (locs : List Loc) (ls : Array Slot), va_P D classes (wld ct ad G y16.1) H → va_D A (wld ct ad G y16.1) → va_S A s.heap H locs → lv_has ls 6 [(5, va_re ad (s2.2.2.2 b7 s2.2.1.toNatClampNeg)), (4, .int s2.2.1), (3, va_re ad y17), (0, .ref (ad a)), (1, .int p0), (2, .int p1)] → W p l e (headSpec wsX7_leastShort ({ frames := 1, cells := 0, slots := 0, locals := 22 })).room s m ([.ref (ad a), .int p0, .int p1] : List Value).toArray below meth c H locs 0 0 (MQ below (va_Qe ad (fun (q : Option Nat) (_ : Unit) => q = y.2) (fun _ t => kE D ct ad G A y.1 t) A) ([.ref (ad a), .int p0, .int p1] : List Value).toArray s 0 0 A) (F0 m 55 ls []) := by
          intro H locs ls hP hD hS hl
          obtain rfl := Option.some.inj hF
          exact J13 _ _ _ hP hD hS (lv_sub hl [0, 1, 2, 3, 4, 5] rfl)
        clear hF
        have hF := hy17
        clear hy17
        refine lv_icmp_ge (tgt := 55) hx hb dX7_leastShort_49 (by decide) (fun c18 => ?_) (fun c18 => ?_)
        · rw [if_pos c18] at hF
          obtain rfl := Option.some.inj hF
          exact J17 _ _ _ hP hD hS (lv_sub hl [0, 1, 2, 3, 4, 5] rfl)
        · rw [if_neg c18] at hF
          refine lv_aloadq hx hb dX7_leastShort_52 (lv_at hl 0 rfl) ?_
          refine lv_astoreq_n (lv' := [(3, va_re ad (s2.2.2.2 b7 s2.2.1.toNatClampNeg)), (5, va_re ad (s2.2.2.2 b7 s2.2.1.toNatClampNeg)), (4, .int s2.2.1), (0, .ref (ad a)), (1, .int p0), (2, .int p1)]) hx hb dX7_leastShort_54 rfl hl (by decide) rfl (fun ls hl => ?_)
          obtain rfl := Option.some.inj hF
          exact J17 _ _ _ hP hD hS (lv_sub hl [1, 2, 0, 3, 4, 5] rfl)
theorem dX7_moveTo_0 : decode cX7_moveTo 0 = .ok (.iload_n 3, 1) := by decide +kernel
theorem dX7_moveTo_1 : decode cX7_moveTo 1 = .ok (.istore 5, 2) := by decide +kernel
theorem dX7_moveTo_3 : decode cX7_moveTo 3 = .ok (.iload 5, 2) := by decide +kernel
theorem dX7_moveTo_5 : decode cX7_moveTo 5 = .ok (.iload_n 2, 1) := by decide +kernel
theorem dX7_moveTo_6 : decode cX7_moveTo 6 = .ok (.if_icmp .le 23, 3) := by decide +kernel
theorem dX7_moveTo_9 : decode cX7_moveTo 9 = .ok (.aload_n 0, 1) := by decide +kernel
theorem dX7_moveTo_10 : decode cX7_moveTo 10 = .ok (.iload_n 1, 1) := by decide +kernel
theorem dX7_moveTo_11 : decode cX7_moveTo 11 = .ok (.iload 5, 2) := by decide +kernel
theorem dX7_moveTo_13 : decode cX7_moveTo 13 = .ok (.iadd, 1) := by decide +kernel
theorem dX7_moveTo_14 : decode cX7_moveTo 14 = .ok (.aload_n 0, 1) := by decide +kernel
theorem dX7_moveTo_15 : decode cX7_moveTo 15 = .ok (.iload_n 1, 1) := by decide +kernel
theorem dX7_moveTo_16 : decode cX7_moveTo 16 = .ok (.iload 5, 2) := by decide +kernel
theorem dX7_moveTo_18 : decode cX7_moveTo 18 = .ok (.iadd, 1) := by decide +kernel
theorem dX7_moveTo_19 : decode cX7_moveTo 19 = .ok (.iconst 1, 1) := by decide +kernel
theorem dX7_moveTo_20 : decode cX7_moveTo 20 = .ok (.isub, 1) := by decide +kernel
theorem dX7_moveTo_21 : decode cX7_moveTo 21 = .ok (.aaload, 1) := by decide +kernel
theorem dX7_moveTo_22 : decode cX7_moveTo 22 = .ok (.aastore, 1) := by decide +kernel
theorem dX7_moveTo_23 : decode cX7_moveTo 23 = .ok (.iinc 5 (-1), 3) := by decide +kernel
theorem dX7_moveTo_26 : decode cX7_moveTo 26 = .ok (.goto (-23), 3) := by decide +kernel
theorem dX7_moveTo_29 : decode cX7_moveTo 29 = .ok (.aload_n 0, 1) := by decide +kernel
theorem dX7_moveTo_30 : decode cX7_moveTo 30 = .ok (.iload_n 1, 1) := by decide +kernel
theorem dX7_moveTo_31 : decode cX7_moveTo 31 = .ok (.iload_n 2, 1) := by decide +kernel
theorem dX7_moveTo_32 : decode cX7_moveTo 32 = .ok (.iadd, 1) := by decide +kernel
theorem dX7_moveTo_33 : decode cX7_moveTo 33 = .ok (.aload 4, 2) := by decide +kernel
theorem dX7_moveTo_35 : decode cX7_moveTo 35 = .ok (.aastore, 1) := by decide +kernel
theorem dX7_moveTo_36 : decode cX7_moveTo 36 = .ok (.iload_n 2, 1) := by decide +kernel
theorem dX7_moveTo_37 : decode cX7_moveTo 37 = .ok (.iconst 1, 1) := by decide +kernel
theorem dX7_moveTo_38 : decode cX7_moveTo 38 = .ok (.iadd, 1) := by decide +kernel
theorem dX7_moveTo_39 : decode cX7_moveTo 39 = .ok (.istore 5, 2) := by decide +kernel
theorem dX7_moveTo_41 : decode cX7_moveTo 41 = .ok (.iload_n 2, 1) := by decide +kernel
theorem dX7_moveTo_42 : decode cX7_moveTo 42 = .ok (.iconst 1, 1) := by decide +kernel
theorem dX7_moveTo_43 : decode cX7_moveTo 43 = .ok (.iadd, 1) := by decide +kernel
theorem dX7_moveTo_44 : decode cX7_moveTo 44 = .ok (.istore 6, 2) := by decide +kernel
theorem dX7_moveTo_46 : decode cX7_moveTo 46 = .ok (.iload 6, 2) := by decide +kernel
theorem dX7_moveTo_48 : decode cX7_moveTo 48 = .ok (.iload_n 3, 1) := by decide +kernel
theorem dX7_moveTo_49 : decode cX7_moveTo 49 = .ok (.if_icmp .gt 35, 3) := by decide +kernel
theorem dX7_moveTo_52 : decode cX7_moveTo 52 = .ok (.aload_n 0, 1) := by decide +kernel
theorem dX7_moveTo_53 : decode cX7_moveTo 53 = .ok (.iload_n 1, 1) := by decide +kernel
theorem dX7_moveTo_54 : decode cX7_moveTo 54 = .ok (.iload 6, 2) := by decide +kernel
theorem dX7_moveTo_56 : decode cX7_moveTo 56 = .ok (.iadd, 1) := by decide +kernel
theorem dX7_moveTo_57 : decode cX7_moveTo 57 = .ok (.aaload, 1) := by decide +kernel
theorem dX7_moveTo_58 : decode cX7_moveTo 58 = .ok (.aload 4, 2) := by decide +kernel
theorem dX7_moveTo_60 : decode cX7_moveTo 60 = .ok (.if_acmp .eq 18, 3) := by decide +kernel
theorem dX7_moveTo_63 : decode cX7_moveTo 63 = .ok (.aload_n 0, 1) := by decide +kernel
theorem dX7_moveTo_64 : decode cX7_moveTo 64 = .ok (.iload_n 1, 1) := by decide +kernel
theorem dX7_moveTo_65 : decode cX7_moveTo 65 = .ok (.iload 5, 2) := by decide +kernel
theorem dX7_moveTo_67 : decode cX7_moveTo 67 = .ok (.iadd, 1) := by decide +kernel
theorem dX7_moveTo_68 : decode cX7_moveTo 68 = .ok (.aload_n 0, 1) := by decide +kernel
theorem dX7_moveTo_69 : decode cX7_moveTo 69 = .ok (.iload_n 1, 1) := by decide +kernel
theorem dX7_moveTo_70 : decode cX7_moveTo 70 = .ok (.iload 6, 2) := by decide +kernel
theorem dX7_moveTo_72 : decode cX7_moveTo 72 = .ok (.iadd, 1) := by decide +kernel
theorem dX7_moveTo_73 : decode cX7_moveTo 73 = .ok (.aaload, 1) := by decide +kernel
theorem dX7_moveTo_74 : decode cX7_moveTo 74 = .ok (.aastore, 1) := by decide +kernel
theorem dX7_moveTo_75 : decode cX7_moveTo 75 = .ok (.iinc 5 1, 3) := by decide +kernel
theorem dX7_moveTo_78 : decode cX7_moveTo 78 = .ok (.iinc 6 1, 3) := by decide +kernel
theorem dX7_moveTo_81 : decode cX7_moveTo 81 = .ok (.goto (-35), 3) := by decide +kernel
theorem dX7_moveTo_84 : decode cX7_moveTo 84 = .ok (.iload 5, 2) := by decide +kernel
theorem dX7_moveTo_86 : decode cX7_moveTo 86 = .ok (.istore 6, 2) := by decide +kernel
theorem dX7_moveTo_88 : decode cX7_moveTo 88 = .ok (.iload 6, 2) := by decide +kernel
theorem dX7_moveTo_90 : decode cX7_moveTo 90 = .ok (.iload_n 3, 1) := by decide +kernel
theorem dX7_moveTo_91 : decode cX7_moveTo 91 = .ok (.if_icmp .gt 16, 3) := by decide +kernel
theorem dX7_moveTo_94 : decode cX7_moveTo 94 = .ok (.aload_n 0, 1) := by decide +kernel
theorem dX7_moveTo_95 : decode cX7_moveTo 95 = .ok (.iload_n 1, 1) := by decide +kernel
theorem dX7_moveTo_96 : decode cX7_moveTo 96 = .ok (.iload 6, 2) := by decide +kernel
theorem dX7_moveTo_98 : decode cX7_moveTo 98 = .ok (.iadd, 1) := by decide +kernel
theorem dX7_moveTo_99 : decode cX7_moveTo 99 = .ok (.aconst_null, 1) := by decide +kernel
theorem dX7_moveTo_100 : decode cX7_moveTo 100 = .ok (.aastore, 1) := by decide +kernel
theorem dX7_moveTo_101 : decode cX7_moveTo 101 = .ok (.iinc 6 1, 3) := by decide +kernel
theorem dX7_moveTo_104 : decode cX7_moveTo 104 = .ok (.goto (-16), 3) := by decide +kernel
theorem dX7_moveTo_107 : decode cX7_moveTo 107 = .ok (.aload_n 0, 1) := by decide +kernel
theorem dX7_moveTo_108 : decode cX7_moveTo 108 = .ok (.iload_n 1, 1) := by decide +kernel
theorem dX7_moveTo_109 : decode cX7_moveTo 109 = .ok (.iload_n 3, 1) := by decide +kernel
theorem dX7_moveTo_110 : decode cX7_moveTo 110 = .ok (.iadd, 1) := by decide +kernel
theorem dX7_moveTo_111 : decode cX7_moveTo 111 = .ok (.aconst_null, 1) := by decide +kernel
theorem dX7_moveTo_112 : decode cX7_moveTo 112 = .ok (.aastore, 1) := by decide +kernel
theorem dX7_moveTo_113 : decode cX7_moveTo 113 = .ok (.return_, 1) := by decide +kernel
def FX7_moveTo (G : GG) (M : DD) (p0 : Option Nat) (p1 : Int32) (p2 : Int32) (p3 : Int32) (p4 : Option Nat) : Option (DD) :=
  bnd (itr (fun (s2 : Int32 × DD) => ((if s2.1 ≤ p2 then (some (.inr (s2.1, s2.2))) else
  (ltt ((p1 + s2.1)) fun x34 =>
  ltt ((p1 + s2.1)) fun x35 =>
  ltt ((x35 - ((1 : Int32)))) fun x36 =>
  dr G 14 p0 fun b37 =>
  chk (¬ (x36 < 0 ∨ G.2.2 b37 ≤ x36.toNatClampNeg)) <|
  chk (¬ (x34 < 0 ∨ G.2.2 b37 ≤ x34.toNatClampNeg)) <|
  chk (okr G 4 ((s2.2.2 b37 x36.toNatClampNeg)) = true) <|
  ltt (uP s2.2 b37 x34.toNatClampNeg ((s2.2.2 b37 x36.toNatClampNeg))) fun M38 =>
  ltt (s2.1 + (-1 : Int32)) fun x39 =>
  some (.inl (x39, M38)))) : Option ((Int32 × DD) ⊕ (Int32 × DD)))) 1000000 (p3, M)) fun (y1 : Int32 × DD) =>
  ltt ((p1 + p2)) fun x4 =>
  dr G 14 p0 fun b5 =>
  chk (¬ (x4 < 0 ∨ G.2.2 b5 ≤ x4.toNatClampNeg)) <|
  chk (okr G 4 p4 = true) <|
  ltt (uP y1.2 b5 x4.toNatClampNeg p4) fun M6 =>
  ltt ((p2 + ((1 : Int32)))) fun x7 =>
  ltt ((p2 + ((1 : Int32)))) fun x8 =>
  bnd (itr (fun (s10 : Int32 × Int32 × DD) => ((if p3 < s10.2.1 then (some (.inr (s10.1, s10.2.1, s10.2.2))) else
  (ltt ((p1 + s10.2.1)) fun x24 =>
  chk (¬ (x24 < 0 ∨ G.2.2 b5 ≤ x24.toNatClampNeg)) <|
  bnd (chk (okd G ((s10.2.2.2 b5 x24.toNatClampNeg)) = true ∧ okd G p4 = true) <|
  if ((s10.2.2.2 b5 x24.toNatClampNeg)) = p4 then (some (s10.1, s10.2.2)) else
  (ltt ((p1 + s10.1)) fun x28 =>
  ltt ((p1 + s10.2.1)) fun x29 =>
  chk (¬ (x29 < 0 ∨ G.2.2 b5 ≤ x29.toNatClampNeg)) <|
  chk (¬ (x28 < 0 ∨ G.2.2 b5 ≤ x28.toNatClampNeg)) <|
  chk (okr G 4 ((s10.2.2.2 b5 x29.toNatClampNeg)) = true) <|
  ltt (uP s10.2.2 b5 x28.toNatClampNeg ((s10.2.2.2 b5 x29.toNatClampNeg))) fun M30 =>
  ltt (s10.1 + (1 : Int32)) fun x31 =>
  some (x31, M30))) fun (y25 : Int32 × DD) =>
  ltt (s10.2.1 + (1 : Int32)) fun x26 =>
  some (.inl (y25.1, x26, y25.2)))) : Option ((Int32 × Int32 × DD) ⊕ (Int32 × Int32 × DD)))) 1000000 (x7, x8, M6)) fun (y9 : Int32 × Int32 × DD) =>
  bnd (itr (fun (s13 : Int32 × DD) => ((if p3 < s13.1 then (some (.inr (s13.1, s13.2))) else
  (ltt ((p1 + s13.1)) fun x19 =>
  chk (¬ (x19 < 0 ∨ G.2.2 b5 ≤ x19.toNatClampNeg)) <|
  chk (okr G 4 none = true) <|
  ltt (uP s13.2 b5 x19.toNatClampNeg none) fun M20 =>
  ltt (s13.1 + (1 : Int32)) fun x21 =>
  some (.inl (x21, M20)))) : Option ((Int32 × DD) ⊕ (Int32 × DD)))) 1000000 (y9.1, y9.2.2)) fun (y12 : Int32 × DD) =>
  ltt ((p1 + p3)) fun x15 =>
  chk (¬ (x15 < 0 ∨ G.2.2 b5 ≤ x15.toNatClampNeg)) <|
  chk (okr G 4 none = true) <|
  ltt (uP y12.2 b5 x15.toNatClampNeg none) fun M16 =>
  some M16
set_option maxHeartbeats 4000000 in
set_option maxRecDepth 100000 in
theorem kX7_moveTo (l : Launch) (D : va_G) (ct : CT) (ad : Nat → Nat) (Z : Nat → Nat) (G : GG) (M : DD) (sz : Nat) (p0 : Option Nat) (p1 : Int32) (p2 : Int32) (p3 : Int32) (p4 : Option Nat) (y : DD) (hF : FX7_moveTo G M p0 p1 p2 p3 p4 = some y) : Met l yX7_moveTo wsX7_moveTo ({ frames := 0, cells := 0, slots := 0, locals := 0 }) (va_Pc [va_re ad p0, .int p1, .int p2, .int p3, va_re ad p4] (kB D ct ad Z G M sz)) (va_Qv (fun (_ : Unit) => True) (fun _ t => kE D ct ad G (wA ad G sz) y t) (wA ad G sz)) 0 0 (wA ad G sz) := by
  refine Met.ofW (cc := cX7_moveTo) (maxL := 7) (ret := none) (by decide) rfl ?_
  intro p e s m args below meth c s₁ B hml hv
  obtain ⟨rfl, hsz, hP, hK, hD0, hZ, hN⟩ := hv
  have hx := B.exec
  have hb := B.bytes
  have hr := B.returns
  have hts := atoms_spec (ws := wsX7_moveTo) B.pre
  have hown : s.vm.findClass RX7 = some m.cls := findClass_of_methodNamed B.named
  have hlocks := B.notSynchronized
  subst hsz
  have hD := wD_self (sz := s.heap.size) hD0
  have hA9 : ∀ q, s.heap.size ≤ q → wA ad G s.heap.size q := fun q h => Or.inr h
  generalize hAe : wA ad G s.heap.size = A at hD hA9 hZ ⊢
  have hS : va_S A s.heap s.heap [] := va_S.rf
  have hl := lv_entry ([va_re ad p0, .int p1, .int p2, .int p3, va_re ad p4]) (n := 7) (by cases p0 <;> cases p4 <;> exact Nat.le_of_ble_eq_true rfl)
  rw [lg_entry_eq]
  generalize (lg_sl ([va_re ad p0, .int p1, .int p2, .int p3, va_re ad p4]) ++ List.replicate (7 - (lg_sl ([va_re ad p0, .int p1, .int p2, .int p3, va_re ad p4])).length) Slot.unset).toArray = ls at hl ⊢
  have hl : lv_has ls 7 [(0, va_re ad p0), (1, .int p1), (2, .int p2), (3, .int p3), (4, va_re ad p4)] := by have e9 : lv_args 0 [va_re ad p0, .int p1, .int p2, .int p3, va_re ad p4] = [(0, va_re ad p0), (1, .int p1), (2, .int p2), (3, .int p3), (4, va_re ad p4)] := (by cases p0 <;> cases p4 <;> rfl); rw [e9] at hl; exact hl
  unfold FX7_moveTo at hF
  refine lv_iload_n hx hb dX7_moveTo_0 rfl (lv_at hl 3 rfl) ?_
  refine lv_istore (lv' := [(5, .int p3), (0, va_re ad p0), (1, .int p1), (2, .int p2), (3, .int p3), (4, va_re ad p4)]) hx hb dX7_moveTo_1 hl (by decide) (by generalize p4 = o9; cases o9 <;> rfl) (fun ls hl => ?_)
  obtain ⟨y1, hy1, hF⟩ := bnd_some hF
  have K1 : ∀ (H : Heap) (locs : List Loc) (ls : Array Slot), va_P D classes (wld ct ad G y1.2) H → va_D A (wld ct ad G y1.2) → va_S A s.heap H locs → lv_has ls 7 [(5, .int y1.1), (0, va_re ad p0), (1, .int p1), (2, .int p2), (3, .int p3), (4, va_re ad p4)] → W p l e (headSpec wsX7_moveTo ({ frames := 0, cells := 0, slots := 0, locals := 0 })).room s m ([va_re ad p0, .int p1, .int p2, .int p3, va_re ad p4] : List Value).toArray below meth c H locs 0 0 (MQ below (va_Qv (fun (_ : Unit) => True) (fun _ t => kE D ct ad G A y t) A) ([va_re ad p0, .int p1, .int p2, .int p3, va_re ad p4] : List Value).toArray s 0 0 A) (F0 m 29 ls []) := by
    intro H locs ls hP hD hS hl
    refine lv_aloadq_n hx hb dX7_moveTo_29 rfl (lv_at hl 1 rfl) ?_
    refine lv_iload_n hx hb dX7_moveTo_30 rfl (lv_at hl 2 rfl) ?_
    refine lv_iload_n hx hb dX7_moveTo_31 rfl (lv_at hl 3 rfl) ?_
    refine lv_iadd hx hb dX7_moveTo_32 ?_
    obtain ⟨x4, ex4, hF⟩ := ltt_some hF
    refine lv_topi (fun zx4 ezx4 => ?_)
    obtain rfl : x4 = zx4 := ex4.trans ezx4.symm
    refine lv_aloadq hx hb dX7_moveTo_33 (lv_at hl 5 rfl) ?_
    obtain ⟨b5, ho5, hc5, hk5, hF⟩ := dr_some hF
    refine W_st (st' := [va_re ad p4, .int x4, .ref (ad b5)]) (by rw [va_some ho5]) ?_
    obtain ⟨hvc, hF⟩ := chk_some hF
    obtain ⟨ho9, hF⟩ := chk_some hF
    refine st_q (o := p4) hx hb hK hP hD hS hc5 hk5 ho9 hvc dX7_moveTo_35 (fun H locs hP hD hS => ?_)
    obtain ⟨M6, eM6, hF⟩ := ltt_some hF
    rw [← eM6] at hP hD
    refine lv_iload_n hx hb dX7_moveTo_36 rfl (lv_at hl 3 rfl) ?_
    refine lv_iconst (v := (1 : Int32)) hx hb dX7_moveTo_37 (by decide) ?_
    refine lv_iadd hx hb dX7_moveTo_38 ?_
    obtain ⟨x7, ex7, hF⟩ := ltt_some hF
    refine lv_topi (fun zx7 ezx7 => ?_)
    obtain rfl : x7 = zx7 := ex7.trans ezx7.symm
    refine lv_istore (lv' := [(5, .int x7), (0, va_re ad p0), (1, .int p1), (2, .int p2), (3, .int p3), (4, va_re ad p4)]) hx hb dX7_moveTo_39 hl (by decide) (by generalize p4 = o9; cases o9 <;> rfl) (fun ls hl => ?_)
    refine lv_iload_n hx hb dX7_moveTo_41 rfl (lv_at hl 3 rfl) ?_
    refine lv_iconst (v := (1 : Int32)) hx hb dX7_moveTo_42 (by decide) ?_
    refine lv_iadd hx hb dX7_moveTo_43 ?_
    obtain ⟨x8, ex8, hF⟩ := ltt_some hF
    refine lv_topi (fun zx8 ezx8 => ?_)
    obtain rfl : x8 = zx8 := ex8.trans ezx8.symm
    refine lv_istore (lv' := [(6, .int x8), (5, .int x7), (0, va_re ad p0), (1, .int p1), (2, .int p2), (3, .int p3), (4, va_re ad p4)]) hx hb dX7_moveTo_44 hl (by decide) rfl (fun ls hl => ?_)
    obtain ⟨y9, hy9, hF⟩ := bnd_some hF
    have K9 : ∀ (H : Heap) (locs : List Loc) (ls : Array Slot), va_P D classes (wld ct ad G y9.2.2) H → va_D A (wld ct ad G y9.2.2) → va_S A s.heap H locs → lv_has ls 7 [(6, .int y9.2.1), (5, .int y9.1), (0, va_re ad p0), (1, .int p1), (2, .int p2), (3, .int p3), (4, va_re ad p4)] → W p l e (headSpec wsX7_moveTo ({ frames := 0, cells := 0, slots := 0, locals := 0 })).room s m ([va_re ad p0, .int p1, .int p2, .int p3, va_re ad p4] : List Value).toArray below meth c H locs 0 0 (MQ below (va_Qv (fun (_ : Unit) => True) (fun _ t => kE D ct ad G A y t) A) ([va_re ad p0, .int p1, .int p2, .int p3, va_re ad p4] : List Value).toArray s 0 0 A) (F0 m 84 ls []) := by
      intro H locs ls hP hD hS hl
      refine lv_iload hx hb dX7_moveTo_84 (lv_at hl 1 rfl) ?_
      refine lv_istore (lv' := [(6, .int y9.1), (5, .int y9.1), (0, va_re ad p0), (1, .int p1), (2, .int p2), (3, .int p3), (4, va_re ad p4)]) hx hb dX7_moveTo_86 hl (by decide) rfl (fun ls hl => ?_)
      obtain ⟨y12, hy12, hF⟩ := bnd_some hF
      have K12 : ∀ (H : Heap) (locs : List Loc) (ls : Array Slot), va_P D classes (wld ct ad G y12.2) H → va_D A (wld ct ad G y12.2) → va_S A s.heap H locs → lv_has ls 7 [(6, .int y12.1), (5, .int y9.1), (0, va_re ad p0), (1, .int p1), (2, .int p2), (3, .int p3), (4, va_re ad p4)] → W p l e (headSpec wsX7_moveTo ({ frames := 0, cells := 0, slots := 0, locals := 0 })).room s m ([va_re ad p0, .int p1, .int p2, .int p3, va_re ad p4] : List Value).toArray below meth c H locs 0 0 (MQ below (va_Qv (fun (_ : Unit) => True) (fun _ t => kE D ct ad G A y t) A) ([va_re ad p0, .int p1, .int p2, .int p3, va_re ad p4] : List Value).toArray s 0 0 A) (F0 m 107 ls []) := by
        intro H locs ls hP hD hS hl
        refine lv_aloadq_n hx hb dX7_moveTo_107 rfl (lv_at hl 2 rfl) ?_
        refine lv_iload_n hx hb dX7_moveTo_108 rfl (lv_at hl 3 rfl) ?_
        refine lv_iload_n hx hb dX7_moveTo_109 rfl (lv_at hl 5 rfl) ?_
        refine lv_iadd hx hb dX7_moveTo_110 ?_
        obtain ⟨x15, ex15, hF⟩ := ltt_some hF
        refine lv_topi (fun zx15 ezx15 => ?_)
        obtain rfl : x15 = zx15 := ex15.trans ezx15.symm
        refine lv_nullq (ad := ad) hx hb dX7_moveTo_111 ?_
        refine W_st (st' := [va_re ad none, .int x15, .ref (ad b5)]) (by rw [va_some ho5]) ?_
        obtain ⟨hvc, hF⟩ := chk_some hF
        obtain ⟨ho9, hF⟩ := chk_some hF
        refine st_q (o := none) hx hb hK hP hD hS hc5 hk5 ho9 hvc dX7_moveTo_112 (fun H locs hP hD hS => ?_)
        obtain ⟨M16, eM16, hF⟩ := ltt_some hF
        rw [← eM16] at hP hD
        obtain rfl := Option.some.inj hF
        exact W.vret hx hb hr (fun t ht hW => ⟨⟨(), rfl, trivial, ⟨by rw [ht]; exact hP, va_K.moved hW.alike hK, hD⟩⟩, hS.F ht⟩) hS.2.2 dX7_moveTo_113
      clear hF
      refine itr_rule (fun (s13 : Int32 × DD) => ∀ (H : Heap) (locs : List Loc) (ls : Array Slot), va_P D classes (wld ct ad G s13.2) H → va_D A (wld ct ad G s13.2) → va_S A s.heap H locs → lv_has ls 7 [(6, .int s13.1), (5, .int y9.1), (0, va_re ad p0), (1, .int p1), (2, .int p2), (3, .int p3), (4, va_re ad p4)] → W p l e (headSpec wsX7_moveTo ({ frames := 0, cells := 0, slots := 0, locals := 0 })).room s m ([va_re ad p0, .int p1, .int p2, .int p3, va_re ad p4] : List Value).toArray below meth c H locs 0 0 (MQ below (va_Qv (fun (_ : Unit) => True) (fun _ t => kE D ct ad G A y t) A) ([va_re ad p0, .int p1, .int p2, .int p3, va_re ad p4] : List Value).toArray s 0 0 A) (F0 m 88 ls [])) ?_ _ _ hy12 _ _ _ hP hD hS (lv_sub hl [0, 1, 2, 3, 4, 5, 6] rfl)
      rintro s13 ⟨z17, hF, hwz17⟩ H locs ls hP hD hS hl
      try dsimp only at hF
      refine lv_iload hx hb dX7_moveTo_88 (lv_at hl 0 rfl) ?_
      refine lv_iload_n hx hb dX7_moveTo_90 rfl (lv_at hl 5 rfl) ?_
      refine lv_icmp_gt (tgt := 107) hx hb dX7_moveTo_91 (by decide) (fun c18 => ?_) (fun c18 => ?_)
      · rw [if_pos c18] at hF
        obtain rfl := Option.some.inj hF
        subst hwz17
        exact K12 _ _ _ hP hD hS (lv_sub hl [0, 1, 2, 3, 4, 5, 6] rfl)
      · rw [if_neg c18] at hF
        refine lv_aloadq_n hx hb dX7_moveTo_94 rfl (lv_at hl 2 rfl) ?_
        refine lv_iload_n hx hb dX7_moveTo_95 rfl (lv_at hl 3 rfl) ?_
        refine lv_iload hx hb dX7_moveTo_96 (lv_at hl 0 rfl) ?_
        refine lv_iadd hx hb dX7_moveTo_98 ?_
        obtain ⟨x19, ex19, hF⟩ := ltt_some hF
        refine lv_topi (fun zx19 ezx19 => ?_)
        obtain rfl : x19 = zx19 := ex19.trans ezx19.symm
        refine lv_nullq (ad := ad) hx hb dX7_moveTo_99 ?_
        refine W_st (st' := [va_re ad none, .int x19, .ref (ad b5)]) (by rw [va_some ho5]) ?_
        obtain ⟨hvc, hF⟩ := chk_some hF
        obtain ⟨ho9, hF⟩ := chk_some hF
        refine st_q (o := none) hx hb hK hP hD hS hc5 hk5 ho9 hvc dX7_moveTo_100 (fun H locs hP hD hS => ?_)
        obtain ⟨M20, eM20, hF⟩ := ltt_some hF
        rw [← eM20] at hP hD
        obtain ⟨x21, ex21, hF⟩ := ltt_some hF
        refine lv_iinc (v := x21) (lv' := [(6, .int x21), (5, .int y9.1), (0, va_re ad p0), (1, .int p1), (2, .int p2), (3, .int p3), (4, va_re ad p4)]) hx hb dX7_moveTo_101 hl (k := 0) rfl (by rw [ex21]; rfl) (by decide) rfl (fun ls hl => ?_)
        refine lv_goto (tgt := 88) hx hb dX7_moveTo_104 (by decide) ?_
        obtain rfl := Option.some.inj hF
        exact hwz17 _ _ _ hP hD hS (lv_sub hl [0, 1, 2, 3, 4, 5, 6] rfl)
    clear hF
    refine itr_rule (fun (s10 : Int32 × Int32 × DD) => ∀ (H : Heap) (locs : List Loc) (ls : Array Slot), va_P D classes (wld ct ad G s10.2.2) H → va_D A (wld ct ad G s10.2.2) → va_S A s.heap H locs → lv_has ls 7 [(6, .int s10.2.1), (5, .int s10.1), (0, va_re ad p0), (1, .int p1), (2, .int p2), (3, .int p3), (4, va_re ad p4)] → W p l e (headSpec wsX7_moveTo ({ frames := 0, cells := 0, slots := 0, locals := 0 })).room s m ([va_re ad p0, .int p1, .int p2, .int p3, va_re ad p4] : List Value).toArray below meth c H locs 0 0 (MQ below (va_Qv (fun (_ : Unit) => True) (fun _ t => kE D ct ad G A y t) A) ([va_re ad p0, .int p1, .int p2, .int p3, va_re ad p4] : List Value).toArray s 0 0 A) (F0 m 46 ls [])) ?_ _ _ hy9 _ _ _ hP hD hS (lv_sub hl [0, 1, 2, 3, 4, 5, 6] rfl)
    rintro s10 ⟨z22, hF, hwz22⟩ H locs ls hP hD hS hl
    try dsimp only at hF
    refine lv_iload hx hb dX7_moveTo_46 (lv_at hl 0 rfl) ?_
    refine lv_iload_n hx hb dX7_moveTo_48 rfl (lv_at hl 5 rfl) ?_
    refine lv_icmp_gt (tgt := 84) hx hb dX7_moveTo_49 (by decide) (fun c23 => ?_) (fun c23 => ?_)
    · rw [if_pos c23] at hF
      obtain rfl := Option.some.inj hF
      subst hwz22
      exact K9 _ _ _ hP hD hS (lv_sub hl [0, 1, 2, 3, 4, 5, 6] rfl)
    · rw [if_neg c23] at hF
      refine lv_aloadq_n hx hb dX7_moveTo_52 rfl (lv_at hl 2 rfl) ?_
      refine lv_iload_n hx hb dX7_moveTo_53 rfl (lv_at hl 3 rfl) ?_
      refine lv_iload hx hb dX7_moveTo_54 (lv_at hl 0 rfl) ?_
      refine lv_iadd hx hb dX7_moveTo_56 ?_
      obtain ⟨x24, ex24, hF⟩ := ltt_some hF
      refine lv_topi (fun zx24 ezx24 => ?_)
      obtain rfl : x24 = zx24 := ex24.trans ezx24.symm
      refine W_st (st' := [.int x24, .ref (ad b5)]) (by rw [va_some ho5]) ?_
      obtain ⟨hvc, hF⟩ := chk_some hF
      refine ld_q hx hb hK hP hc5 hk5 hvc dX7_moveTo_57 ?_
      refine lv_aloadq hx hb dX7_moveTo_58 (lv_at hl 6 rfl) ?_
      obtain ⟨y25, hy25, hF⟩ := bnd_some hF
      have J25 : ∀ (H : Heap) (locs : List Loc) (ls : Array Slot), va_P D classes (wld ct ad G y25.2) H → va_D A (wld ct ad G y25.2) → va_S A s.heap H locs → lv_has ls 7 [(6, .int s10.2.1), (5, .int y25.1), (0, va_re ad p0), (1, .int p1), (2, .int p2), (3, .int p3), (4, va_re ad p4)] → W p l e (headSpec wsX7_moveTo ({ frames := 0, cells := 0, slots := 0, locals := 0 })).room s m ([va_re ad p0, .int p1, .int p2, .int p3, va_re ad p4] : List Value).toArray below meth c H locs 0 0 (MQ below (va_Qv (fun (_ : Unit) => True) (fun _ t => kE D ct ad G A y t) A) ([va_re ad p0, .int p1, .int p2, .int p3, va_re ad p4] : List Value).toArray s 0 0 A) (F0 m 78 ls []) := by
        intro H locs ls hP hD hS hl
        obtain ⟨x26, ex26, hF⟩ := ltt_some hF
        refine lv_iinc (v := x26) (lv' := [(6, .int x26), (5, .int y25.1), (0, va_re ad p0), (1, .int p1), (2, .int p2), (3, .int p3), (4, va_re ad p4)]) hx hb dX7_moveTo_78 hl (k := 0) rfl (by rw [ex26]; rfl) (by decide) rfl (fun ls hl => ?_)
        refine lv_goto (tgt := 46) hx hb dX7_moveTo_81 (by decide) ?_
        obtain rfl := Option.some.inj hF
        exact hwz22 _ _ _ hP hD hS (lv_sub hl [0, 1, 2, 3, 4, 5, 6] rfl)
      clear hF
      have hF := hy25
      clear hy25
      refine lv_acmpq_eq (x := ((s10.2.2.2 b5 x24.toNatClampNeg))) (y := p4) (tgt := 78) hx hb hD (chk_some hF).1.1 (chk_some hF).1.2 dX7_moveTo_60 (by decide) (fun c27 => ?_) (fun c27 => ?_)
      all_goals (replace hF := (chk_some hF).2)
      · rw [if_pos c27] at hF
        obtain rfl := Option.some.inj hF
        exact J25 _ _ _ hP hD hS (lv_sub hl [0, 1, 2, 3, 4, 5, 6] rfl)
      · rw [if_neg c27] at hF
        refine lv_aloadq_n hx hb dX7_moveTo_63 rfl (lv_at hl 2 rfl) ?_
        refine lv_iload_n hx hb dX7_moveTo_64 rfl (lv_at hl 3 rfl) ?_
        refine lv_iload hx hb dX7_moveTo_65 (lv_at hl 1 rfl) ?_
        refine lv_iadd hx hb dX7_moveTo_67 ?_
        obtain ⟨x28, ex28, hF⟩ := ltt_some hF
        refine lv_topi (fun zx28 ezx28 => ?_)
        obtain rfl : x28 = zx28 := ex28.trans ezx28.symm
        refine lv_aloadq_n hx hb dX7_moveTo_68 rfl (lv_at hl 2 rfl) ?_
        refine lv_iload_n hx hb dX7_moveTo_69 rfl (lv_at hl 3 rfl) ?_
        refine lv_iload hx hb dX7_moveTo_70 (lv_at hl 0 rfl) ?_
        refine lv_iadd hx hb dX7_moveTo_72 ?_
        obtain ⟨x29, ex29, hF⟩ := ltt_some hF
        refine lv_topi (fun zx29 ezx29 => ?_)
        obtain rfl : x29 = zx29 := ex29.trans ezx29.symm
        refine W_st (st' := [.int x29, .ref (ad b5), .int x28, .ref (ad b5)]) (by rw [va_some ho5]) ?_
        obtain ⟨hvc, hF⟩ := chk_some hF
        refine ld_q hx hb hK hP hc5 hk5 hvc dX7_moveTo_73 ?_
        obtain ⟨hvc, hF⟩ := chk_some hF
        obtain ⟨ho9, hF⟩ := chk_some hF
        refine st_q (o := ((s10.2.2.2 b5 x29.toNatClampNeg))) hx hb hK hP hD hS hc5 hk5 ho9 hvc dX7_moveTo_74 (fun H locs hP hD hS => ?_)
        obtain ⟨M30, eM30, hF⟩ := ltt_some hF
        rw [← eM30] at hP hD
        obtain ⟨x31, ex31, hF⟩ := ltt_some hF
        refine lv_iinc (v := x31) (lv' := [(5, .int x31), (6, .int s10.2.1), (0, va_re ad p0), (1, .int p1), (2, .int p2), (3, .int p3), (4, va_re ad p4)]) hx hb dX7_moveTo_75 hl (k := 1) rfl (by rw [ex31]; rfl) (by decide) (by generalize p4 = o9; cases o9 <;> rfl) (fun ls hl => ?_)
        obtain rfl := Option.some.inj hF
        exact J25 _ _ _ hP hD hS (lv_sub hl [1, 0, 2, 3, 4, 5, 6] rfl)
  clear hF
  refine itr_rule (fun (s2 : Int32 × DD) => ∀ (H : Heap) (locs : List Loc) (ls : Array Slot), va_P D classes (wld ct ad G s2.2) H → va_D A (wld ct ad G s2.2) → va_S A s.heap H locs → lv_has ls 7 [(5, .int s2.1), (0, va_re ad p0), (1, .int p1), (2, .int p2), (3, .int p3), (4, va_re ad p4)] → W p l e (headSpec wsX7_moveTo ({ frames := 0, cells := 0, slots := 0, locals := 0 })).room s m ([va_re ad p0, .int p1, .int p2, .int p3, va_re ad p4] : List Value).toArray below meth c H locs 0 0 (MQ below (va_Qv (fun (_ : Unit) => True) (fun _ t => kE D ct ad G A y t) A) ([va_re ad p0, .int p1, .int p2, .int p3, va_re ad p4] : List Value).toArray s 0 0 A) (F0 m 3 ls [])) ?_ _ _ hy1 _ _ _ hP hD hS (lv_sub hl [0, 1, 2, 3, 4, 5] rfl)
  rintro s2 ⟨z32, hF, hwz32⟩ H locs ls hP hD hS hl
  try dsimp only at hF
  refine lv_iload hx hb dX7_moveTo_3 (lv_at hl 0 rfl) ?_
  refine lv_iload_n hx hb dX7_moveTo_5 rfl (lv_at hl 3 rfl) ?_
  refine lv_icmp_le (tgt := 29) hx hb dX7_moveTo_6 (by decide) (fun c33 => ?_) (fun c33 => ?_)
  · rw [if_pos c33] at hF
    obtain rfl := Option.some.inj hF
    subst hwz32
    exact K1 _ _ _ hP hD hS (lv_sub hl [0, 1, 2, 3, 4, 5] rfl)
  · rw [if_neg c33] at hF
    refine lv_aloadq_n hx hb dX7_moveTo_9 rfl (lv_at hl 1 rfl) ?_
    refine lv_iload_n hx hb dX7_moveTo_10 rfl (lv_at hl 2 rfl) ?_
    refine lv_iload hx hb dX7_moveTo_11 (lv_at hl 0 rfl) ?_
    refine lv_iadd hx hb dX7_moveTo_13 ?_
    obtain ⟨x34, ex34, hF⟩ := ltt_some hF
    refine lv_topi (fun zx34 ezx34 => ?_)
    obtain rfl : x34 = zx34 := ex34.trans ezx34.symm
    refine lv_aloadq_n hx hb dX7_moveTo_14 rfl (lv_at hl 1 rfl) ?_
    refine lv_iload_n hx hb dX7_moveTo_15 rfl (lv_at hl 2 rfl) ?_
    refine lv_iload hx hb dX7_moveTo_16 (lv_at hl 0 rfl) ?_
    refine lv_iadd hx hb dX7_moveTo_18 ?_
    obtain ⟨x35, ex35, hF⟩ := ltt_some hF
    refine lv_topi (fun zx35 ezx35 => ?_)
    obtain rfl : x35 = zx35 := ex35.trans ezx35.symm
    refine lv_iconst (v := (1 : Int32)) hx hb dX7_moveTo_19 (by decide) ?_
    refine lv_isub hx hb dX7_moveTo_20 ?_
    obtain ⟨x36, ex36, hF⟩ := ltt_some hF
    refine lv_topi (fun zx36 ezx36 => ?_)
    obtain rfl : x36 = zx36 := ex36.trans ezx36.symm
    obtain ⟨b37, ho37, hc37, hk37, hF⟩ := dr_some hF
    refine W_st (st' := [.int x36, .ref (ad b37), .int x34, .ref (ad b37)]) (by rw [va_some ho37]) ?_
    obtain ⟨hvc, hF⟩ := chk_some hF
    refine ld_q hx hb hK hP hc37 hk37 hvc dX7_moveTo_21 ?_
    obtain ⟨hvc, hF⟩ := chk_some hF
    obtain ⟨ho9, hF⟩ := chk_some hF
    refine st_q (o := ((s2.2.2 b37 x36.toNatClampNeg))) hx hb hK hP hD hS hc37 hk37 ho9 hvc dX7_moveTo_22 (fun H locs hP hD hS => ?_)
    obtain ⟨M38, eM38, hF⟩ := ltt_some hF
    rw [← eM38] at hP hD
    obtain ⟨x39, ex39, hF⟩ := ltt_some hF
    refine lv_iinc (v := x39) (lv' := [(5, .int x39), (0, va_re ad p0), (1, .int p1), (2, .int p2), (3, .int p3), (4, va_re ad p4)]) hx hb dX7_moveTo_23 hl (k := 0) rfl (by rw [ex39]; rfl) (by decide) (by generalize p4 = o9; cases o9 <;> rfl) (fun ls hl => ?_)
    refine lv_goto (tgt := 3) hx hb dX7_moveTo_26 (by decide) ?_
    obtain rfl := Option.some.inj hF
    exact hwz32 _ _ _ hP hD hS (lv_sub hl [0, 1, 2, 3, 4, 5] rfl)
theorem dX7_nextOut_0 : decode cX7_nextOut 0 = .ok (.aconst_null, 1) := by decide +kernel
theorem dX7_nextOut_1 : decode cX7_nextOut 1 = .ok (.astore_n 1, 1) := by decide +kernel
theorem dX7_nextOut_2 : decode cX7_nextOut 2 = .ok (.iconst 0, 1) := by decide +kernel
theorem dX7_nextOut_3 : decode cX7_nextOut 3 = .ok (.istore_n 2, 1) := by decide +kernel
theorem dX7_nextOut_4 : decode cX7_nextOut 4 = .ok (.iload_n 2, 1) := by decide +kernel
theorem dX7_nextOut_5 : decode cX7_nextOut 5 = .ok (.aload_n 0, 1) := by decide +kernel
theorem dX7_nextOut_6 : decode cX7_nextOut 6 = .ok (.getfield 29, 3) := by decide +kernel
theorem dX7_nextOut_9 : decode cX7_nextOut 9 = .ok (.if_icmp .ge 48, 3) := by decide +kernel
theorem dX7_nextOut_12 : decode cX7_nextOut 12 = .ok (.aload_n 0, 1) := by decide +kernel
theorem dX7_nextOut_13 : decode cX7_nextOut 13 = .ok (.getfield 17, 3) := by decide +kernel
theorem dX7_nextOut_16 : decode cX7_nextOut 16 = .ok (.iload_n 2, 1) := by decide +kernel
theorem dX7_nextOut_17 : decode cX7_nextOut 17 = .ok (.aaload, 1) := by decide +kernel
theorem dX7_nextOut_18 : decode cX7_nextOut 18 = .ok (.getfield 164, 3) := by decide +kernel
theorem dX7_nextOut_21 : decode cX7_nextOut 21 = .ok (.ifCond .eq 30, 3) := by decide +kernel
theorem dX7_nextOut_24 : decode cX7_nextOut 24 = .ok (.aload_n 1, 1) := by decide +kernel
theorem dX7_nextOut_25 : decode cX7_nextOut 25 = .ok (.ifnull 19, 3) := by decide +kernel
theorem dX7_nextOut_28 : decode cX7_nextOut 28 = .ok (.aload_n 0, 1) := by decide +kernel
theorem dX7_nextOut_29 : decode cX7_nextOut 29 = .ok (.getfield 17, 3) := by decide +kernel
theorem dX7_nextOut_32 : decode cX7_nextOut 32 = .ok (.iload_n 2, 1) := by decide +kernel
theorem dX7_nextOut_33 : decode cX7_nextOut 33 = .ok (.aaload, 1) := by decide +kernel
theorem dX7_nextOut_34 : decode cX7_nextOut 34 = .ok (.getfield 126, 3) := by decide +kernel
theorem dX7_nextOut_37 : decode cX7_nextOut 37 = .ok (.aload_n 1, 1) := by decide +kernel
theorem dX7_nextOut_38 : decode cX7_nextOut 38 = .ok (.getfield 126, 3) := by decide +kernel
theorem dX7_nextOut_41 : decode cX7_nextOut 41 = .ok (.if_icmp .ge 10, 3) := by decide +kernel
theorem dX7_nextOut_44 : decode cX7_nextOut 44 = .ok (.aload_n 0, 1) := by decide +kernel
theorem dX7_nextOut_45 : decode cX7_nextOut 45 = .ok (.getfield 17, 3) := by decide +kernel
theorem dX7_nextOut_48 : decode cX7_nextOut 48 = .ok (.iload_n 2, 1) := by decide +kernel
theorem dX7_nextOut_49 : decode cX7_nextOut 49 = .ok (.aaload, 1) := by decide +kernel
theorem dX7_nextOut_50 : decode cX7_nextOut 50 = .ok (.astore_n 1, 1) := by decide +kernel
theorem dX7_nextOut_51 : decode cX7_nextOut 51 = .ok (.iinc 2 1, 3) := by decide +kernel
theorem dX7_nextOut_54 : decode cX7_nextOut 54 = .ok (.goto (-50), 3) := by decide +kernel
theorem dX7_nextOut_57 : decode cX7_nextOut 57 = .ok (.aload_n 1, 1) := by decide +kernel
theorem dX7_nextOut_58 : decode cX7_nextOut 58 = .ok (.areturn, 1) := by decide +kernel
def FX7_nextOut (G : GG) (M : DD) (a : Nat)  : Option (DD × Option Nat) :=
  bnd (itr (fun (s2 : Option Nat × Int32) => ((ltt (M.1 a 3) fun x5 =>
  if x5 ≤ s2.2 then (some (.inr (s2.1, s2.2))) else
  (dr G 14 ((M.2 a 2)) fun b7 =>
  chk (¬ (s2.2 < 0 ∨ G.2.2 b7 ≤ s2.2.toNatClampNeg)) <|
  dr G 4 ((M.2 b7 s2.2.toNatClampNeg)) fun b8 =>
  ltt (M.1 b8 12) fun x9 =>
  bnd (if x9 = ((0 : Int32)) then (some (s2.1)) else
  (bnd (if s2.1 = none then (chk (¬ (s2.2 < 0 ∨ G.2.2 b7 ≤ s2.2.toNatClampNeg)) <|
  some ((M.2 b7 s2.2.toNatClampNeg))) else
  (chk (¬ (s2.2 < 0 ∨ G.2.2 b7 ≤ s2.2.toNatClampNeg)) <|
  ltt (M.1 b8 9) fun x15 =>
  dr G 4 s2.1 fun b16 =>
  ltt (M.1 b16 9) fun x17 =>
  bnd (if x17 ≤ x15 then (some (s2.1)) else
  (chk (¬ (s2.2 < 0 ∨ G.2.2 b7 ≤ s2.2.toNatClampNeg)) <|
  some ((M.2 b7 s2.2.toNatClampNeg)))) fun (y18 : Option Nat) =>
  some (y18))) fun (y13 : Option Nat) =>
  some (y13))) fun (y10 : Option Nat) =>
  ltt (s2.2 + (1 : Int32)) fun x11 =>
  some (.inl (y10, x11)))) : Option ((Option Nat × Int32) ⊕ (Option Nat × Int32)))) 1000000 (none, (0 : Int32))) fun (y1 : Option Nat × Int32) =>
  some (M, y1.1)
set_option maxHeartbeats 4000000 in
set_option maxRecDepth 100000 in
theorem kX7_nextOut (l : Launch) (D : va_G) (ct : CT) (ad : Nat → Nat) (Z : Nat → Nat) (G : GG) (M : DD) (sz : Nat) (a : Nat)  (y : DD × Option Nat) (hc : a < G.1) (hk : G.2.1 a = 7) (hF : FX7_nextOut G M a  = some y) : Met l yX7_nextOut wsX7_nextOut ({ frames := 0, cells := 0, slots := 0, locals := 0 }) (va_Pc [.ref (ad a)] (kB D ct ad Z G M sz)) (va_Qe ad (fun (q : Option Nat) (_ : Unit) => q = y.2) (fun _ t => kE D ct ad G (wA ad G sz) y.1 t) (wA ad G sz)) 0 0 (wA ad G sz) := by
  refine Met.ofW (cc := cX7_nextOut) (maxL := 3) (ret := (some (.object "VideoSuite$Picture"))) (by decide) rfl ?_
  intro p e s m args below meth c s₁ B hml hv
  obtain ⟨rfl, hsz, hP, hK, hD0, hZ, hN⟩ := hv
  have hx := B.exec
  have hb := B.bytes
  have hr := B.returns
  have hts := atoms_spec (ws := wsX7_nextOut) B.pre
  have hown : s.vm.findClass RX7 = some m.cls := findClass_of_methodNamed B.named
  have hlocks := B.notSynchronized
  subst hsz
  have hD := wD_self (sz := s.heap.size) hD0
  have hA9 : ∀ q, s.heap.size ≤ q → wA ad G s.heap.size q := fun q h => Or.inr h
  generalize hAe : wA ad G s.heap.size = A at hD hA9 hZ ⊢
  have hS : va_S A s.heap s.heap [] := va_S.rf
  have hl := lv_entry ([.ref (ad a)]) (n := 3) (Nat.le_of_ble_eq_true rfl)
  rw [lg_entry_eq]
  generalize (lg_sl ([.ref (ad a)]) ++ List.replicate (3 - (lg_sl ([.ref (ad a)])).length) Slot.unset).toArray = ls at hl ⊢
  have hl : lv_has ls 3 [(0, .ref (ad a))] := hl
  unfold FX7_nextOut at hF
  refine lv_nullq (ad := ad) hx hb dX7_nextOut_0 ?_
  refine lv_astoreq_n (lv' := [(1, va_re ad none), (0, .ref (ad a))]) hx hb dX7_nextOut_1 rfl hl (by decide) rfl (fun ls hl => ?_)
  refine lv_iconst (v := (0 : Int32)) hx hb dX7_nextOut_2 (by decide) ?_
  refine lv_istore_n (lv' := [(2, .int (0 : Int32)), (1, va_re ad none), (0, .ref (ad a))]) hx hb dX7_nextOut_3 rfl hl (by decide) (by generalize none = o9; cases o9 <;> rfl) (fun ls hl => ?_)
  obtain ⟨y1, hy1, hF⟩ := bnd_some hF
  have K1 : ∀ (H : Heap) (locs : List Loc) (ls : Array Slot), va_P D classes (wld ct ad G M) H → va_D A (wld ct ad G M) → va_S A s.heap H locs → lv_has ls 3 [(2, .int y1.2), (1, va_re ad y1.1), (0, .ref (ad a))] → W p l e (headSpec wsX7_nextOut ({ frames := 0, cells := 0, slots := 0, locals := 0 })).room s m ([.ref (ad a)] : List Value).toArray below meth c H locs 0 0 (MQ below (va_Qe ad (fun (q : Option Nat) (_ : Unit) => q = y.2) (fun _ t => kE D ct ad G A y.1 t) A) ([.ref (ad a)] : List Value).toArray s 0 0 A) (F0 m 57 ls []) := by
    intro H locs ls hP hD hS hl
    refine lv_aloadq_n hx hb dX7_nextOut_57 rfl (lv_at hl 1 rfl) ?_
    obtain rfl := Option.some.inj hF
    exact W.aret (v := va_re ad y1.1) hx hb hr (Or.inl ⟨_, rfl⟩) (va_re_or ad y1.1) (fun t ht hW => ⟨⟨y1.1, (), rfl, rfl, ⟨by rw [ht]; exact hP, va_K.moved hW.alike hK, hD⟩⟩, hS.F ht⟩) hS.2.2 dX7_nextOut_58
  clear hF
  refine itr_rule (fun (s2 : Option Nat × Int32) => ∀ (H : Heap) (locs : List Loc) (ls : Array Slot), va_P D classes (wld ct ad G M) H → va_D A (wld ct ad G M) → va_S A s.heap H locs → lv_has ls 3 [(2, .int s2.2), (1, va_re ad s2.1), (0, .ref (ad a))] → W p l e (headSpec wsX7_nextOut ({ frames := 0, cells := 0, slots := 0, locals := 0 })).room s m ([.ref (ad a)] : List Value).toArray below meth c H locs 0 0 (MQ below (va_Qe ad (fun (q : Option Nat) (_ : Unit) => q = y.2) (fun _ t => kE D ct ad G A y.1 t) A) ([.ref (ad a)] : List Value).toArray s 0 0 A) (F0 m 4 ls [])) ?_ _ _ hy1 _ _ _ hP hD hS (lv_sub hl [0, 1, 2] rfl)
  rintro s2 ⟨z4, hF, hwz4⟩ H locs ls hP hD hS hl
  try dsimp only at hF
  refine lv_iload_n hx hb dX7_nextOut_4 rfl (lv_at hl 0 rfl) ?_
  refine lv_aload_n hx hb dX7_nextOut_5 rfl (lv_at hl 2 rfl) ?_
  refine va_get (D := D) (ci := 7) (v := .int (M.1 a 3)) (C := RX7) (T := TX7) (N := 17) hx hb hts (by decide +kernel) hown hK hP a (wld_o ct ad G M hc hk (by decide)) rfl 3 (by decide) (hts (.fieldLink RX7 29 "VideoSuite$Store" "count" "I") (by decide +kernel)) (fun _ h9 => h9) rfl dX7_nextOut_6 ?_
  obtain ⟨x5, ex5, hF⟩ := ltt_some hF
  refine lv_topi (fun zx5 ezx5 => ?_)
  obtain rfl : x5 = zx5 := ex5.trans ezx5.symm
  refine lv_icmp_ge (tgt := 57) hx hb dX7_nextOut_9 (by decide) (fun c6 => ?_) (fun c6 => ?_)
  · rw [if_pos c6] at hF
    obtain rfl := Option.some.inj hF
    subst hwz4
    exact K1 _ _ _ hP hD hS (lv_sub hl [0, 1, 2] rfl)
  · rw [if_neg c6] at hF
    refine lv_aload_n hx hb dX7_nextOut_12 rfl (lv_at hl 2 rfl) ?_
    refine va_get (D := D) (ci := 7) (v := va_re ad (M.2 a 2)) (C := RX7) (T := TX7) (N := 17) hx hb hts (by decide +kernel) hown hK hP a (wld_o ct ad G M hc hk (by decide)) rfl 2 (by decide) (hts (.fieldLink RX7 17 "VideoSuite$Store" "kept" "[LVideoSuite$Picture;") (by decide +kernel)) (fun _ h9 => h9) rfl dX7_nextOut_13 ?_
    refine lv_iload_n hx hb dX7_nextOut_16 rfl (lv_at hl 0 rfl) ?_
    obtain ⟨b7, ho7, hc7, hk7, hF⟩ := dr_some hF
    refine W_st (st' := [.int s2.2, .ref (ad b7)]) (by rw [va_some ho7]) ?_
    obtain ⟨hvc, hF⟩ := chk_some hF
    refine ld_q hx hb hK hP hc7 hk7 hvc dX7_nextOut_17 ?_
    obtain ⟨b8, ho8, hc8, hk8, hF⟩ := dr_some hF
    refine W_st (st' := [.ref (ad b8)]) (by rw [va_some ho8]) ?_
    refine va_get (D := D) (ci := 4) (v := .int (M.1 b8 12)) (C := RX4) (T := TX4) (N := 18) hx hb hts (by decide +kernel) hown hK hP b8 (wld_o ct ad G M hc8 hk8 (by decide)) rfl 12 (by decide) (hts (.fieldLink RX7 164 "VideoSuite$Picture" "isWaiting" "Z") (by decide +kernel)) (fun _ h9 => h9) rfl dX7_nextOut_18 ?_
    obtain ⟨x9, ex9, hF⟩ := ltt_some hF
    refine lv_topi (fun zx9 ezx9 => ?_)
    obtain rfl : x9 = zx9 := ex9.trans ezx9.symm
    obtain ⟨y10, hy10, hF⟩ := bnd_some hF
    have J10 : ∀ (H : Heap) (locs : List Loc) (ls : Array Slot), va_P D classes (wld ct ad G M) H → va_D A (wld ct ad G M) → va_S A s.heap H locs → lv_has ls 3 [(2, .int s2.2), (1, va_re ad y10), (0, .ref (ad a))] → W p l e (headSpec wsX7_nextOut ({ frames := 0, cells := 0, slots := 0, locals := 0 })).room s m ([.ref (ad a)] : List Value).toArray below meth c H locs 0 0 (MQ below (va_Qe ad (fun (q : Option Nat) (_ : Unit) => q = y.2) (fun _ t => kE D ct ad G A y.1 t) A) ([.ref (ad a)] : List Value).toArray s 0 0 A) (F0 m 51 ls []) := by
      intro H locs ls hP hD hS hl
      obtain ⟨x11, ex11, hF⟩ := ltt_some hF
      refine lv_iinc (v := x11) (lv' := [(2, .int x11), (1, va_re ad y10), (0, .ref (ad a))]) hx hb dX7_nextOut_51 hl (k := 0) rfl (by rw [ex11]; rfl) (by decide) (by generalize y10 = o9; cases o9 <;> rfl) (fun ls hl => ?_)
      refine lv_goto (tgt := 4) hx hb dX7_nextOut_54 (by decide) ?_
      obtain rfl := Option.some.inj hF
      exact hwz4 _ _ _ hP hD hS (lv_sub hl [0, 1, 2] rfl)
    clear hF
    have hF := hy10
    clear hy10
    refine lv_if_eq (tgt := 51) hx hb dX7_nextOut_21 (by decide) (fun c12 => ?_) (fun c12 => ?_)
    · rw [if_pos c12] at hF
      obtain rfl := Option.some.inj hF
      exact J10 _ _ _ hP hD hS (lv_sub hl [0, 1, 2] rfl)
    · rw [if_neg c12] at hF
      refine lv_aloadq_n hx hb dX7_nextOut_24 rfl (lv_at hl 1 rfl) ?_
      obtain ⟨y13, hy13, hF⟩ := bnd_some hF
      have J13 : ∀ (H : Heap) (locs : List Loc) (ls : Array Slot), va_P D classes (wld ct ad G M) H → va_D A (wld ct ad G M) → va_S A s.heap H locs → lv_has ls 3 [(2, .int s2.2), (1, va_re ad y13), (0, .ref (ad a))] → W p l e (headSpec wsX7_nextOut ({ frames := 0, cells := 0, slots := 0, locals := 0 })).room s m ([.ref (ad a)] : List Value).toArray below meth c H locs 0 0 (MQ below (va_Qe ad (fun (q : Option Nat) (_ : Unit) => q = y.2) (fun _ t => kE D ct ad G A y.1 t) A) ([.ref (ad a)] : List Value).toArray s 0 0 A) (F0 m 51 ls []) := by
        intro H locs ls hP hD hS hl
        obtain rfl := Option.some.inj hF
        exact J10 _ _ _ hP hD hS (lv_sub hl [0, 1, 2] rfl)
      clear hF
      have hF := hy13
      clear hy13
      refine lv_ifnullq (tgt := 44) hx hb dX7_nextOut_25 (by decide) (fun c14 => ?_) (fun c14 => ?_)
      · rw [if_pos c14] at hF
        refine lv_aload_n hx hb dX7_nextOut_44 rfl (lv_at hl 2 rfl) ?_
        refine va_get (D := D) (ci := 7) (v := va_re ad (M.2 a 2)) (C := RX7) (T := TX7) (N := 17) hx hb hts (by decide +kernel) hown hK hP a (wld_o ct ad G M hc hk (by decide)) rfl 2 (by decide) (hts (.fieldLink RX7 17 "VideoSuite$Store" "kept" "[LVideoSuite$Picture;") (by decide +kernel)) (fun _ h9 => h9) rfl dX7_nextOut_45 ?_
        refine lv_iload_n hx hb dX7_nextOut_48 rfl (lv_at hl 0 rfl) ?_
        refine W_st (st' := [.int s2.2, .ref (ad b7)]) (by rw [va_some ho7]) ?_
        obtain ⟨hvc, hF⟩ := chk_some hF
        refine ld_q hx hb hK hP hc7 hk7 hvc dX7_nextOut_49 ?_
        refine lv_astoreq_n (lv' := [(1, va_re ad (M.2 b7 s2.2.toNatClampNeg)), (2, .int s2.2), (0, .ref (ad a))]) hx hb dX7_nextOut_50 rfl hl (by decide) rfl (fun ls hl => ?_)
        obtain rfl := Option.some.inj hF
        exact J13 _ _ _ hP hD hS (lv_sub hl [1, 0, 2] rfl)
      · rw [if_neg c14] at hF
        refine lv_aload_n hx hb dX7_nextOut_28 rfl (lv_at hl 2 rfl) ?_
        refine va_get (D := D) (ci := 7) (v := va_re ad (M.2 a 2)) (C := RX7) (T := TX7) (N := 17) hx hb hts (by decide +kernel) hown hK hP a (wld_o ct ad G M hc hk (by decide)) rfl 2 (by decide) (hts (.fieldLink RX7 17 "VideoSuite$Store" "kept" "[LVideoSuite$Picture;") (by decide +kernel)) (fun _ h9 => h9) rfl dX7_nextOut_29 ?_
        refine lv_iload_n hx hb dX7_nextOut_32 rfl (lv_at hl 0 rfl) ?_
        refine W_st (st' := [.int s2.2, .ref (ad b7)]) (by rw [va_some ho7]) ?_
        obtain ⟨hvc, hF⟩ := chk_some hF
        refine ld_q hx hb hK hP hc7 hk7 hvc dX7_nextOut_33 ?_
        refine W_st (st' := [.ref (ad b8)]) (by rw [va_some ho8]) ?_
        refine va_get (D := D) (ci := 4) (v := .int (M.1 b8 9)) (C := RX4) (T := TX4) (N := 18) hx hb hts (by decide +kernel) hown hK hP b8 (wld_o ct ad G M hc8 hk8 (by decide)) rfl 9 (by decide) (hts (.fieldLink RX7 126 "VideoSuite$Picture" "order" "I") (by decide +kernel)) (fun _ h9 => h9) rfl dX7_nextOut_34 ?_
        obtain ⟨x15, ex15, hF⟩ := ltt_some hF
        refine lv_topi (fun zx15 ezx15 => ?_)
        obtain rfl : x15 = zx15 := ex15.trans ezx15.symm
        refine lv_aloadq_n hx hb dX7_nextOut_37 rfl (lv_at hl 1 rfl) ?_
        obtain ⟨b16, ho16, hc16, hk16, hF⟩ := dr_some hF
        refine W_st (st' := [.ref (ad b16), .int x15]) (by rw [va_some ho16]) ?_
        refine va_get (D := D) (ci := 4) (v := .int (M.1 b16 9)) (C := RX4) (T := TX4) (N := 18) hx hb hts (by decide +kernel) hown hK hP b16 (wld_o ct ad G M hc16 hk16 (by decide)) rfl 9 (by decide) (hts (.fieldLink RX7 126 "VideoSuite$Picture" "order" "I") (by decide +kernel)) (fun _ h9 => h9) rfl dX7_nextOut_38 ?_
        obtain ⟨x17, ex17, hF⟩ := ltt_some hF
        refine lv_topi (fun zx17 ezx17 => ?_)
        obtain rfl : x17 = zx17 := ex17.trans ezx17.symm
        obtain ⟨y18, hy18, hF⟩ := bnd_some hF
        have J18 : ∀ (H : Heap) (locs : List Loc) (ls : Array Slot), va_P D classes (wld ct ad G M) H → va_D A (wld ct ad G M) → va_S A s.heap H locs → lv_has ls 3 [(2, .int s2.2), (1, va_re ad y18), (0, .ref (ad a))] → W p l e (headSpec wsX7_nextOut ({ frames := 0, cells := 0, slots := 0, locals := 0 })).room s m ([.ref (ad a)] : List Value).toArray below meth c H locs 0 0 (MQ below (va_Qe ad (fun (q : Option Nat) (_ : Unit) => q = y.2) (fun _ t => kE D ct ad G A y.1 t) A) ([.ref (ad a)] : List Value).toArray s 0 0 A) (F0 m 51 ls []) := by
          intro H locs ls hP hD hS hl
          obtain rfl := Option.some.inj hF
          exact J13 _ _ _ hP hD hS (lv_sub hl [0, 1, 2] rfl)
        clear hF
        have hF := hy18
        clear hy18
        refine lv_icmp_ge (tgt := 51) hx hb dX7_nextOut_41 (by decide) (fun c19 => ?_) (fun c19 => ?_)
        · rw [if_pos c19] at hF
          obtain rfl := Option.some.inj hF
          exact J18 _ _ _ hP hD hS (lv_sub hl [0, 1, 2] rfl)
        · rw [if_neg c19] at hF
          refine lv_aload_n hx hb dX7_nextOut_44 rfl (lv_at hl 2 rfl) ?_
          refine va_get (D := D) (ci := 7) (v := va_re ad (M.2 a 2)) (C := RX7) (T := TX7) (N := 17) hx hb hts (by decide +kernel) hown hK hP a (wld_o ct ad G M hc hk (by decide)) rfl 2 (by decide) (hts (.fieldLink RX7 17 "VideoSuite$Store" "kept" "[LVideoSuite$Picture;") (by decide +kernel)) (fun _ h9 => h9) rfl dX7_nextOut_45 ?_
          refine lv_iload_n hx hb dX7_nextOut_48 rfl (lv_at hl 0 rfl) ?_
          refine W_st (st' := [.int s2.2, .ref (ad b7)]) (by rw [va_some ho7]) ?_
          obtain ⟨hvc, hF⟩ := chk_some hF
          refine ld_q hx hb hK hP hc7 hk7 hvc dX7_nextOut_49 ?_
          refine lv_astoreq_n (lv' := [(1, va_re ad (M.2 b7 s2.2.toNatClampNeg)), (2, .int s2.2), (0, .ref (ad a))]) hx hb dX7_nextOut_50 rfl hl (by decide) rfl (fun ls hl => ?_)
          obtain rfl := Option.some.inj hF
          exact J18 _ _ _ hP hD hS (lv_sub hl [1, 0, 2] rfl)
theorem dX7_noteFacts_0 : decode cX7_noteFacts 0 = .ok (.aload_n 0, 1) := by decide +kernel
theorem dX7_noteFacts_1 : decode cX7_noteFacts 1 = .ok (.getfield 25, 3) := by decide +kernel
theorem dX7_noteFacts_4 : decode cX7_noteFacts 4 = .ok (.iload_n 2, 1) := by decide +kernel
theorem dX7_noteFacts_5 : decode cX7_noteFacts 5 = .ok (.bipush 16, 2) := by decide +kernel
theorem dX7_noteFacts_7 : decode cX7_noteFacts 7 = .ok (.aload_n 1, 1) := by decide +kernel
theorem dX7_noteFacts_8 : decode cX7_noteFacts 8 = .ok (.getfield 238, 3) := by decide +kernel
theorem dX7_noteFacts_11 : decode cX7_noteFacts 11 = .ok (.imul, 1) := by decide +kernel
theorem dX7_noteFacts_12 : decode cX7_noteFacts 12 = .ok (.iconst 2, 1) := by decide +kernel
theorem dX7_noteFacts_13 : decode cX7_noteFacts 13 = .ok (.aload_n 1, 1) := by decide +kernel
theorem dX7_noteFacts_14 : decode cX7_noteFacts 14 = .ok (.getfield 241, 3) := by decide +kernel
theorem dX7_noteFacts_17 : decode cX7_noteFacts 17 = .ok (.iconst 0, 1) := by decide +kernel
theorem dX7_noteFacts_18 : decode cX7_noteFacts 18 = .ok (.iaload, 1) := by decide +kernel
theorem dX7_noteFacts_19 : decode cX7_noteFacts 19 = .ok (.aload_n 1, 1) := by decide +kernel
theorem dX7_noteFacts_20 : decode cX7_noteFacts 20 = .ok (.getfield 241, 3) := by decide +kernel
theorem dX7_noteFacts_23 : decode cX7_noteFacts 23 = .ok (.iconst 1, 1) := by decide +kernel
theorem dX7_noteFacts_24 : decode cX7_noteFacts 24 = .ok (.iaload, 1) := by decide +kernel
theorem dX7_noteFacts_25 : decode cX7_noteFacts 25 = .ok (.iadd, 1) := by decide +kernel
theorem dX7_noteFacts_26 : decode cX7_noteFacts 26 = .ok (.imul, 1) := by decide +kernel
theorem dX7_noteFacts_27 : decode cX7_noteFacts 27 = .ok (.isub, 1) := by decide +kernel
theorem dX7_noteFacts_28 : decode cX7_noteFacts 28 = .ok (.iastore, 1) := by decide +kernel
theorem dX7_noteFacts_29 : decode cX7_noteFacts 29 = .ok (.aload_n 0, 1) := by decide +kernel
theorem dX7_noteFacts_30 : decode cX7_noteFacts 30 = .ok (.getfield 25, 3) := by decide +kernel
theorem dX7_noteFacts_33 : decode cX7_noteFacts 33 = .ok (.iload_n 2, 1) := by decide +kernel
theorem dX7_noteFacts_34 : decode cX7_noteFacts 34 = .ok (.iconst 1, 1) := by decide +kernel
theorem dX7_noteFacts_35 : decode cX7_noteFacts 35 = .ok (.iadd, 1) := by decide +kernel
theorem dX7_noteFacts_36 : decode cX7_noteFacts 36 = .ok (.bipush 16, 2) := by decide +kernel
theorem dX7_noteFacts_38 : decode cX7_noteFacts 38 = .ok (.aload_n 1, 1) := by decide +kernel
theorem dX7_noteFacts_39 : decode cX7_noteFacts 39 = .ok (.getfield 244, 3) := by decide +kernel
theorem dX7_noteFacts_42 : decode cX7_noteFacts 42 = .ok (.imul, 1) := by decide +kernel
theorem dX7_noteFacts_43 : decode cX7_noteFacts 43 = .ok (.iconst 2, 1) := by decide +kernel
theorem dX7_noteFacts_44 : decode cX7_noteFacts 44 = .ok (.aload_n 1, 1) := by decide +kernel
theorem dX7_noteFacts_45 : decode cX7_noteFacts 45 = .ok (.getfield 241, 3) := by decide +kernel
theorem dX7_noteFacts_48 : decode cX7_noteFacts 48 = .ok (.iconst 2, 1) := by decide +kernel
theorem dX7_noteFacts_49 : decode cX7_noteFacts 49 = .ok (.iaload, 1) := by decide +kernel
theorem dX7_noteFacts_50 : decode cX7_noteFacts 50 = .ok (.aload_n 1, 1) := by decide +kernel
theorem dX7_noteFacts_51 : decode cX7_noteFacts 51 = .ok (.getfield 241, 3) := by decide +kernel
theorem dX7_noteFacts_54 : decode cX7_noteFacts 54 = .ok (.iconst 3, 1) := by decide +kernel
theorem dX7_noteFacts_55 : decode cX7_noteFacts 55 = .ok (.iaload, 1) := by decide +kernel
theorem dX7_noteFacts_56 : decode cX7_noteFacts 56 = .ok (.iadd, 1) := by decide +kernel
theorem dX7_noteFacts_57 : decode cX7_noteFacts 57 = .ok (.imul, 1) := by decide +kernel
theorem dX7_noteFacts_58 : decode cX7_noteFacts 58 = .ok (.isub, 1) := by decide +kernel
theorem dX7_noteFacts_59 : decode cX7_noteFacts 59 = .ok (.iastore, 1) := by decide +kernel
theorem dX7_noteFacts_60 : decode cX7_noteFacts 60 = .ok (.aload_n 0, 1) := by decide +kernel
theorem dX7_noteFacts_61 : decode cX7_noteFacts 61 = .ok (.getfield 25, 3) := by decide +kernel
theorem dX7_noteFacts_64 : decode cX7_noteFacts 64 = .ok (.iload_n 2, 1) := by decide +kernel
theorem dX7_noteFacts_65 : decode cX7_noteFacts 65 = .ok (.iconst 2, 1) := by decide +kernel
theorem dX7_noteFacts_66 : decode cX7_noteFacts 66 = .ok (.iadd, 1) := by decide +kernel
theorem dX7_noteFacts_67 : decode cX7_noteFacts 67 = .ok (.aload_n 1, 1) := by decide +kernel
theorem dX7_noteFacts_68 : decode cX7_noteFacts 68 = .ok (.getfield 126, 3) := by decide +kernel
theorem dX7_noteFacts_71 : decode cX7_noteFacts 71 = .ok (.iastore, 1) := by decide +kernel
theorem dX7_noteFacts_72 : decode cX7_noteFacts 72 = .ok (.aload_n 0, 1) := by decide +kernel
theorem dX7_noteFacts_73 : decode cX7_noteFacts 73 = .ok (.getfield 25, 3) := by decide +kernel
theorem dX7_noteFacts_76 : decode cX7_noteFacts 76 = .ok (.iload_n 2, 1) := by decide +kernel
theorem dX7_noteFacts_77 : decode cX7_noteFacts 77 = .ok (.iconst 3, 1) := by decide +kernel
theorem dX7_noteFacts_78 : decode cX7_noteFacts 78 = .ok (.iadd, 1) := by decide +kernel
theorem dX7_noteFacts_79 : decode cX7_noteFacts 79 = .ok (.aload_n 1, 1) := by decide +kernel
theorem dX7_noteFacts_80 : decode cX7_noteFacts 80 = .ok (.getfield 247, 3) := by decide +kernel
theorem dX7_noteFacts_83 : decode cX7_noteFacts 83 = .ok (.iastore, 1) := by decide +kernel
theorem dX7_noteFacts_84 : decode cX7_noteFacts 84 = .ok (.aload_n 0, 1) := by decide +kernel
theorem dX7_noteFacts_85 : decode cX7_noteFacts 85 = .ok (.getfield 25, 3) := by decide +kernel
theorem dX7_noteFacts_88 : decode cX7_noteFacts 88 = .ok (.iload_n 2, 1) := by decide +kernel
theorem dX7_noteFacts_89 : decode cX7_noteFacts 89 = .ok (.iconst 4, 1) := by decide +kernel
theorem dX7_noteFacts_90 : decode cX7_noteFacts 90 = .ok (.iadd, 1) := by decide +kernel
theorem dX7_noteFacts_91 : decode cX7_noteFacts 91 = .ok (.aload_n 1, 1) := by decide +kernel
theorem dX7_noteFacts_92 : decode cX7_noteFacts 92 = .ok (.getfield 250, 3) := by decide +kernel
theorem dX7_noteFacts_95 : decode cX7_noteFacts 95 = .ok (.iastore, 1) := by decide +kernel
theorem dX7_noteFacts_96 : decode cX7_noteFacts 96 = .ok (.aload_n 0, 1) := by decide +kernel
theorem dX7_noteFacts_97 : decode cX7_noteFacts 97 = .ok (.getfield 25, 3) := by decide +kernel
theorem dX7_noteFacts_100 : decode cX7_noteFacts 100 = .ok (.iload_n 2, 1) := by decide +kernel
theorem dX7_noteFacts_101 : decode cX7_noteFacts 101 = .ok (.iconst 5, 1) := by decide +kernel
theorem dX7_noteFacts_102 : decode cX7_noteFacts 102 = .ok (.iadd, 1) := by decide +kernel
theorem dX7_noteFacts_103 : decode cX7_noteFacts 103 = .ok (.aload_n 1, 1) := by decide +kernel
theorem dX7_noteFacts_104 : decode cX7_noteFacts 104 = .ok (.getfield 228, 3) := by decide +kernel
theorem dX7_noteFacts_107 : decode cX7_noteFacts 107 = .ok (.ifCond .eq 7, 3) := by decide +kernel
theorem dX7_noteFacts_110 : decode cX7_noteFacts 110 = .ok (.iconst 1, 1) := by decide +kernel
theorem dX7_noteFacts_111 : decode cX7_noteFacts 111 = .ok (.goto 4, 3) := by decide +kernel
theorem dX7_noteFacts_114 : decode cX7_noteFacts 114 = .ok (.iconst 0, 1) := by decide +kernel
theorem dX7_noteFacts_115 : decode cX7_noteFacts 115 = .ok (.iastore, 1) := by decide +kernel
theorem dX7_noteFacts_116 : decode cX7_noteFacts 116 = .ok (.aload_n 0, 1) := by decide +kernel
theorem dX7_noteFacts_117 : decode cX7_noteFacts 117 = .ok (.getfield 25, 3) := by decide +kernel
theorem dX7_noteFacts_120 : decode cX7_noteFacts 120 = .ok (.iload_n 2, 1) := by decide +kernel
theorem dX7_noteFacts_121 : decode cX7_noteFacts 121 = .ok (.bipush 6, 2) := by decide +kernel
theorem dX7_noteFacts_123 : decode cX7_noteFacts 123 = .ok (.iadd, 1) := by decide +kernel
theorem dX7_noteFacts_124 : decode cX7_noteFacts 124 = .ok (.aload_n 1, 1) := by decide +kernel
theorem dX7_noteFacts_125 : decode cX7_noteFacts 125 = .ok (.getfield 253, 3) := by decide +kernel
theorem dX7_noteFacts_128 : decode cX7_noteFacts 128 = .ok (.iastore, 1) := by decide +kernel
theorem dX7_noteFacts_129 : decode cX7_noteFacts 129 = .ok (.return_, 1) := by decide +kernel
def FX7_noteFacts (G : GG) (M : DD) (a : Nat) (p0 : Option Nat) (p1 : Int32) : Option (DD) :=
  dr G 4 p0 fun b1 =>
  ltt (M.1 b1 1) fun x2 =>
  ltt ((((16 : Int32)) * x2)) fun x3 =>
  dr G 13 ((M.2 b1 3)) fun b4 =>
  chk (¬ (((0 : Int32)) < 0 ∨ G.2.2 b4 ≤ ((0 : Int32)).toNatClampNeg)) <|
  ltt (M.1 b4 ((0 : Int32)).toNatClampNeg) fun x5 =>
  chk (¬ (((1 : Int32)) < 0 ∨ G.2.2 b4 ≤ ((1 : Int32)).toNatClampNeg)) <|
  ltt (M.1 b4 ((1 : Int32)).toNatClampNeg) fun x6 =>
  ltt ((x5 + x6)) fun x7 =>
  ltt ((((2 : Int32)) * x7)) fun x8 =>
  ltt ((x3 - x8)) fun x9 =>
  dr G 13 ((M.2 a 16)) fun b10 =>
  chk (¬ (p1 < 0 ∨ G.2.2 b10 ≤ p1.toNatClampNeg)) <|
  ltt (uI M b10 p1.toNatClampNeg x9) fun M11 =>
  ltt ((p1 + ((1 : Int32)))) fun x12 =>
  ltt (M11.1 b1 2) fun x13 =>
  ltt ((((16 : Int32)) * x13)) fun x14 =>
  dr G 13 ((M11.2 b1 3)) fun b15 =>
  chk (¬ (((2 : Int32)) < 0 ∨ G.2.2 b15 ≤ ((2 : Int32)).toNatClampNeg)) <|
  ltt (M11.1 b15 ((2 : Int32)).toNatClampNeg) fun x16 =>
  chk (¬ (((3 : Int32)) < 0 ∨ G.2.2 b15 ≤ ((3 : Int32)).toNatClampNeg)) <|
  ltt (M11.1 b15 ((3 : Int32)).toNatClampNeg) fun x17 =>
  ltt ((x16 + x17)) fun x18 =>
  ltt ((((2 : Int32)) * x18)) fun x19 =>
  ltt ((x14 - x19)) fun x20 =>
  dr G 13 ((M11.2 a 16)) fun b21 =>
  chk (¬ (x12 < 0 ∨ G.2.2 b21 ≤ x12.toNatClampNeg)) <|
  ltt (uI M11 b21 x12.toNatClampNeg x20) fun M22 =>
  ltt ((p1 + ((2 : Int32)))) fun x23 =>
  ltt (M22.1 b1 9) fun x24 =>
  dr G 13 ((M22.2 a 16)) fun b25 =>
  chk (¬ (x23 < 0 ∨ G.2.2 b25 ≤ x23.toNatClampNeg)) <|
  ltt (uI M22 b25 x23.toNatClampNeg x24) fun M26 =>
  ltt ((p1 + ((3 : Int32)))) fun x27 =>
  ltt (M26.1 b1 15) fun x28 =>
  dr G 13 ((M26.2 a 16)) fun b29 =>
  chk (¬ (x27 < 0 ∨ G.2.2 b29 ≤ x27.toNatClampNeg)) <|
  ltt (uI M26 b29 x27.toNatClampNeg x28) fun M30 =>
  ltt ((p1 + ((4 : Int32)))) fun x31 =>
  ltt (M30.1 b1 16) fun x32 =>
  dr G 13 ((M30.2 a 16)) fun b33 =>
  chk (¬ (x31 < 0 ∨ G.2.2 b33 ≤ x31.toNatClampNeg)) <|
  ltt (uI M30 b33 x31.toNatClampNeg x32) fun M34 =>
  ltt ((p1 + ((5 : Int32)))) fun x35 =>
  ltt (M34.1 b1 14) fun x36 =>
  bnd (if x36 = ((0 : Int32)) then (some ((0 : Int32))) else
  (some ((1 : Int32)))) fun (y37 : Int32) =>
  dr G 13 ((M34.2 a 16)) fun b38 =>
  chk (¬ (x35 < 0 ∨ G.2.2 b38 ≤ x35.toNatClampNeg)) <|
  ltt (uI M34 b38 x35.toNatClampNeg y37) fun M39 =>
  ltt ((p1 + ((6 : Int32)))) fun x40 =>
  ltt (M39.1 b1 17) fun x41 =>
  dr G 13 ((M39.2 a 16)) fun b42 =>
  chk (¬ (x40 < 0 ∨ G.2.2 b42 ≤ x40.toNatClampNeg)) <|
  ltt (uI M39 b42 x40.toNatClampNeg x41) fun M43 =>
  some M43
set_option maxHeartbeats 4000000 in
set_option maxRecDepth 100000 in
theorem kX7_noteFacts (l : Launch) (D : va_G) (ct : CT) (ad : Nat → Nat) (Z : Nat → Nat) (G : GG) (M : DD) (sz : Nat) (a : Nat) (p0 : Option Nat) (p1 : Int32) (y : DD) (hc : a < G.1) (hk : G.2.1 a = 7) (hF : FX7_noteFacts G M a p0 p1 = some y) : Met l yX7_noteFacts wsX7_noteFacts ({ frames := 0, cells := 0, slots := 0, locals := 0 }) (va_Pc [.ref (ad a), va_re ad p0, .int p1] (kB D ct ad Z G M sz)) (va_Qv (fun (_ : Unit) => True) (fun _ t => kE D ct ad G (wA ad G sz) y t) (wA ad G sz)) 0 0 (wA ad G sz) := by
  refine Met.ofW (cc := cX7_noteFacts) (maxL := 3) (ret := none) (by decide) rfl ?_
  intro p e s m args below meth c s₁ B hml hv
  obtain ⟨rfl, hsz, hP, hK, hD0, hZ, hN⟩ := hv
  have hx := B.exec
  have hb := B.bytes
  have hr := B.returns
  have hts := atoms_spec (ws := wsX7_noteFacts) B.pre
  have hown : s.vm.findClass RX7 = some m.cls := findClass_of_methodNamed B.named
  have hlocks := B.notSynchronized
  subst hsz
  have hD := wD_self (sz := s.heap.size) hD0
  have hA9 : ∀ q, s.heap.size ≤ q → wA ad G s.heap.size q := fun q h => Or.inr h
  generalize hAe : wA ad G s.heap.size = A at hD hA9 hZ ⊢
  have hS : va_S A s.heap s.heap [] := va_S.rf
  have hl := lv_entry ([.ref (ad a), va_re ad p0, .int p1]) (n := 3) (by cases p0 <;> exact Nat.le_of_ble_eq_true rfl)
  rw [lg_entry_eq]
  generalize (lg_sl ([.ref (ad a), va_re ad p0, .int p1]) ++ List.replicate (3 - (lg_sl ([.ref (ad a), va_re ad p0, .int p1])).length) Slot.unset).toArray = ls at hl ⊢
  have hl : lv_has ls 3 [(0, .ref (ad a)), (1, va_re ad p0), (2, .int p1)] := by have e9 : lv_args 0 [.ref (ad a), va_re ad p0, .int p1] = [(0, .ref (ad a)), (1, va_re ad p0), (2, .int p1)] := (by cases p0 <;> rfl); rw [e9] at hl; exact hl
  unfold FX7_noteFacts at hF
  refine lv_aload_n hx hb dX7_noteFacts_0 rfl (lv_at hl 0 rfl) ?_
  refine va_get (D := D) (ci := 7) (v := va_re ad (M.2 a 16)) (C := RX7) (T := TX7) (N := 17) hx hb hts (by decide +kernel) hown hK hP a (wld_o ct ad G M hc hk (by decide)) rfl 16 (by decide) (hts (.fieldLink RX7 25 "VideoSuite$Store" "outFact" "[I") (by decide +kernel)) (fun _ h9 => h9) rfl dX7_noteFacts_1 ?_
  refine lv_iload_n hx hb dX7_noteFacts_4 rfl (lv_at hl 2 rfl) ?_
  refine lv_bipush (v := (16 : Int32)) hx hb dX7_noteFacts_5 (by decide) ?_
  refine lv_aloadq_n hx hb dX7_noteFacts_7 rfl (lv_at hl 1 rfl) ?_
  obtain ⟨b1, ho1, hc1, hk1, hF⟩ := dr_some hF
  refine W_st (st' := [.ref (ad b1), .int (16 : Int32), .int p1, va_re ad (M.2 a 16)]) (by rw [va_some ho1]) ?_
  refine va_get (D := D) (ci := 4) (v := .int (M.1 b1 1)) (C := RX4) (T := TX4) (N := 18) hx hb hts (by decide +kernel) hown hK hP b1 (wld_o ct ad G M hc1 hk1 (by decide)) rfl 1 (by decide) (hts (.fieldLink RX7 238 "VideoSuite$Picture" "width" "I") (by decide +kernel)) (fun _ h9 => h9) rfl dX7_noteFacts_8 ?_
  obtain ⟨x2, ex2, hF⟩ := ltt_some hF
  refine lv_topi (fun zx2 ezx2 => ?_)
  obtain rfl : x2 = zx2 := ex2.trans ezx2.symm
  refine lv_imul hx hb dX7_noteFacts_11 ?_
  obtain ⟨x3, ex3, hF⟩ := ltt_some hF
  refine lv_topi (fun zx3 ezx3 => ?_)
  obtain rfl : x3 = zx3 := ex3.trans ezx3.symm
  refine lv_iconst (v := (2 : Int32)) hx hb dX7_noteFacts_12 (by decide) ?_
  refine lv_aloadq_n hx hb dX7_noteFacts_13 rfl (lv_at hl 1 rfl) ?_
  refine W_st (st' := [.ref (ad b1), .int (2 : Int32), .int x3, .int p1, va_re ad (M.2 a 16)]) (by rw [va_some ho1]) ?_
  refine va_get (D := D) (ci := 4) (v := va_re ad (M.2 b1 3)) (C := RX4) (T := TX4) (N := 18) hx hb hts (by decide +kernel) hown hK hP b1 (wld_o ct ad G M hc1 hk1 (by decide)) rfl 3 (by decide) (hts (.fieldLink RX7 241 "VideoSuite$Picture" "crop" "[I") (by decide +kernel)) (fun _ h9 => h9) rfl dX7_noteFacts_14 ?_
  refine lv_iconst (v := (0 : Int32)) hx hb dX7_noteFacts_17 (by decide) ?_
  obtain ⟨b4, ho4, hc4, hk4, hF⟩ := dr_some hF
  refine W_st (st' := [.int (0 : Int32), .ref (ad b4), .int (2 : Int32), .int x3, .int p1, va_re ad (M.2 a 16)]) (by rw [va_some ho4]) ?_
  obtain ⟨hvc, hF⟩ := chk_some hF
  refine va_iald hx hb hK hP b4 1 (wld_i ct ad G M hc4 hk4) rfl hvc dX7_noteFacts_18 ?_
  obtain ⟨x5, ex5, hF⟩ := ltt_some hF
  refine lv_topi (fun zx5 ezx5 => ?_)
  obtain rfl : x5 = zx5 := ex5.trans ezx5.symm
  refine lv_aloadq_n hx hb dX7_noteFacts_19 rfl (lv_at hl 1 rfl) ?_
  refine W_st (st' := [.ref (ad b1), .int x5, .int (2 : Int32), .int x3, .int p1, va_re ad (M.2 a 16)]) (by rw [va_some ho1]) ?_
  refine va_get (D := D) (ci := 4) (v := va_re ad (M.2 b1 3)) (C := RX4) (T := TX4) (N := 18) hx hb hts (by decide +kernel) hown hK hP b1 (wld_o ct ad G M hc1 hk1 (by decide)) rfl 3 (by decide) (hts (.fieldLink RX7 241 "VideoSuite$Picture" "crop" "[I") (by decide +kernel)) (fun _ h9 => h9) rfl dX7_noteFacts_20 ?_
  refine lv_iconst (v := (1 : Int32)) hx hb dX7_noteFacts_23 (by decide) ?_
  refine W_st (st' := [.int (1 : Int32), .ref (ad b4), .int x5, .int (2 : Int32), .int x3, .int p1, va_re ad (M.2 a 16)]) (by rw [va_some ho4]) ?_
  obtain ⟨hvc, hF⟩ := chk_some hF
  refine va_iald hx hb hK hP b4 1 (wld_i ct ad G M hc4 hk4) rfl hvc dX7_noteFacts_24 ?_
  obtain ⟨x6, ex6, hF⟩ := ltt_some hF
  refine lv_topi (fun zx6 ezx6 => ?_)
  obtain rfl : x6 = zx6 := ex6.trans ezx6.symm
  refine lv_iadd hx hb dX7_noteFacts_25 ?_
  obtain ⟨x7, ex7, hF⟩ := ltt_some hF
  refine lv_topi (fun zx7 ezx7 => ?_)
  obtain rfl : x7 = zx7 := ex7.trans ezx7.symm
  refine lv_imul hx hb dX7_noteFacts_26 ?_
  obtain ⟨x8, ex8, hF⟩ := ltt_some hF
  refine lv_topi (fun zx8 ezx8 => ?_)
  obtain rfl : x8 = zx8 := ex8.trans ezx8.symm
  refine lv_isub hx hb dX7_noteFacts_27 ?_
  obtain ⟨x9, ex9, hF⟩ := ltt_some hF
  refine lv_topi (fun zx9 ezx9 => ?_)
  obtain rfl : x9 = zx9 := ex9.trans ezx9.symm
  obtain ⟨b10, ho10, hc10, hk10, hF⟩ := dr_some hF
  refine W_st (st' := [.int x9, .int p1, .ref (ad b10)]) (by rw [va_some ho10]) ?_
  obtain ⟨hvc, hF⟩ := chk_some hF
  refine va_iast hx hb hK hP hD hS b10 1 (wld_i ct ad G M hc10 hk10) rfl hvc dX7_noteFacts_28 (fun H locs hP hD hS => ?_)
  obtain ⟨M11, eM11, hF⟩ := ltt_some hF
  rw [set_i ct ad G M hc10 hk10, ← eM11] at hP hD
  refine lv_aload_n hx hb dX7_noteFacts_29 rfl (lv_at hl 0 rfl) ?_
  refine va_get (D := D) (ci := 7) (v := va_re ad (M11.2 a 16)) (C := RX7) (T := TX7) (N := 17) hx hb hts (by decide +kernel) hown hK hP a (wld_o ct ad G M11 hc hk (by decide)) rfl 16 (by decide) (hts (.fieldLink RX7 25 "VideoSuite$Store" "outFact" "[I") (by decide +kernel)) (fun _ h9 => h9) rfl dX7_noteFacts_30 ?_
  refine lv_iload_n hx hb dX7_noteFacts_33 rfl (lv_at hl 2 rfl) ?_
  refine lv_iconst (v := (1 : Int32)) hx hb dX7_noteFacts_34 (by decide) ?_
  refine lv_iadd hx hb dX7_noteFacts_35 ?_
  obtain ⟨x12, ex12, hF⟩ := ltt_some hF
  refine lv_topi (fun zx12 ezx12 => ?_)
  obtain rfl : x12 = zx12 := ex12.trans ezx12.symm
  refine lv_bipush (v := (16 : Int32)) hx hb dX7_noteFacts_36 (by decide) ?_
  refine lv_aloadq_n hx hb dX7_noteFacts_38 rfl (lv_at hl 1 rfl) ?_
  refine W_st (st' := [.ref (ad b1), .int (16 : Int32), .int x12, va_re ad (M11.2 a 16)]) (by rw [va_some ho1]) ?_
  refine va_get (D := D) (ci := 4) (v := .int (M11.1 b1 2)) (C := RX4) (T := TX4) (N := 18) hx hb hts (by decide +kernel) hown hK hP b1 (wld_o ct ad G M11 hc1 hk1 (by decide)) rfl 2 (by decide) (hts (.fieldLink RX7 244 "VideoSuite$Picture" "height" "I") (by decide +kernel)) (fun _ h9 => h9) rfl dX7_noteFacts_39 ?_
  obtain ⟨x13, ex13, hF⟩ := ltt_some hF
  refine lv_topi (fun zx13 ezx13 => ?_)
  obtain rfl : x13 = zx13 := ex13.trans ezx13.symm
  refine lv_imul hx hb dX7_noteFacts_42 ?_
  obtain ⟨x14, ex14, hF⟩ := ltt_some hF
  refine lv_topi (fun zx14 ezx14 => ?_)
  obtain rfl : x14 = zx14 := ex14.trans ezx14.symm
  refine lv_iconst (v := (2 : Int32)) hx hb dX7_noteFacts_43 (by decide) ?_
  refine lv_aloadq_n hx hb dX7_noteFacts_44 rfl (lv_at hl 1 rfl) ?_
  refine W_st (st' := [.ref (ad b1), .int (2 : Int32), .int x14, .int x12, va_re ad (M11.2 a 16)]) (by rw [va_some ho1]) ?_
  refine va_get (D := D) (ci := 4) (v := va_re ad (M11.2 b1 3)) (C := RX4) (T := TX4) (N := 18) hx hb hts (by decide +kernel) hown hK hP b1 (wld_o ct ad G M11 hc1 hk1 (by decide)) rfl 3 (by decide) (hts (.fieldLink RX7 241 "VideoSuite$Picture" "crop" "[I") (by decide +kernel)) (fun _ h9 => h9) rfl dX7_noteFacts_45 ?_
  refine lv_iconst (v := (2 : Int32)) hx hb dX7_noteFacts_48 (by decide) ?_
  obtain ⟨b15, ho15, hc15, hk15, hF⟩ := dr_some hF
  refine W_st (st' := [.int (2 : Int32), .ref (ad b15), .int (2 : Int32), .int x14, .int x12, va_re ad (M11.2 a 16)]) (by rw [va_some ho15]) ?_
  obtain ⟨hvc, hF⟩ := chk_some hF
  refine va_iald hx hb hK hP b15 1 (wld_i ct ad G M11 hc15 hk15) rfl hvc dX7_noteFacts_49 ?_
  obtain ⟨x16, ex16, hF⟩ := ltt_some hF
  refine lv_topi (fun zx16 ezx16 => ?_)
  obtain rfl : x16 = zx16 := ex16.trans ezx16.symm
  refine lv_aloadq_n hx hb dX7_noteFacts_50 rfl (lv_at hl 1 rfl) ?_
  refine W_st (st' := [.ref (ad b1), .int x16, .int (2 : Int32), .int x14, .int x12, va_re ad (M11.2 a 16)]) (by rw [va_some ho1]) ?_
  refine va_get (D := D) (ci := 4) (v := va_re ad (M11.2 b1 3)) (C := RX4) (T := TX4) (N := 18) hx hb hts (by decide +kernel) hown hK hP b1 (wld_o ct ad G M11 hc1 hk1 (by decide)) rfl 3 (by decide) (hts (.fieldLink RX7 241 "VideoSuite$Picture" "crop" "[I") (by decide +kernel)) (fun _ h9 => h9) rfl dX7_noteFacts_51 ?_
  refine lv_iconst (v := (3 : Int32)) hx hb dX7_noteFacts_54 (by decide) ?_
  refine W_st (st' := [.int (3 : Int32), .ref (ad b15), .int x16, .int (2 : Int32), .int x14, .int x12, va_re ad (M11.2 a 16)]) (by rw [va_some ho15]) ?_
  obtain ⟨hvc, hF⟩ := chk_some hF
  refine va_iald hx hb hK hP b15 1 (wld_i ct ad G M11 hc15 hk15) rfl hvc dX7_noteFacts_55 ?_
  obtain ⟨x17, ex17, hF⟩ := ltt_some hF
  refine lv_topi (fun zx17 ezx17 => ?_)
  obtain rfl : x17 = zx17 := ex17.trans ezx17.symm
  refine lv_iadd hx hb dX7_noteFacts_56 ?_
  obtain ⟨x18, ex18, hF⟩ := ltt_some hF
  refine lv_topi (fun zx18 ezx18 => ?_)
  obtain rfl : x18 = zx18 := ex18.trans ezx18.symm
  refine lv_imul hx hb dX7_noteFacts_57 ?_
  obtain ⟨x19, ex19, hF⟩ := ltt_some hF
  refine lv_topi (fun zx19 ezx19 => ?_)
  obtain rfl : x19 = zx19 := ex19.trans ezx19.symm
  refine lv_isub hx hb dX7_noteFacts_58 ?_
  obtain ⟨x20, ex20, hF⟩ := ltt_some hF
  refine lv_topi (fun zx20 ezx20 => ?_)
  obtain rfl : x20 = zx20 := ex20.trans ezx20.symm
  obtain ⟨b21, ho21, hc21, hk21, hF⟩ := dr_some hF
  refine W_st (st' := [.int x20, .int x12, .ref (ad b21)]) (by rw [va_some ho21]) ?_
  obtain ⟨hvc, hF⟩ := chk_some hF
  refine va_iast hx hb hK hP hD hS b21 1 (wld_i ct ad G M11 hc21 hk21) rfl hvc dX7_noteFacts_59 (fun H locs hP hD hS => ?_)
  obtain ⟨M22, eM22, hF⟩ := ltt_some hF
  rw [set_i ct ad G M11 hc21 hk21, ← eM22] at hP hD
  refine lv_aload_n hx hb dX7_noteFacts_60 rfl (lv_at hl 0 rfl) ?_
  refine va_get (D := D) (ci := 7) (v := va_re ad (M22.2 a 16)) (C := RX7) (T := TX7) (N := 17) hx hb hts (by decide +kernel) hown hK hP a (wld_o ct ad G M22 hc hk (by decide)) rfl 16 (by decide) (hts (.fieldLink RX7 25 "VideoSuite$Store" "outFact" "[I") (by decide +kernel)) (fun _ h9 => h9) rfl dX7_noteFacts_61 ?_
  refine lv_iload_n hx hb dX7_noteFacts_64 rfl (lv_at hl 2 rfl) ?_
  refine lv_iconst (v := (2 : Int32)) hx hb dX7_noteFacts_65 (by decide) ?_
  refine lv_iadd hx hb dX7_noteFacts_66 ?_
  obtain ⟨x23, ex23, hF⟩ := ltt_some hF
  refine lv_topi (fun zx23 ezx23 => ?_)
  obtain rfl : x23 = zx23 := ex23.trans ezx23.symm
  refine lv_aloadq_n hx hb dX7_noteFacts_67 rfl (lv_at hl 1 rfl) ?_
  refine W_st (st' := [.ref (ad b1), .int x23, va_re ad (M22.2 a 16)]) (by rw [va_some ho1]) ?_
  refine va_get (D := D) (ci := 4) (v := .int (M22.1 b1 9)) (C := RX4) (T := TX4) (N := 18) hx hb hts (by decide +kernel) hown hK hP b1 (wld_o ct ad G M22 hc1 hk1 (by decide)) rfl 9 (by decide) (hts (.fieldLink RX7 126 "VideoSuite$Picture" "order" "I") (by decide +kernel)) (fun _ h9 => h9) rfl dX7_noteFacts_68 ?_
  obtain ⟨x24, ex24, hF⟩ := ltt_some hF
  refine lv_topi (fun zx24 ezx24 => ?_)
  obtain rfl : x24 = zx24 := ex24.trans ezx24.symm
  obtain ⟨b25, ho25, hc25, hk25, hF⟩ := dr_some hF
  refine W_st (st' := [.int x24, .int x23, .ref (ad b25)]) (by rw [va_some ho25]) ?_
  obtain ⟨hvc, hF⟩ := chk_some hF
  refine va_iast hx hb hK hP hD hS b25 1 (wld_i ct ad G M22 hc25 hk25) rfl hvc dX7_noteFacts_71 (fun H locs hP hD hS => ?_)
  obtain ⟨M26, eM26, hF⟩ := ltt_some hF
  rw [set_i ct ad G M22 hc25 hk25, ← eM26] at hP hD
  refine lv_aload_n hx hb dX7_noteFacts_72 rfl (lv_at hl 0 rfl) ?_
  refine va_get (D := D) (ci := 7) (v := va_re ad (M26.2 a 16)) (C := RX7) (T := TX7) (N := 17) hx hb hts (by decide +kernel) hown hK hP a (wld_o ct ad G M26 hc hk (by decide)) rfl 16 (by decide) (hts (.fieldLink RX7 25 "VideoSuite$Store" "outFact" "[I") (by decide +kernel)) (fun _ h9 => h9) rfl dX7_noteFacts_73 ?_
  refine lv_iload_n hx hb dX7_noteFacts_76 rfl (lv_at hl 2 rfl) ?_
  refine lv_iconst (v := (3 : Int32)) hx hb dX7_noteFacts_77 (by decide) ?_
  refine lv_iadd hx hb dX7_noteFacts_78 ?_
  obtain ⟨x27, ex27, hF⟩ := ltt_some hF
  refine lv_topi (fun zx27 ezx27 => ?_)
  obtain rfl : x27 = zx27 := ex27.trans ezx27.symm
  refine lv_aloadq_n hx hb dX7_noteFacts_79 rfl (lv_at hl 1 rfl) ?_
  refine W_st (st' := [.ref (ad b1), .int x27, va_re ad (M26.2 a 16)]) (by rw [va_some ho1]) ?_
  refine va_get (D := D) (ci := 4) (v := .int (M26.1 b1 15)) (C := RX4) (T := TX4) (N := 18) hx hb hts (by decide +kernel) hown hK hP b1 (wld_o ct ad G M26 hc1 hk1 (by decide)) rfl 15 (by decide) (hts (.fieldLink RX7 247 "VideoSuite$Picture" "sort" "I") (by decide +kernel)) (fun _ h9 => h9) rfl dX7_noteFacts_80 ?_
  obtain ⟨x28, ex28, hF⟩ := ltt_some hF
  refine lv_topi (fun zx28 ezx28 => ?_)
  obtain rfl : x28 = zx28 := ex28.trans ezx28.symm
  obtain ⟨b29, ho29, hc29, hk29, hF⟩ := dr_some hF
  refine W_st (st' := [.int x28, .int x27, .ref (ad b29)]) (by rw [va_some ho29]) ?_
  obtain ⟨hvc, hF⟩ := chk_some hF
  refine va_iast hx hb hK hP hD hS b29 1 (wld_i ct ad G M26 hc29 hk29) rfl hvc dX7_noteFacts_83 (fun H locs hP hD hS => ?_)
  obtain ⟨M30, eM30, hF⟩ := ltt_some hF
  rw [set_i ct ad G M26 hc29 hk29, ← eM30] at hP hD
  refine lv_aload_n hx hb dX7_noteFacts_84 rfl (lv_at hl 0 rfl) ?_
  refine va_get (D := D) (ci := 7) (v := va_re ad (M30.2 a 16)) (C := RX7) (T := TX7) (N := 17) hx hb hts (by decide +kernel) hown hK hP a (wld_o ct ad G M30 hc hk (by decide)) rfl 16 (by decide) (hts (.fieldLink RX7 25 "VideoSuite$Store" "outFact" "[I") (by decide +kernel)) (fun _ h9 => h9) rfl dX7_noteFacts_85 ?_
  refine lv_iload_n hx hb dX7_noteFacts_88 rfl (lv_at hl 2 rfl) ?_
  refine lv_iconst (v := (4 : Int32)) hx hb dX7_noteFacts_89 (by decide) ?_
  refine lv_iadd hx hb dX7_noteFacts_90 ?_
  obtain ⟨x31, ex31, hF⟩ := ltt_some hF
  refine lv_topi (fun zx31 ezx31 => ?_)
  obtain rfl : x31 = zx31 := ex31.trans ezx31.symm
  refine lv_aloadq_n hx hb dX7_noteFacts_91 rfl (lv_at hl 1 rfl) ?_
  refine W_st (st' := [.ref (ad b1), .int x31, va_re ad (M30.2 a 16)]) (by rw [va_some ho1]) ?_
  refine va_get (D := D) (ci := 4) (v := .int (M30.1 b1 16)) (C := RX4) (T := TX4) (N := 18) hx hb hts (by decide +kernel) hown hK hP b1 (wld_o ct ad G M30 hc1 hk1 (by decide)) rfl 16 (by decide) (hts (.fieldLink RX7 250 "VideoSuite$Picture" "ref" "I") (by decide +kernel)) (fun _ h9 => h9) rfl dX7_noteFacts_92 ?_
  obtain ⟨x32, ex32, hF⟩ := ltt_some hF
  refine lv_topi (fun zx32 ezx32 => ?_)
  obtain rfl : x32 = zx32 := ex32.trans ezx32.symm
  obtain ⟨b33, ho33, hc33, hk33, hF⟩ := dr_some hF
  refine W_st (st' := [.int x32, .int x31, .ref (ad b33)]) (by rw [va_some ho33]) ?_
  obtain ⟨hvc, hF⟩ := chk_some hF
  refine va_iast hx hb hK hP hD hS b33 1 (wld_i ct ad G M30 hc33 hk33) rfl hvc dX7_noteFacts_95 (fun H locs hP hD hS => ?_)
  obtain ⟨M34, eM34, hF⟩ := ltt_some hF
  rw [set_i ct ad G M30 hc33 hk33, ← eM34] at hP hD
  refine lv_aload_n hx hb dX7_noteFacts_96 rfl (lv_at hl 0 rfl) ?_
  refine va_get (D := D) (ci := 7) (v := va_re ad (M34.2 a 16)) (C := RX7) (T := TX7) (N := 17) hx hb hts (by decide +kernel) hown hK hP a (wld_o ct ad G M34 hc hk (by decide)) rfl 16 (by decide) (hts (.fieldLink RX7 25 "VideoSuite$Store" "outFact" "[I") (by decide +kernel)) (fun _ h9 => h9) rfl dX7_noteFacts_97 ?_
  refine lv_iload_n hx hb dX7_noteFacts_100 rfl (lv_at hl 2 rfl) ?_
  refine lv_iconst (v := (5 : Int32)) hx hb dX7_noteFacts_101 (by decide) ?_
  refine lv_iadd hx hb dX7_noteFacts_102 ?_
  obtain ⟨x35, ex35, hF⟩ := ltt_some hF
  refine lv_topi (fun zx35 ezx35 => ?_)
  obtain rfl : x35 = zx35 := ex35.trans ezx35.symm
  refine lv_aloadq_n hx hb dX7_noteFacts_103 rfl (lv_at hl 1 rfl) ?_
  refine W_st (st' := [.ref (ad b1), .int x35, va_re ad (M34.2 a 16)]) (by rw [va_some ho1]) ?_
  refine va_get (D := D) (ci := 4) (v := .int (M34.1 b1 14)) (C := RX4) (T := TX4) (N := 18) hx hb hts (by decide +kernel) hown hK hP b1 (wld_o ct ad G M34 hc1 hk1 (by decide)) rfl 14 (by decide) (hts (.fieldLink RX7 228 "VideoSuite$Picture" "isTrusted" "Z") (by decide +kernel)) (fun _ h9 => h9) rfl dX7_noteFacts_104 ?_
  obtain ⟨x36, ex36, hF⟩ := ltt_some hF
  refine lv_topi (fun zx36 ezx36 => ?_)
  obtain rfl : x36 = zx36 := ex36.trans ezx36.symm
  obtain ⟨y37, hy37, hF⟩ := bnd_some hF
  have J37 : ∀ (H : Heap) (locs : List Loc) (ls : Array Slot), va_P D classes (wld ct ad G M34) H → va_D A (wld ct ad G M34) → va_S A s.heap H locs → lv_has ls 3 [(0, .ref (ad a)), (1, va_re ad p0), (2, .int p1)] → W p l e (headSpec wsX7_noteFacts ({ frames := 0, cells := 0, slots := 0, locals := 0 })).room s m ([.ref (ad a), va_re ad p0, .int p1] : List Value).toArray below meth c H locs 0 0 (MQ below (va_Qv (fun (_ : Unit) => True) (fun _ t => kE D ct ad G A y t) A) ([.ref (ad a), va_re ad p0, .int p1] : List Value).toArray s 0 0 A) (F0 m 115 ls [.int y37, .int x35, va_re ad (M34.2 a 16)]) := by
    intro H locs ls hP hD hS hl
    obtain ⟨b38, ho38, hc38, hk38, hF⟩ := dr_some hF
    refine W_st (st' := [.int y37, .int x35, .ref (ad b38)]) (by rw [va_some ho38]) ?_
    obtain ⟨hvc, hF⟩ := chk_some hF
    refine va_iast hx hb hK hP hD hS b38 1 (wld_i ct ad G M34 hc38 hk38) rfl hvc dX7_noteFacts_115 (fun H locs hP hD hS => ?_)
    obtain ⟨M39, eM39, hF⟩ := ltt_some hF
    rw [set_i ct ad G M34 hc38 hk38, ← eM39] at hP hD
    refine lv_aload_n hx hb dX7_noteFacts_116 rfl (lv_at hl 0 rfl) ?_
    refine va_get (D := D) (ci := 7) (v := va_re ad (M39.2 a 16)) (C := RX7) (T := TX7) (N := 17) hx hb hts (by decide +kernel) hown hK hP a (wld_o ct ad G M39 hc hk (by decide)) rfl 16 (by decide) (hts (.fieldLink RX7 25 "VideoSuite$Store" "outFact" "[I") (by decide +kernel)) (fun _ h9 => h9) rfl dX7_noteFacts_117 ?_
    refine lv_iload_n hx hb dX7_noteFacts_120 rfl (lv_at hl 2 rfl) ?_
    refine lv_bipush (v := (6 : Int32)) hx hb dX7_noteFacts_121 (by decide) ?_
    refine lv_iadd hx hb dX7_noteFacts_123 ?_
    obtain ⟨x40, ex40, hF⟩ := ltt_some hF
    refine lv_topi (fun zx40 ezx40 => ?_)
    obtain rfl : x40 = zx40 := ex40.trans ezx40.symm
    refine lv_aloadq_n hx hb dX7_noteFacts_124 rfl (lv_at hl 1 rfl) ?_
    refine W_st (st' := [.ref (ad b1), .int x40, va_re ad (M39.2 a 16)]) (by rw [va_some ho1]) ?_
    refine va_get (D := D) (ci := 4) (v := .int (M39.1 b1 17)) (C := RX4) (T := TX4) (N := 18) hx hb hts (by decide +kernel) hown hK hP b1 (wld_o ct ad G M39 hc1 hk1 (by decide)) rfl 17 (by decide) (hts (.fieldLink RX7 253 "VideoSuite$Picture" "mended" "I") (by decide +kernel)) (fun _ h9 => h9) rfl dX7_noteFacts_125 ?_
    obtain ⟨x41, ex41, hF⟩ := ltt_some hF
    refine lv_topi (fun zx41 ezx41 => ?_)
    obtain rfl : x41 = zx41 := ex41.trans ezx41.symm
    obtain ⟨b42, ho42, hc42, hk42, hF⟩ := dr_some hF
    refine W_st (st' := [.int x41, .int x40, .ref (ad b42)]) (by rw [va_some ho42]) ?_
    obtain ⟨hvc, hF⟩ := chk_some hF
    refine va_iast hx hb hK hP hD hS b42 1 (wld_i ct ad G M39 hc42 hk42) rfl hvc dX7_noteFacts_128 (fun H locs hP hD hS => ?_)
    obtain ⟨M43, eM43, hF⟩ := ltt_some hF
    rw [set_i ct ad G M39 hc42 hk42, ← eM43] at hP hD
    obtain rfl := Option.some.inj hF
    exact W.vret hx hb hr (fun t ht hW => ⟨⟨(), rfl, trivial, ⟨by rw [ht]; exact hP, va_K.moved hW.alike hK, hD⟩⟩, hS.F ht⟩) hS.2.2 dX7_noteFacts_129
  clear hF
  have hF := hy37
  clear hy37
  refine lv_if_eq (tgt := 114) hx hb dX7_noteFacts_107 (by decide) (fun c44 => ?_) (fun c44 => ?_)
  · rw [if_pos c44] at hF
    refine lv_iconst (v := (0 : Int32)) hx hb dX7_noteFacts_114 (by decide) ?_
    obtain rfl := Option.some.inj hF
    exact J37 _ _ _ hP hD hS (lv_sub hl [0, 1, 2] rfl)
  · rw [if_neg c44] at hF
    refine lv_iconst (v := (1 : Int32)) hx hb dX7_noteFacts_110 (by decide) ?_
    refine lv_goto (tgt := 115) hx hb dX7_noteFacts_111 (by decide) ?_
    obtain rfl := Option.some.inj hF
    exact J37 _ _ _ hP hD hS (lv_sub hl [0, 1, 2] rfl)
theorem dX7_orderByLow_0 : decode cX7_orderByLow 0 = .ok (.iload_n 3, 1) := by decide +kernel
theorem dX7_orderByLow_1 : decode cX7_orderByLow 1 = .ok (.ifCond .eq 7, 3) := by decide +kernel
theorem dX7_orderByLow_4 : decode cX7_orderByLow 4 = .ok (.iconst 0, 1) := by decide +kernel
theorem dX7_orderByLow_5 : decode cX7_orderByLow 5 = .ok (.goto 7, 3) := by decide +kernel
theorem dX7_orderByLow_8 : decode cX7_orderByLow 8 = .ok (.aload_n 0, 1) := by decide +kernel
theorem dX7_orderByLow_9 : decode cX7_orderByLow 9 = .ok (.getfield 49, 3) := by decide +kernel
theorem dX7_orderByLow_12 : decode cX7_orderByLow 12 = .ok (.istore 4, 2) := by decide +kernel
theorem dX7_orderByLow_14 : decode cX7_orderByLow 14 = .ok (.aload_n 0, 1) := by decide +kernel
theorem dX7_orderByLow_15 : decode cX7_orderByLow 15 = .ok (.iload_n 3, 1) := by decide +kernel
theorem dX7_orderByLow_16 : decode cX7_orderByLow 16 = .ok (.ifCond .eq 7, 3) := by decide +kernel
theorem dX7_orderByLow_19 : decode cX7_orderByLow 19 = .ok (.iconst 0, 1) := by decide +kernel
theorem dX7_orderByLow_20 : decode cX7_orderByLow 20 = .ok (.goto 7, 3) := by decide +kernel
theorem dX7_orderByLow_23 : decode cX7_orderByLow 23 = .ok (.aload_n 0, 1) := by decide +kernel
theorem dX7_orderByLow_24 : decode cX7_orderByLow 24 = .ok (.getfield 46, 3) := by decide +kernel
theorem dX7_orderByLow_27 : decode cX7_orderByLow 27 = .ok (.putfield 82, 3) := by decide +kernel
theorem dX7_orderByLow_30 : decode cX7_orderByLow 30 = .ok (.iload 4, 2) := by decide +kernel
theorem dX7_orderByLow_32 : decode cX7_orderByLow 32 = .ok (.aload_n 1, 1) := by decide +kernel
theorem dX7_orderByLow_33 : decode cX7_orderByLow 33 = .ok (.iconst 5, 1) := by decide +kernel
theorem dX7_orderByLow_34 : decode cX7_orderByLow 34 = .ok (.iaload, 1) := by decide +kernel
theorem dX7_orderByLow_35 : decode cX7_orderByLow 35 = .ok (.isub, 1) := by decide +kernel
theorem dX7_orderByLow_36 : decode cX7_orderByLow 36 = .ok (.iload_n 2, 1) := by decide +kernel
theorem dX7_orderByLow_37 : decode cX7_orderByLow 37 = .ok (.iconst 2, 1) := by decide +kernel
theorem dX7_orderByLow_38 : decode cX7_orderByLow 38 = .ok (.idiv, 1) := by decide +kernel
theorem dX7_orderByLow_39 : decode cX7_orderByLow 39 = .ok (.if_icmp .lt 16, 3) := by decide +kernel
theorem dX7_orderByLow_42 : decode cX7_orderByLow 42 = .ok (.aload_n 0, 1) := by decide +kernel
theorem dX7_orderByLow_43 : decode cX7_orderByLow 43 = .ok (.dup, 1) := by decide +kernel
theorem dX7_orderByLow_44 : decode cX7_orderByLow 44 = .ok (.getfield 82, 3) := by decide +kernel
theorem dX7_orderByLow_47 : decode cX7_orderByLow 47 = .ok (.iload_n 2, 1) := by decide +kernel
theorem dX7_orderByLow_48 : decode cX7_orderByLow 48 = .ok (.iadd, 1) := by decide +kernel
theorem dX7_orderByLow_49 : decode cX7_orderByLow 49 = .ok (.putfield 82, 3) := by decide +kernel
theorem dX7_orderByLow_52 : decode cX7_orderByLow 52 = .ok (.goto 25, 3) := by decide +kernel
theorem dX7_orderByLow_55 : decode cX7_orderByLow 55 = .ok (.aload_n 1, 1) := by decide +kernel
theorem dX7_orderByLow_56 : decode cX7_orderByLow 56 = .ok (.iconst 5, 1) := by decide +kernel
theorem dX7_orderByLow_57 : decode cX7_orderByLow 57 = .ok (.iaload, 1) := by decide +kernel
theorem dX7_orderByLow_58 : decode cX7_orderByLow 58 = .ok (.iload 4, 2) := by decide +kernel
theorem dX7_orderByLow_60 : decode cX7_orderByLow 60 = .ok (.isub, 1) := by decide +kernel
theorem dX7_orderByLow_61 : decode cX7_orderByLow 61 = .ok (.iload_n 2, 1) := by decide +kernel
theorem dX7_orderByLow_62 : decode cX7_orderByLow 62 = .ok (.iconst 2, 1) := by decide +kernel
theorem dX7_orderByLow_63 : decode cX7_orderByLow 63 = .ok (.idiv, 1) := by decide +kernel
theorem dX7_orderByLow_64 : decode cX7_orderByLow 64 = .ok (.if_icmp .le 13, 3) := by decide +kernel
theorem dX7_orderByLow_67 : decode cX7_orderByLow 67 = .ok (.aload_n 0, 1) := by decide +kernel
theorem dX7_orderByLow_68 : decode cX7_orderByLow 68 = .ok (.dup, 1) := by decide +kernel
theorem dX7_orderByLow_69 : decode cX7_orderByLow 69 = .ok (.getfield 82, 3) := by decide +kernel
theorem dX7_orderByLow_72 : decode cX7_orderByLow 72 = .ok (.iload_n 2, 1) := by decide +kernel
theorem dX7_orderByLow_73 : decode cX7_orderByLow 73 = .ok (.isub, 1) := by decide +kernel
theorem dX7_orderByLow_74 : decode cX7_orderByLow 74 = .ok (.putfield 82, 3) := by decide +kernel
theorem dX7_orderByLow_77 : decode cX7_orderByLow 77 = .ok (.aload_n 0, 1) := by decide +kernel
theorem dX7_orderByLow_78 : decode cX7_orderByLow 78 = .ok (.getfield 82, 3) := by decide +kernel
theorem dX7_orderByLow_81 : decode cX7_orderByLow 81 = .ok (.aload_n 1, 1) := by decide +kernel
theorem dX7_orderByLow_82 : decode cX7_orderByLow 82 = .ok (.iconst 5, 1) := by decide +kernel
theorem dX7_orderByLow_83 : decode cX7_orderByLow 83 = .ok (.iaload, 1) := by decide +kernel
theorem dX7_orderByLow_84 : decode cX7_orderByLow 84 = .ok (.iadd, 1) := by decide +kernel
theorem dX7_orderByLow_85 : decode cX7_orderByLow 85 = .ok (.istore 5, 2) := by decide +kernel
theorem dX7_orderByLow_87 : decode cX7_orderByLow 87 = .ok (.iload 5, 2) := by decide +kernel
theorem dX7_orderByLow_89 : decode cX7_orderByLow 89 = .ok (.aload_n 1, 1) := by decide +kernel
theorem dX7_orderByLow_90 : decode cX7_orderByLow 90 = .ok (.bipush 6, 2) := by decide +kernel
theorem dX7_orderByLow_92 : decode cX7_orderByLow 92 = .ok (.iaload, 1) := by decide +kernel
theorem dX7_orderByLow_93 : decode cX7_orderByLow 93 = .ok (.iadd, 1) := by decide +kernel
theorem dX7_orderByLow_94 : decode cX7_orderByLow 94 = .ok (.istore 6, 2) := by decide +kernel
theorem dX7_orderByLow_96 : decode cX7_orderByLow 96 = .ok (.iload 5, 2) := by decide +kernel
theorem dX7_orderByLow_98 : decode cX7_orderByLow 98 = .ok (.iload 6, 2) := by decide +kernel
theorem dX7_orderByLow_100 : decode cX7_orderByLow 100 = .ok (.if_icmp .ge 8, 3) := by decide +kernel
theorem dX7_orderByLow_103 : decode cX7_orderByLow 103 = .ok (.iload 5, 2) := by decide +kernel
theorem dX7_orderByLow_105 : decode cX7_orderByLow 105 = .ok (.goto 5, 3) := by decide +kernel
theorem dX7_orderByLow_108 : decode cX7_orderByLow 108 = .ok (.iload 6, 2) := by decide +kernel
theorem dX7_orderByLow_110 : decode cX7_orderByLow 110 = .ok (.ireturn, 1) := by decide +kernel
def FX7_orderByLow (G : GG) (M : DD) (a : Nat) (p0 : Option Nat) (p1 : Int32) (p2 : Int32) : Option (DD × Int32) :=
  bnd (if p2 = ((0 : Int32)) then (ltt (M.1 a 9) fun x31 =>
  some (x31)) else
  (some ((0 : Int32)))) fun (y1 : Int32) =>
  bnd (if p2 = ((0 : Int32)) then (ltt (M.1 a 8) fun x29 =>
  some (x29)) else
  (some ((0 : Int32)))) fun (y2 : Int32) =>
  ltt (uI M a 12 y2) fun M3 =>
  dr G 13 p0 fun b4 =>
  chk (¬ (((5 : Int32)) < 0 ∨ G.2.2 b4 ≤ ((5 : Int32)).toNatClampNeg)) <|
  ltt (M3.1 b4 ((5 : Int32)).toNatClampNeg) fun x5 =>
  ltt ((y1 - x5)) fun x6 =>
  ltt (p1 / ((2 : Int32))) fun x7 =>
  bnd (if x6 < x7 then (chk (¬ (((5 : Int32)) < 0 ∨ G.2.2 b4 ≤ ((5 : Int32)).toNatClampNeg)) <|
  ltt (M3.1 b4 ((5 : Int32)).toNatClampNeg) fun x17 =>
  ltt ((x17 - y1)) fun x18 =>
  ltt (p1 / ((2 : Int32))) fun x19 =>
  bnd (if x18 ≤ x19 then (some (M3)) else
  (ltt (M3.1 a 12) fun x22 =>
  ltt ((x22 - p1)) fun x23 =>
  ltt (uI M3 a 12 x23) fun M24 =>
  some (M24))) fun (y20 : DD) =>
  some (y20)) else
  (ltt (M3.1 a 12) fun x25 =>
  ltt ((x25 + p1)) fun x26 =>
  ltt (uI M3 a 12 x26) fun M27 =>
  some (M27))) fun (y8 : DD) =>
  ltt (y8.1 a 12) fun x9 =>
  chk (¬ (((5 : Int32)) < 0 ∨ G.2.2 b4 ≤ ((5 : Int32)).toNatClampNeg)) <|
  ltt (y8.1 b4 ((5 : Int32)).toNatClampNeg) fun x10 =>
  ltt ((x9 + x10)) fun x11 =>
  chk (¬ (((6 : Int32)) < 0 ∨ G.2.2 b4 ≤ ((6 : Int32)).toNatClampNeg)) <|
  ltt (y8.1 b4 ((6 : Int32)).toNatClampNeg) fun x12 =>
  ltt ((x11 + x12)) fun x13 =>
  bnd (if x13 ≤ x11 then (some (x13)) else
  (some (x11))) fun (y14 : Int32) =>
  some (y8, y14)
set_option maxHeartbeats 4000000 in
set_option maxRecDepth 100000 in
theorem kX7_orderByLow (l : Launch) (D : va_G) (ct : CT) (ad : Nat → Nat) (Z : Nat → Nat) (G : GG) (M : DD) (sz : Nat) (a : Nat) (p0 : Option Nat) (p1 : Int32) (p2 : Int32) (y : DD × Int32) (hc : a < G.1) (hk : G.2.1 a = 7) (hF : FX7_orderByLow G M a p0 p1 p2 = some y) : Met l yX7_orderByLow wsX7_orderByLow ({ frames := 0, cells := 0, slots := 0, locals := 0 }) (va_Pc [.ref (ad a), va_re ad p0, .int p1, .int p2] (kB D ct ad Z G M sz)) (va_Qi (fun (q : Int32) (_ : Unit) => q = y.2) (fun _ t => kE D ct ad G (wA ad G sz) y.1 t) (wA ad G sz)) 0 0 (wA ad G sz) := by
  refine Met.ofW (cc := cX7_orderByLow) (maxL := 7) (ret := (some .int)) (by decide) rfl ?_
  intro p e s m args below meth c s₁ B hml hv
  obtain ⟨rfl, hsz, hP, hK, hD0, hZ, hN⟩ := hv
  have hx := B.exec
  have hb := B.bytes
  have hr := B.returns
  have hts := atoms_spec (ws := wsX7_orderByLow) B.pre
  have hown : s.vm.findClass RX7 = some m.cls := findClass_of_methodNamed B.named
  have hlocks := B.notSynchronized
  subst hsz
  have hD := wD_self (sz := s.heap.size) hD0
  have hA9 : ∀ q, s.heap.size ≤ q → wA ad G s.heap.size q := fun q h => Or.inr h
  generalize hAe : wA ad G s.heap.size = A at hD hA9 hZ ⊢
  have hS : va_S A s.heap s.heap [] := va_S.rf
  have hl := lv_entry ([.ref (ad a), va_re ad p0, .int p1, .int p2]) (n := 7) (by cases p0 <;> exact Nat.le_of_ble_eq_true rfl)
  rw [lg_entry_eq]
  generalize (lg_sl ([.ref (ad a), va_re ad p0, .int p1, .int p2]) ++ List.replicate (7 - (lg_sl ([.ref (ad a), va_re ad p0, .int p1, .int p2])).length) Slot.unset).toArray = ls at hl ⊢
  have hl : lv_has ls 7 [(0, .ref (ad a)), (1, va_re ad p0), (2, .int p1), (3, .int p2)] := by have e9 : lv_args 0 [.ref (ad a), va_re ad p0, .int p1, .int p2] = [(0, .ref (ad a)), (1, va_re ad p0), (2, .int p1), (3, .int p2)] := (by cases p0 <;> rfl); rw [e9] at hl; exact hl
  unfold FX7_orderByLow at hF
  refine lv_iload_n hx hb dX7_orderByLow_0 rfl (lv_at hl 3 rfl) ?_
  obtain ⟨y1, hy1, hF⟩ := bnd_some hF
  have J1 : ∀ (H : Heap) (locs : List Loc) (ls : Array Slot), va_P D classes (wld ct ad G M) H → va_D A (wld ct ad G M) → va_S A s.heap H locs → lv_has ls 7 [(0, .ref (ad a)), (1, va_re ad p0), (2, .int p1), (3, .int p2)] → W p l e (headSpec wsX7_orderByLow ({ frames := 0, cells := 0, slots := 0, locals := 0 })).room s m ([.ref (ad a), va_re ad p0, .int p1, .int p2] : List Value).toArray below meth c H locs 0 0 (MQ below (va_Qi (fun (q : Int32) (_ : Unit) => q = y.2) (fun _ t => kE D ct ad G A y.1 t) A) ([.ref (ad a), va_re ad p0, .int p1, .int p2] : List Value).toArray s 0 0 A) (F0 m 12 ls [.int y1]) := by
    intro H locs ls hP hD hS hl
    refine lv_istore (lv' := [(4, .int y1), (0, .ref (ad a)), (1, va_re ad p0), (2, .int p1), (3, .int p2)]) hx hb dX7_orderByLow_12 hl (by decide) rfl (fun ls hl => ?_)
    refine lv_aload_n hx hb dX7_orderByLow_14 rfl (lv_at hl 1 rfl) ?_
    refine lv_iload_n hx hb dX7_orderByLow_15 rfl (lv_at hl 4 rfl) ?_
    obtain ⟨y2, hy2, hF⟩ := bnd_some hF
    have J2 : ∀ (H : Heap) (locs : List Loc) (ls : Array Slot), va_P D classes (wld ct ad G M) H → va_D A (wld ct ad G M) → va_S A s.heap H locs → lv_has ls 7 [(4, .int y1), (0, .ref (ad a)), (1, va_re ad p0), (2, .int p1), (3, .int p2)] → W p l e (headSpec wsX7_orderByLow ({ frames := 0, cells := 0, slots := 0, locals := 0 })).room s m ([.ref (ad a), va_re ad p0, .int p1, .int p2] : List Value).toArray below meth c H locs 0 0 (MQ below (va_Qi (fun (q : Int32) (_ : Unit) => q = y.2) (fun _ t => kE D ct ad G A y.1 t) A) ([.ref (ad a), va_re ad p0, .int p1, .int p2] : List Value).toArray s 0 0 A) (F0 m 27 ls [.int y2, .ref (ad a)]) := by
      intro H locs ls hP hD hS hl
      refine va_put (D := D) (ci := 7) (v := .int y2) (ty := .int) (C := RX7) (T := TX7) (N := 17) hx hb hts (by decide +kernel) tyX7 tyX7_ok nmX7 hown hK hP hD hS a (wld_o ct ad G M hc hk (by decide)) rfl 12 (by decide) (hts (.fieldLink RX7 82 "VideoSuite$Store" "high" "I") (by decide +kernel)) (fun _ h9 => h9) rfl (by decide +kernel) rfl rfl (Nat.le_of_ble_eq_true rfl) dX7_orderByLow_27 (fun H locs hP hD hS => ?_)
      obtain ⟨M3, eM3, hF⟩ := ltt_some hF
      rw [set_oI ct ad G M hc hk (by decide) (by rfl), ← eM3] at hP hD
      refine lv_iload hx hb dX7_orderByLow_30 (lv_at hl 0 rfl) ?_
      refine lv_aloadq_n hx hb dX7_orderByLow_32 rfl (lv_at hl 2 rfl) ?_
      refine lv_iconst (v := (5 : Int32)) hx hb dX7_orderByLow_33 (by decide) ?_
      obtain ⟨b4, ho4, hc4, hk4, hF⟩ := dr_some hF
      refine W_st (st' := [.int (5 : Int32), .ref (ad b4), .int y1]) (by rw [va_some ho4]) ?_
      obtain ⟨hvc, hF⟩ := chk_some hF
      refine va_iald hx hb hK hP b4 1 (wld_i ct ad G M3 hc4 hk4) rfl hvc dX7_orderByLow_34 ?_
      obtain ⟨x5, ex5, hF⟩ := ltt_some hF
      refine lv_topi (fun zx5 ezx5 => ?_)
      obtain rfl : x5 = zx5 := ex5.trans ezx5.symm
      refine lv_isub hx hb dX7_orderByLow_35 ?_
      obtain ⟨x6, ex6, hF⟩ := ltt_some hF
      refine lv_topi (fun zx6 ezx6 => ?_)
      obtain rfl : x6 = zx6 := ex6.trans ezx6.symm
      refine lv_iload_n hx hb dX7_orderByLow_36 rfl (lv_at hl 3 rfl) ?_
      refine lv_iconst (v := (2 : Int32)) hx hb dX7_orderByLow_37 (by decide) ?_
      refine lv_idiv hx hb dX7_orderByLow_38 (by decide) ?_
      obtain ⟨x7, ex7, hF⟩ := ltt_some hF
      refine lv_topi (fun zx7 ezx7 => ?_)
      obtain rfl : x7 = zx7 := ex7.trans ezx7.symm
      obtain ⟨y8, hy8, hF⟩ := bnd_some hF
      have J8 : ∀ (H : Heap) (locs : List Loc) (ls : Array Slot), va_P D classes (wld ct ad G y8) H → va_D A (wld ct ad G y8) → va_S A s.heap H locs → lv_has ls 7 [(4, .int y1), (0, .ref (ad a)), (1, va_re ad p0), (2, .int p1), (3, .int p2)] → W p l e (headSpec wsX7_orderByLow ({ frames := 0, cells := 0, slots := 0, locals := 0 })).room s m ([.ref (ad a), va_re ad p0, .int p1, .int p2] : List Value).toArray below meth c H locs 0 0 (MQ below (va_Qi (fun (q : Int32) (_ : Unit) => q = y.2) (fun _ t => kE D ct ad G A y.1 t) A) ([.ref (ad a), va_re ad p0, .int p1, .int p2] : List Value).toArray s 0 0 A) (F0 m 77 ls []) := by
        intro H locs ls hP hD hS hl
        refine lv_aload_n hx hb dX7_orderByLow_77 rfl (lv_at hl 1 rfl) ?_
        refine va_get (D := D) (ci := 7) (v := .int (y8.1 a 12)) (C := RX7) (T := TX7) (N := 17) hx hb hts (by decide +kernel) hown hK hP a (wld_o ct ad G y8 hc hk (by decide)) rfl 12 (by decide) (hts (.fieldLink RX7 82 "VideoSuite$Store" "high" "I") (by decide +kernel)) (fun _ h9 => h9) rfl dX7_orderByLow_78 ?_
        obtain ⟨x9, ex9, hF⟩ := ltt_some hF
        refine lv_topi (fun zx9 ezx9 => ?_)
        obtain rfl : x9 = zx9 := ex9.trans ezx9.symm
        refine lv_aloadq_n hx hb dX7_orderByLow_81 rfl (lv_at hl 2 rfl) ?_
        refine lv_iconst (v := (5 : Int32)) hx hb dX7_orderByLow_82 (by decide) ?_
        refine W_st (st' := [.int (5 : Int32), .ref (ad b4), .int x9]) (by rw [va_some ho4]) ?_
        obtain ⟨hvc, hF⟩ := chk_some hF
        refine va_iald hx hb hK hP b4 1 (wld_i ct ad G y8 hc4 hk4) rfl hvc dX7_orderByLow_83 ?_
        obtain ⟨x10, ex10, hF⟩ := ltt_some hF
        refine lv_topi (fun zx10 ezx10 => ?_)
        obtain rfl : x10 = zx10 := ex10.trans ezx10.symm
        refine lv_iadd hx hb dX7_orderByLow_84 ?_
        obtain ⟨x11, ex11, hF⟩ := ltt_some hF
        refine lv_topi (fun zx11 ezx11 => ?_)
        obtain rfl : x11 = zx11 := ex11.trans ezx11.symm
        refine lv_istore (lv' := [(5, .int x11), (4, .int y1), (0, .ref (ad a)), (1, va_re ad p0), (2, .int p1), (3, .int p2)]) hx hb dX7_orderByLow_85 hl (by decide) rfl (fun ls hl => ?_)
        refine lv_iload hx hb dX7_orderByLow_87 (lv_at hl 0 rfl) ?_
        refine lv_aloadq_n hx hb dX7_orderByLow_89 rfl (lv_at hl 3 rfl) ?_
        refine lv_bipush (v := (6 : Int32)) hx hb dX7_orderByLow_90 (by decide) ?_
        refine W_st (st' := [.int (6 : Int32), .ref (ad b4), .int x11]) (by rw [va_some ho4]) ?_
        obtain ⟨hvc, hF⟩ := chk_some hF
        refine va_iald hx hb hK hP b4 1 (wld_i ct ad G y8 hc4 hk4) rfl hvc dX7_orderByLow_92 ?_
        obtain ⟨x12, ex12, hF⟩ := ltt_some hF
        refine lv_topi (fun zx12 ezx12 => ?_)
        obtain rfl : x12 = zx12 := ex12.trans ezx12.symm
        refine lv_iadd hx hb dX7_orderByLow_93 ?_
        obtain ⟨x13, ex13, hF⟩ := ltt_some hF
        refine lv_topi (fun zx13 ezx13 => ?_)
        obtain rfl : x13 = zx13 := ex13.trans ezx13.symm
        refine lv_istore (lv' := [(6, .int x13), (5, .int x11), (4, .int y1), (0, .ref (ad a)), (1, va_re ad p0), (2, .int p1), (3, .int p2)]) hx hb dX7_orderByLow_94 hl (by decide) rfl (fun ls hl => ?_)
        refine lv_iload hx hb dX7_orderByLow_96 (lv_at hl 1 rfl) ?_
        refine lv_iload hx hb dX7_orderByLow_98 (lv_at hl 0 rfl) ?_
        obtain ⟨y14, hy14, hF⟩ := bnd_some hF
        have J14 : ∀ (H : Heap) (locs : List Loc) (ls : Array Slot), va_P D classes (wld ct ad G y8) H → va_D A (wld ct ad G y8) → va_S A s.heap H locs → lv_has ls 7 [(6, .int x13), (5, .int x11), (4, .int y1), (0, .ref (ad a)), (1, va_re ad p0), (2, .int p1), (3, .int p2)] → W p l e (headSpec wsX7_orderByLow ({ frames := 0, cells := 0, slots := 0, locals := 0 })).room s m ([.ref (ad a), va_re ad p0, .int p1, .int p2] : List Value).toArray below meth c H locs 0 0 (MQ below (va_Qi (fun (q : Int32) (_ : Unit) => q = y.2) (fun _ t => kE D ct ad G A y.1 t) A) ([.ref (ad a), va_re ad p0, .int p1, .int p2] : List Value).toArray s 0 0 A) (F0 m 110 ls [.int y14]) := by
          intro H locs ls hP hD hS hl
          obtain rfl := Option.some.inj hF
          exact W.iret (v := y14) hx hb hr (fun t ht hW => ⟨⟨_, (), rfl, rfl, ⟨by rw [ht]; exact hP, va_K.moved hW.alike hK, hD⟩⟩, hS.F ht⟩) hS.2.2 dX7_orderByLow_110
        clear hF
        have hF := hy14
        clear hy14
        refine lv_icmp_ge (tgt := 108) hx hb dX7_orderByLow_100 (by decide) (fun c15 => ?_) (fun c15 => ?_)
        · rw [if_pos c15] at hF
          refine lv_iload hx hb dX7_orderByLow_108 (lv_at hl 0 rfl) ?_
          obtain rfl := Option.some.inj hF
          exact J14 _ _ _ hP hD hS (lv_sub hl [0, 1, 2, 3, 4, 5, 6] rfl)
        · rw [if_neg c15] at hF
          refine lv_iload hx hb dX7_orderByLow_103 (lv_at hl 1 rfl) ?_
          refine lv_goto (tgt := 110) hx hb dX7_orderByLow_105 (by decide) ?_
          obtain rfl := Option.some.inj hF
          exact J14 _ _ _ hP hD hS (lv_sub hl [0, 1, 2, 3, 4, 5, 6] rfl)
      clear hF
      have hF := hy8
      clear hy8
      refine lv_icmp_lt (tgt := 55) hx hb dX7_orderByLow_39 (by decide) (fun c16 => ?_) (fun c16 => ?_)
      · rw [if_pos c16] at hF
        refine lv_aloadq_n hx hb dX7_orderByLow_55 rfl (lv_at hl 2 rfl) ?_
        refine lv_iconst (v := (5 : Int32)) hx hb dX7_orderByLow_56 (by decide) ?_
        refine W_st (st' := [.int (5 : Int32), .ref (ad b4)]) (by rw [va_some ho4]) ?_
        obtain ⟨hvc, hF⟩ := chk_some hF
        refine va_iald hx hb hK hP b4 1 (wld_i ct ad G M3 hc4 hk4) rfl hvc dX7_orderByLow_57 ?_
        obtain ⟨x17, ex17, hF⟩ := ltt_some hF
        refine lv_topi (fun zx17 ezx17 => ?_)
        obtain rfl : x17 = zx17 := ex17.trans ezx17.symm
        refine lv_iload hx hb dX7_orderByLow_58 (lv_at hl 0 rfl) ?_
        refine lv_isub hx hb dX7_orderByLow_60 ?_
        obtain ⟨x18, ex18, hF⟩ := ltt_some hF
        refine lv_topi (fun zx18 ezx18 => ?_)
        obtain rfl : x18 = zx18 := ex18.trans ezx18.symm
        refine lv_iload_n hx hb dX7_orderByLow_61 rfl (lv_at hl 3 rfl) ?_
        refine lv_iconst (v := (2 : Int32)) hx hb dX7_orderByLow_62 (by decide) ?_
        refine lv_idiv hx hb dX7_orderByLow_63 (by decide) ?_
        obtain ⟨x19, ex19, hF⟩ := ltt_some hF
        refine lv_topi (fun zx19 ezx19 => ?_)
        obtain rfl : x19 = zx19 := ex19.trans ezx19.symm
        obtain ⟨y20, hy20, hF⟩ := bnd_some hF
        have J20 : ∀ (H : Heap) (locs : List Loc) (ls : Array Slot), va_P D classes (wld ct ad G y20) H → va_D A (wld ct ad G y20) → va_S A s.heap H locs → lv_has ls 7 [(4, .int y1), (0, .ref (ad a)), (1, va_re ad p0), (2, .int p1), (3, .int p2)] → W p l e (headSpec wsX7_orderByLow ({ frames := 0, cells := 0, slots := 0, locals := 0 })).room s m ([.ref (ad a), va_re ad p0, .int p1, .int p2] : List Value).toArray below meth c H locs 0 0 (MQ below (va_Qi (fun (q : Int32) (_ : Unit) => q = y.2) (fun _ t => kE D ct ad G A y.1 t) A) ([.ref (ad a), va_re ad p0, .int p1, .int p2] : List Value).toArray s 0 0 A) (F0 m 77 ls []) := by
          intro H locs ls hP hD hS hl
          obtain rfl := Option.some.inj hF
          exact J8 _ _ _ hP hD hS (lv_sub hl [0, 1, 2, 3, 4] rfl)
        clear hF
        have hF := hy20
        clear hy20
        refine lv_icmp_le (tgt := 77) hx hb dX7_orderByLow_64 (by decide) (fun c21 => ?_) (fun c21 => ?_)
        · rw [if_pos c21] at hF
          obtain rfl := Option.some.inj hF
          exact J20 _ _ _ hP hD hS (lv_sub hl [0, 1, 2, 3, 4] rfl)
        · rw [if_neg c21] at hF
          refine lv_aload_n hx hb dX7_orderByLow_67 rfl (lv_at hl 1 rfl) ?_
          refine lv_dup hx hb dX7_orderByLow_68 rfl ?_
          refine va_get (D := D) (ci := 7) (v := .int (M3.1 a 12)) (C := RX7) (T := TX7) (N := 17) hx hb hts (by decide +kernel) hown hK hP a (wld_o ct ad G M3 hc hk (by decide)) rfl 12 (by decide) (hts (.fieldLink RX7 82 "VideoSuite$Store" "high" "I") (by decide +kernel)) (fun _ h9 => h9) rfl dX7_orderByLow_69 ?_
          obtain ⟨x22, ex22, hF⟩ := ltt_some hF
          refine lv_topi (fun zx22 ezx22 => ?_)
          obtain rfl : x22 = zx22 := ex22.trans ezx22.symm
          refine lv_iload_n hx hb dX7_orderByLow_72 rfl (lv_at hl 3 rfl) ?_
          refine lv_isub hx hb dX7_orderByLow_73 ?_
          obtain ⟨x23, ex23, hF⟩ := ltt_some hF
          refine lv_topi (fun zx23 ezx23 => ?_)
          obtain rfl : x23 = zx23 := ex23.trans ezx23.symm
          refine va_put (D := D) (ci := 7) (v := .int x23) (ty := .int) (C := RX7) (T := TX7) (N := 17) hx hb hts (by decide +kernel) tyX7 tyX7_ok nmX7 hown hK hP hD hS a (wld_o ct ad G M3 hc hk (by decide)) rfl 12 (by decide) (hts (.fieldLink RX7 82 "VideoSuite$Store" "high" "I") (by decide +kernel)) (fun _ h9 => h9) rfl (by decide +kernel) rfl rfl (Nat.le_of_ble_eq_true rfl) dX7_orderByLow_74 (fun H locs hP hD hS => ?_)
          obtain ⟨M24, eM24, hF⟩ := ltt_some hF
          rw [set_oI ct ad G M3 hc hk (by decide) (by rfl), ← eM24] at hP hD
          obtain rfl := Option.some.inj hF
          exact J20 _ _ _ hP hD hS (lv_sub hl [0, 1, 2, 3, 4] rfl)
      · rw [if_neg c16] at hF
        refine lv_aload_n hx hb dX7_orderByLow_42 rfl (lv_at hl 1 rfl) ?_
        refine lv_dup hx hb dX7_orderByLow_43 rfl ?_
        refine va_get (D := D) (ci := 7) (v := .int (M3.1 a 12)) (C := RX7) (T := TX7) (N := 17) hx hb hts (by decide +kernel) hown hK hP a (wld_o ct ad G M3 hc hk (by decide)) rfl 12 (by decide) (hts (.fieldLink RX7 82 "VideoSuite$Store" "high" "I") (by decide +kernel)) (fun _ h9 => h9) rfl dX7_orderByLow_44 ?_
        obtain ⟨x25, ex25, hF⟩ := ltt_some hF
        refine lv_topi (fun zx25 ezx25 => ?_)
        obtain rfl : x25 = zx25 := ex25.trans ezx25.symm
        refine lv_iload_n hx hb dX7_orderByLow_47 rfl (lv_at hl 3 rfl) ?_
        refine lv_iadd hx hb dX7_orderByLow_48 ?_
        obtain ⟨x26, ex26, hF⟩ := ltt_some hF
        refine lv_topi (fun zx26 ezx26 => ?_)
        obtain rfl : x26 = zx26 := ex26.trans ezx26.symm
        refine va_put (D := D) (ci := 7) (v := .int x26) (ty := .int) (C := RX7) (T := TX7) (N := 17) hx hb hts (by decide +kernel) tyX7 tyX7_ok nmX7 hown hK hP hD hS a (wld_o ct ad G M3 hc hk (by decide)) rfl 12 (by decide) (hts (.fieldLink RX7 82 "VideoSuite$Store" "high" "I") (by decide +kernel)) (fun _ h9 => h9) rfl (by decide +kernel) rfl rfl (Nat.le_of_ble_eq_true rfl) dX7_orderByLow_49 (fun H locs hP hD hS => ?_)
        obtain ⟨M27, eM27, hF⟩ := ltt_some hF
        rw [set_oI ct ad G M3 hc hk (by decide) (by rfl), ← eM27] at hP hD
        refine lv_goto (tgt := 77) hx hb dX7_orderByLow_52 (by decide) ?_
        obtain rfl := Option.some.inj hF
        exact J8 _ _ _ hP hD hS (lv_sub hl [0, 1, 2, 3, 4] rfl)
    clear hF
    have hF := hy2
    clear hy2
    refine lv_if_eq (tgt := 23) hx hb dX7_orderByLow_16 (by decide) (fun c28 => ?_) (fun c28 => ?_)
    · rw [if_pos c28] at hF
      refine lv_aload_n hx hb dX7_orderByLow_23 rfl (lv_at hl 1 rfl) ?_
      refine va_get (D := D) (ci := 7) (v := .int (M.1 a 8)) (C := RX7) (T := TX7) (N := 17) hx hb hts (by decide +kernel) hown hK hP a (wld_o ct ad G M hc hk (by decide)) rfl 8 (by decide) (hts (.fieldLink RX7 46 "VideoSuite$Store" "highBefore" "I") (by decide +kernel)) (fun _ h9 => h9) rfl dX7_orderByLow_24 ?_
      obtain ⟨x29, ex29, hF⟩ := ltt_some hF
      refine lv_topi (fun zx29 ezx29 => ?_)
      obtain rfl : x29 = zx29 := ex29.trans ezx29.symm
      obtain rfl := Option.some.inj hF
      exact J2 _ _ _ hP hD hS (lv_sub hl [0, 1, 2, 3, 4] rfl)
    · rw [if_neg c28] at hF
      refine lv_iconst (v := (0 : Int32)) hx hb dX7_orderByLow_19 (by decide) ?_
      refine lv_goto (tgt := 27) hx hb dX7_orderByLow_20 (by decide) ?_
      obtain rfl := Option.some.inj hF
      exact J2 _ _ _ hP hD hS (lv_sub hl [0, 1, 2, 3, 4] rfl)
  clear hF
  have hF := hy1
  clear hy1
  refine lv_if_eq (tgt := 8) hx hb dX7_orderByLow_1 (by decide) (fun c30 => ?_) (fun c30 => ?_)
  · rw [if_pos c30] at hF
    refine lv_aload_n hx hb dX7_orderByLow_8 rfl (lv_at hl 0 rfl) ?_
    refine va_get (D := D) (ci := 7) (v := .int (M.1 a 9)) (C := RX7) (T := TX7) (N := 17) hx hb hts (by decide +kernel) hown hK hP a (wld_o ct ad G M hc hk (by decide)) rfl 9 (by decide) (hts (.fieldLink RX7 49 "VideoSuite$Store" "lowBefore" "I") (by decide +kernel)) (fun _ h9 => h9) rfl dX7_orderByLow_9 ?_
    obtain ⟨x31, ex31, hF⟩ := ltt_some hF
    refine lv_topi (fun zx31 ezx31 => ?_)
    obtain rfl : x31 = zx31 := ex31.trans ezx31.symm
    obtain rfl := Option.some.inj hF
    exact J1 _ _ _ hP hD hS (lv_sub hl [0, 1, 2, 3] rfl)
  · rw [if_neg c30] at hF
    refine lv_iconst (v := (0 : Int32)) hx hb dX7_orderByLow_4 (by decide) ?_
    refine lv_goto (tgt := 12) hx hb dX7_orderByLow_5 (by decide) ?_
    obtain rfl := Option.some.inj hF
    exact J1 _ _ _ hP hD hS (lv_sub hl [0, 1, 2, 3] rfl)
