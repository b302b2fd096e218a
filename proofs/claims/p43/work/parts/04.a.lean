theorem dX4_blocks_0 : decode cX4_blocks 0 = .ok (.aload_n 0, 1) := by decide +kernel
theorem dX4_blocks_1 : decode cX4_blocks 1 = .ok (.getfield 33, 3) := by decide +kernel
theorem dX4_blocks_4 : decode cX4_blocks 4 = .ok (.aload_n 0, 1) := by decide +kernel
theorem dX4_blocks_5 : decode cX4_blocks 5 = .ok (.getfield 36, 3) := by decide +kernel
theorem dX4_blocks_8 : decode cX4_blocks 8 = .ok (.imul, 1) := by decide +kernel
theorem dX4_blocks_9 : decode cX4_blocks 9 = .ok (.ireturn, 1) := by decide +kernel
def FX4_blocks (G : GG) (M : DD) (a : Nat)  : Option (DD × Int32) :=
  ltt (M.1 a 1) fun x1 =>
  ltt (M.1 a 2) fun x2 =>
  ltt ((x1 * x2)) fun x3 =>
  some (M, x3)
set_option maxHeartbeats 4000000 in
set_option maxRecDepth 100000 in
theorem kX4_blocks (l : Launch) (dC : Nat → ClassId) (dI : Nat → Nat → Nat) (ct : CT) (ad : Nat → Nat) (G : GG) (M : DD) (sz : Nat) (a : Nat)  (y : DD × Int32) (hc : a < G.1) (hk : G.2.1 a = 4) (hF : FX4_blocks G M a  = some y) : Met l yX4_blocks wsX4_blocks ({ frames := 0, cells := 0, slots := 0, locals := 0 }) (va_Pc [.ref (ad a)] (kB (dC, dI) ct ad G M sz)) (va_Qi (fun (q : Int32) (_ : Unit) => q = y.2) (fun _ t => kE (dC, dI) ct ad G (wA ad G sz) y.1 t) (wA ad G sz)) 0 0 (wA ad G sz) := by
  refine Met.ofW (cc := cX4_blocks) (maxL := 1) (ret := (some .int)) (by decide) rfl ?_
  intro p e s m args below meth c s₁ B hml hv
  obtain ⟨rfl, hsz, hP, hK, hD0⟩ := hv
  have hx := B.exec
  have hb := B.bytes
  have hr := B.returns
  have hts := atoms_spec (ws := wsX4_blocks) B.pre
  have hown : s.vm.findClass RX4 = some m.cls := findClass_of_methodNamed B.named
  have hlocks := B.notSynchronized
  subst hsz
  have hD := wD_self (sz := s.heap.size) hD0
  generalize hDD : (dC, dI) = D at hP hK ⊢
  generalize hAe : wA ad G s.heap.size = A at hD ⊢
  have hS : va_S A s.heap s.heap [] := va_S.rf
  have hl := lv_entry ([.ref (ad a)]) (n := 1) (Nat.le_of_ble_eq_true rfl)
  rw [lg_entry_eq]
  generalize (lg_sl ([.ref (ad a)]) ++ List.replicate (1 - (lg_sl ([.ref (ad a)])).length) Slot.unset).toArray = ls at hl ⊢
  have hl : lv_has ls 1 [(0, .ref (ad a))] := hl
  unfold FX4_blocks at hF
  refine lv_aload_n hx hb dX4_blocks_0 rfl (lv_at hl 0 rfl) ?_
  refine va_get (D := D) (ci := 4) (v := .int (M.1 a 1)) (C := RX4) (T := TX4) (N := 18) hx hb hts (by decide +kernel) hown hK hP a (wld_o ct ad G M hc hk (by decide)) rfl 1 (by decide) (hts (.fieldLink RX4 33 "VideoSuite$Picture" "width" "I") (by decide +kernel)) (fun _ h9 => h9) rfl dX4_blocks_1 ?_
  obtain ⟨x1, ex1, hF⟩ := ltt_some hF
  refine lv_topi (fun zx1 ezx1 => ?_)
  obtain rfl : x1 = zx1 := ex1.trans ezx1.symm
  refine lv_aload_n hx hb dX4_blocks_4 rfl (lv_at hl 0 rfl) ?_
  refine va_get (D := D) (ci := 4) (v := .int (M.1 a 2)) (C := RX4) (T := TX4) (N := 18) hx hb hts (by decide +kernel) hown hK hP a (wld_o ct ad G M hc hk (by decide)) rfl 2 (by decide) (hts (.fieldLink RX4 36 "VideoSuite$Picture" "height" "I") (by decide +kernel)) (fun _ h9 => h9) rfl dX4_blocks_5 ?_
  obtain ⟨x2, ex2, hF⟩ := ltt_some hF
  refine lv_topi (fun zx2 ezx2 => ?_)
  obtain rfl : x2 = zx2 := ex2.trans ezx2.symm
  refine lv_imul hx hb dX4_blocks_8 ?_
  obtain ⟨x3, ex3, hF⟩ := ltt_some hF
  refine lv_topi (fun zx3 ezx3 => ?_)
  obtain rfl : x3 = zx3 := ex3.trans ezx3.symm
  obtain rfl := Option.some.inj hF
  exact W.iret (v := x3) hx hb hr (fun t ht hW => ⟨⟨_, (), rfl, rfl, ⟨by rw [ht]; exact hP, va_K.moved hW.alike hK, hD⟩⟩, hS.F ht⟩) hS.2.2 dX4_blocks_9
theorem dX5_more_0 : decode cX5_more 0 = .ok (.aload_n 0, 1) := by decide +kernel
theorem dX5_more_1 : decode cX5_more 1 = .ok (.getfield 57, 3) := by decide +kernel
theorem dX5_more_4 : decode cX5_more 4 = .ok (.aload_n 0, 1) := by decide +kernel
theorem dX5_more_5 : decode cX5_more 5 = .ok (.getfield 54, 3) := by decide +kernel
theorem dX5_more_8 : decode cX5_more 8 = .ok (.if_icmp .ge 7, 3) := by decide +kernel
theorem dX5_more_11 : decode cX5_more 11 = .ok (.iconst 1, 1) := by decide +kernel
theorem dX5_more_12 : decode cX5_more 12 = .ok (.goto 4, 3) := by decide +kernel
theorem dX5_more_15 : decode cX5_more 15 = .ok (.iconst 0, 1) := by decide +kernel
theorem dX5_more_16 : decode cX5_more 16 = .ok (.ireturn, 1) := by decide +kernel
def FX5_more (G : GG) (M : DD) (a : Nat)  : Option (DD × Int32) :=
  ltt (M.1 a 2) fun x1 =>
  ltt (M.1 a 3) fun x2 =>
  bnd (if x2 ≤ x1 then (some ((0 : Int32))) else
  (some ((1 : Int32)))) fun (y3 : Int32) =>
  chk (y3 = 0 ∨ y3 = 1) <|
  some (M, y3)
set_option maxHeartbeats 4000000 in
set_option maxRecDepth 100000 in
theorem kX5_more (l : Launch) (dC : Nat → ClassId) (dI : Nat → Nat → Nat) (ct : CT) (ad : Nat → Nat) (G : GG) (M : DD) (sz : Nat) (a : Nat)  (y : DD × Int32) (hc : a < G.1) (hk : G.2.1 a = 5) (hF : FX5_more G M a  = some y) : Met l yX5_more wsX5_more ({ frames := 0, cells := 0, slots := 0, locals := 0 }) (va_Pc [.ref (ad a)] (kB (dC, dI) ct ad G M sz)) (va_Qi (fun (q : Int32) (_ : Unit) => q = y.2) (fun _ t => kE (dC, dI) ct ad G (wA ad G sz) y.1 t) (wA ad G sz)) 0 0 (wA ad G sz) := by
  refine Met.ofW (cc := cX5_more) (maxL := 1) (ret := (some .boolean)) (by decide) rfl ?_
  intro p e s m args below meth c s₁ B hml hv
  obtain ⟨rfl, hsz, hP, hK, hD0⟩ := hv
  have hx := B.exec
  have hb := B.bytes
  have hr := B.returns
  have hts := atoms_spec (ws := wsX5_more) B.pre
  have hown : s.vm.findClass RX5 = some m.cls := findClass_of_methodNamed B.named
  have hlocks := B.notSynchronized
  subst hsz
  have hD := wD_self (sz := s.heap.size) hD0
  generalize hDD : (dC, dI) = D at hP hK ⊢
  generalize hAe : wA ad G s.heap.size = A at hD ⊢
  have hS : va_S A s.heap s.heap [] := va_S.rf
  have hl := lv_entry ([.ref (ad a)]) (n := 1) (Nat.le_of_ble_eq_true rfl)
  rw [lg_entry_eq]
  generalize (lg_sl ([.ref (ad a)]) ++ List.replicate (1 - (lg_sl ([.ref (ad a)])).length) Slot.unset).toArray = ls at hl ⊢
  have hl : lv_has ls 1 [(0, .ref (ad a))] := hl
  unfold FX5_more at hF
  refine lv_aload_n hx hb dX5_more_0 rfl (lv_at hl 0 rfl) ?_
  refine va_get (D := D) (ci := 5) (v := .int (M.1 a 2)) (C := RX5) (T := TX5) (N := 17) hx hb hts (by decide +kernel) hown hK hP a (wld_o ct ad G M hc hk (by decide)) rfl 2 (by decide) (hts (.fieldLink RX5 57 "VideoSuite$Reader" "place" "I") (by decide +kernel)) (fun _ h9 => h9) rfl dX5_more_1 ?_
  obtain ⟨x1, ex1, hF⟩ := ltt_some hF
  refine lv_topi (fun zx1 ezx1 => ?_)
  obtain rfl : x1 = zx1 := ex1.trans ezx1.symm
  refine lv_aload_n hx hb dX5_more_4 rfl (lv_at hl 0 rfl) ?_
  refine va_get (D := D) (ci := 5) (v := .int (M.1 a 3)) (C := RX5) (T := TX5) (N := 17) hx hb hts (by decide +kernel) hown hK hP a (wld_o ct ad G M hc hk (by decide)) rfl 3 (by decide) (hts (.fieldLink RX5 54 "VideoSuite$Reader" "stop" "I") (by decide +kernel)) (fun _ h9 => h9) rfl dX5_more_5 ?_
  obtain ⟨x2, ex2, hF⟩ := ltt_some hF
  refine lv_topi (fun zx2 ezx2 => ?_)
  obtain rfl : x2 = zx2 := ex2.trans ezx2.symm
  obtain ⟨y3, hy3, hF⟩ := bnd_some hF
  have J3 : ∀ (H : Heap) (locs : List Loc) (ls : Array Slot), va_P D classes (wld ct ad G M) H → va_D A (wld ct ad G M) → va_S A s.heap H locs → lv_has ls 1 [(0, .ref (ad a))] → W p l e (headSpec wsX5_more ({ frames := 0, cells := 0, slots := 0, locals := 0 })).room s m ([.ref (ad a)] : List Value).toArray below meth c H locs 0 0 (MQ below (va_Qi (fun (q : Int32) (_ : Unit) => q = y.2) (fun _ t => kE D ct ad G A y.1 t) A) ([.ref (ad a)] : List Value).toArray s 0 0 A) (F0 m 16 ls [.int y3]) := by
    intro H locs ls hP hD hS hl
    obtain ⟨hz9, hF⟩ := chk_some hF
    obtain rfl := Option.some.inj hF
    exact W.zret (v := y3) (ty := .boolean) hx hb hr (nar_z hz9).1 (fun t ht hW => ⟨⟨_, (), rfl, rfl, ⟨by rw [ht]; exact hP, va_K.moved hW.alike hK, hD⟩⟩, hS.F ht⟩) hS.2.2 dX5_more_16
  clear hF
  have hF := hy3
  clear hy3
  refine lv_icmp_ge (tgt := 15) hx hb dX5_more_8 (by decide) (fun c4 => ?_) (fun c4 => ?_)
  · rw [if_pos c4] at hF
    refine lv_iconst (v := (0 : Int32)) hx hb dX5_more_15 (by decide) ?_
    obtain rfl := Option.some.inj hF
    exact J3 _ _ _ hP hD hS (lv_sub hl [0] rfl)
  · rw [if_neg c4] at hF
    refine lv_iconst (v := (1 : Int32)) hx hb dX5_more_11 (by decide) ?_
    refine lv_goto (tgt := 16) hx hb dX5_more_12 (by decide) ?_
    obtain rfl := Option.some.inj hF
    exact J3 _ _ _ hP hD hS (lv_sub hl [0] rfl)
theorem dX10_beginArith_0 : decode cX10_beginArith 0 = .ok (.aload_n 0, 1) := by decide +kernel
theorem dX10_beginArith_1 : decode cX10_beginArith 1 = .ok (.iconst 0, 1) := by decide +kernel
theorem dX10_beginArith_2 : decode cX10_beginArith 2 = .ok (.putfield 78, 3) := by decide +kernel
theorem dX10_beginArith_5 : decode cX10_beginArith 5 = .ok (.aload_n 0, 1) := by decide +kernel
theorem dX10_beginArith_6 : decode cX10_beginArith 6 = .ok (.sipush 510, 3) := by decide +kernel
theorem dX10_beginArith_9 : decode cX10_beginArith 9 = .ok (.putfield 75, 3) := by decide +kernel
theorem dX10_beginArith_12 : decode cX10_beginArith 12 = .ok (.aload_n 0, 1) := by decide +kernel
theorem dX10_beginArith_13 : decode cX10_beginArith 13 = .ok (.iconst 0, 1) := by decide +kernel
theorem dX10_beginArith_14 : decode cX10_beginArith 14 = .ok (.putfield 37, 3) := by decide +kernel
theorem dX10_beginArith_17 : decode cX10_beginArith 17 = .ok (.aload_n 0, 1) := by decide +kernel
theorem dX10_beginArith_18 : decode cX10_beginArith 18 = .ok (.iconst 1, 1) := by decide +kernel
theorem dX10_beginArith_19 : decode cX10_beginArith 19 = .ok (.putfield 34, 3) := by decide +kernel
theorem dX10_beginArith_22 : decode cX10_beginArith 22 = .ok (.aload_n 0, 1) := by decide +kernel
theorem dX10_beginArith_23 : decode cX10_beginArith 23 = .ok (.iconst 1, 1) := by decide +kernel
theorem dX10_beginArith_24 : decode cX10_beginArith 24 = .ok (.putfield 30, 3) := by decide +kernel
theorem dX10_beginArith_27 : decode cX10_beginArith 27 = .ok (.return_, 1) := by decide +kernel
def FX10_beginArith (G : GG) (M : DD) (a : Nat)  : Option (DD) :=
  ltt (uI M a 9 ((0 : Int32))) fun M1 =>
  ltt (uI M1 a 10 ((510 : Int32))) fun M2 =>
  ltt (uI M2 a 11 ((0 : Int32))) fun M3 =>
  chk (((1 : Int32)) = 0 ∨ ((1 : Int32)) = 1) <|
  ltt (uI M3 a 12 ((1 : Int32))) fun M4 =>
  chk (((1 : Int32)) = 0 ∨ ((1 : Int32)) = 1) <|
  ltt (uI M4 a 8 ((1 : Int32))) fun M5 =>
  some M5
set_option maxHeartbeats 4000000 in
set_option maxRecDepth 100000 in
theorem kX10_beginArith (l : Launch) (dC : Nat → ClassId) (dI : Nat → Nat → Nat) (ct : CT) (ad : Nat → Nat) (G : GG) (M : DD) (sz : Nat) (a : Nat)  (y : DD) (hc : a < G.1) (hk : G.2.1 a = 10) (hF : FX10_beginArith G M a  = some y) : Met l yX10_beginArith wsX10_beginArith ({ frames := 0, cells := 0, slots := 0, locals := 0 }) (va_Pc [.ref (ad a)] (kB (dC, dI) ct ad G M sz)) (va_Qv (fun (_ : Unit) => True) (fun _ t => kE (dC, dI) ct ad G (wA ad G sz) y t) (wA ad G sz)) 0 0 (wA ad G sz) := by
  refine Met.ofW (cc := cX10_beginArith) (maxL := 1) (ret := none) (by decide) rfl ?_
  intro p e s m args below meth c s₁ B hml hv
  obtain ⟨rfl, hsz, hP, hK, hD0⟩ := hv
  have hx := B.exec
  have hb := B.bytes
  have hr := B.returns
  have hts := atoms_spec (ws := wsX10_beginArith) B.pre
  have hown : s.vm.findClass RX10 = some m.cls := findClass_of_methodNamed B.named
  have hlocks := B.notSynchronized
  subst hsz
  have hD := wD_self (sz := s.heap.size) hD0
  generalize hDD : (dC, dI) = D at hP hK ⊢
  generalize hAe : wA ad G s.heap.size = A at hD ⊢
  have hS : va_S A s.heap s.heap [] := va_S.rf
  have hl := lv_entry ([.ref (ad a)]) (n := 1) (Nat.le_of_ble_eq_true rfl)
  rw [lg_entry_eq]
  generalize (lg_sl ([.ref (ad a)]) ++ List.replicate (1 - (lg_sl ([.ref (ad a)])).length) Slot.unset).toArray = ls at hl ⊢
  have hl : lv_has ls 1 [(0, .ref (ad a))] := hl
  unfold FX10_beginArith at hF
  refine lv_aload_n hx hb dX10_beginArith_0 rfl (lv_at hl 0 rfl) ?_
  refine lv_iconst (v := (0 : Int32)) hx hb dX10_beginArith_1 (by decide) ?_
  refine va_put (D := D) (ci := 10) (v := .int (0 : Int32)) (ty := .int) (C := RX10) (T := TX10) (N := 20) hx hb hts (by decide +kernel) tyX10 tyX10_ok nmX10 hown hK hP hD hS a (wld_o ct ad G M hc hk (by decide)) rfl 9 (by decide) (hts (.fieldLink RX10 78 "VideoSuite$Writer" "low" "I") (by decide +kernel)) (fun _ h9 => h9) rfl (by decide +kernel) rfl rfl (Nat.le_of_ble_eq_true rfl) dX10_beginArith_2 (fun H locs hP hD hS => ?_)
  obtain ⟨M1, eM1, hF⟩ := ltt_some hF
  rw [set_oI ct ad G M hc hk (by decide) (by rfl), ← eM1] at hP hD
  refine lv_aload_n hx hb dX10_beginArith_5 rfl (lv_at hl 0 rfl) ?_
  refine lv_sipush (v := (510 : Int32)) hx hb dX10_beginArith_6 (by decide) ?_
  refine va_put (D := D) (ci := 10) (v := .int (510 : Int32)) (ty := .int) (C := RX10) (T := TX10) (N := 20) hx hb hts (by decide +kernel) tyX10 tyX10_ok nmX10 hown hK hP hD hS a (wld_o ct ad G M1 hc hk (by decide)) rfl 10 (by decide) (hts (.fieldLink RX10 75 "VideoSuite$Writer" "range" "I") (by decide +kernel)) (fun _ h9 => h9) rfl (by decide +kernel) rfl rfl (Nat.le_of_ble_eq_true rfl) dX10_beginArith_9 (fun H locs hP hD hS => ?_)
  obtain ⟨M2, eM2, hF⟩ := ltt_some hF
  rw [set_oI ct ad G M1 hc hk (by decide) (by rfl), ← eM2] at hP hD
  refine lv_aload_n hx hb dX10_beginArith_12 rfl (lv_at hl 0 rfl) ?_
  refine lv_iconst (v := (0 : Int32)) hx hb dX10_beginArith_13 (by decide) ?_
  refine va_put (D := D) (ci := 10) (v := .int (0 : Int32)) (ty := .int) (C := RX10) (T := TX10) (N := 20) hx hb hts (by decide +kernel) tyX10 tyX10_ok nmX10 hown hK hP hD hS a (wld_o ct ad G M2 hc hk (by decide)) rfl 11 (by decide) (hts (.fieldLink RX10 37 "VideoSuite$Writer" "owed" "I") (by decide +kernel)) (fun _ h9 => h9) rfl (by decide +kernel) rfl rfl (Nat.le_of_ble_eq_true rfl) dX10_beginArith_14 (fun H locs hP hD hS => ?_)
  obtain ⟨M3, eM3, hF⟩ := ltt_some hF
  rw [set_oI ct ad G M2 hc hk (by decide) (by rfl), ← eM3] at hP hD
  refine lv_aload_n hx hb dX10_beginArith_17 rfl (lv_at hl 0 rfl) ?_
  refine lv_iconst (v := (1 : Int32)) hx hb dX10_beginArith_18 (by decide) ?_
  obtain ⟨hz9, hF⟩ := chk_some hF
  refine va_put (D := D) (ci := 10) (v := .int (1 : Int32)) (ty := .boolean) (C := RX10) (T := TX10) (N := 20) hx hb hts (by decide +kernel) tyX10 tyX10_ok nmX10 hown hK hP hD hS a (wld_o ct ad G M3 hc hk (by decide)) rfl 12 (by decide) (hts (.fieldLink RX10 34 "VideoSuite$Writer" "isFirst" "Z") (by decide +kernel)) (fun _ h9 => h9) rfl (by decide +kernel) (nar_z hz9).1 (nar_z hz9).2 (Nat.le_of_ble_eq_true rfl) dX10_beginArith_19 (fun H locs hP hD hS => ?_)
  obtain ⟨M4, eM4, hF⟩ := ltt_some hF
  rw [set_oI ct ad G M3 hc hk (by decide) (by rfl), ← eM4] at hP hD
  refine lv_aload_n hx hb dX10_beginArith_22 rfl (lv_at hl 0 rfl) ?_
  refine lv_iconst (v := (1 : Int32)) hx hb dX10_beginArith_23 (by decide) ?_
  obtain ⟨hz9, hF⟩ := chk_some hF
  refine va_put (D := D) (ci := 10) (v := .int (1 : Int32)) (ty := .boolean) (C := RX10) (T := TX10) (N := 20) hx hb hts (by decide +kernel) tyX10 tyX10_ok nmX10 hown hK hP hD hS a (wld_o ct ad G M4 hc hk (by decide)) rfl 8 (by decide) (hts (.fieldLink RX10 30 "VideoSuite$Writer" "arith" "Z") (by decide +kernel)) (fun _ h9 => h9) rfl (by decide +kernel) (nar_z hz9).1 (nar_z hz9).2 (Nat.le_of_ble_eq_true rfl) dX10_beginArith_24 (fun H locs hP hD hS => ?_)
  obtain ⟨M5, eM5, hF⟩ := ltt_some hF
  rw [set_oI ct ad G M4 hc hk (by decide) (by rfl), ← eM5] at hP hD
  obtain rfl := Option.some.inj hF
  exact W.vret hx hb hr (fun t ht hW => ⟨⟨(), rfl, trivial, ⟨by rw [ht]; exact hP, va_K.moved hW.alike hK, hD⟩⟩, hS.F ht⟩) hS.2.2 dX10_beginArith_27
theorem dX4_wide_0 : decode cX4_wide 0 = .ok (.iload_n 1, 1) := by decide +kernel
theorem dX4_wide_1 : decode cX4_wide 1 = .ok (.ifCond .ne 13, 3) := by decide +kernel
theorem dX4_wide_4 : decode cX4_wide 4 = .ok (.bipush 16, 2) := by decide +kernel
theorem dX4_wide_6 : decode cX4_wide 6 = .ok (.aload_n 0, 1) := by decide +kernel
theorem dX4_wide_7 : decode cX4_wide 7 = .ok (.getfield 33, 3) := by decide +kernel
theorem dX4_wide_10 : decode cX4_wide 10 = .ok (.imul, 1) := by decide +kernel
theorem dX4_wide_11 : decode cX4_wide 11 = .ok (.goto 10, 3) := by decide +kernel
theorem dX4_wide_14 : decode cX4_wide 14 = .ok (.bipush 8, 2) := by decide +kernel
theorem dX4_wide_16 : decode cX4_wide 16 = .ok (.aload_n 0, 1) := by decide +kernel
theorem dX4_wide_17 : decode cX4_wide 17 = .ok (.getfield 33, 3) := by decide +kernel
theorem dX4_wide_20 : decode cX4_wide 20 = .ok (.imul, 1) := by decide +kernel
theorem dX4_wide_21 : decode cX4_wide 21 = .ok (.ireturn, 1) := by decide +kernel
def FX4_wide (G : GG) (M : DD) (a : Nat) (p0 : Int32) : Option (DD × Int32) :=
  bnd (if p0 = ((0 : Int32)) then (ltt (M.1 a 1) fun x5 =>
  ltt ((((16 : Int32)) * x5)) fun x6 =>
  some (x6)) else
  (ltt (M.1 a 1) fun x3 =>
  ltt ((((8 : Int32)) * x3)) fun x4 =>
  some (x4))) fun (y1 : Int32) =>
  some (M, y1)
set_option maxHeartbeats 4000000 in
set_option maxRecDepth 100000 in
theorem kX4_wide (l : Launch) (dC : Nat → ClassId) (dI : Nat → Nat → Nat) (ct : CT) (ad : Nat → Nat) (G : GG) (M : DD) (sz : Nat) (a : Nat) (p0 : Int32) (y : DD × Int32) (hc : a < G.1) (hk : G.2.1 a = 4) (hF : FX4_wide G M a p0 = some y) : Met l yX4_wide wsX4_wide ({ frames := 0, cells := 0, slots := 0, locals := 0 }) (va_Pc [.ref (ad a), .int p0] (kB (dC, dI) ct ad G M sz)) (va_Qi (fun (q : Int32) (_ : Unit) => q = y.2) (fun _ t => kE (dC, dI) ct ad G (wA ad G sz) y.1 t) (wA ad G sz)) 0 0 (wA ad G sz) := by
  refine Met.ofW (cc := cX4_wide) (maxL := 2) (ret := (some .int)) (by decide) rfl ?_
  intro p e s m args below meth c s₁ B hml hv
  obtain ⟨rfl, hsz, hP, hK, hD0⟩ := hv
  have hx := B.exec
  have hb := B.bytes
  have hr := B.returns
  have hts := atoms_spec (ws := wsX4_wide) B.pre
  have hown : s.vm.findClass RX4 = some m.cls := findClass_of_methodNamed B.named
  have hlocks := B.notSynchronized
  subst hsz
  have hD := wD_self (sz := s.heap.size) hD0
  generalize hDD : (dC, dI) = D at hP hK ⊢
  generalize hAe : wA ad G s.heap.size = A at hD ⊢
  have hS : va_S A s.heap s.heap [] := va_S.rf
  have hl := lv_entry ([.ref (ad a), .int p0]) (n := 2) (Nat.le_of_ble_eq_true rfl)
  rw [lg_entry_eq]
  generalize (lg_sl ([.ref (ad a), .int p0]) ++ List.replicate (2 - (lg_sl ([.ref (ad a), .int p0])).length) Slot.unset).toArray = ls at hl ⊢
  have hl : lv_has ls 2 [(0, .ref (ad a)), (1, .int p0)] := hl
  unfold FX4_wide at hF
  refine lv_iload_n hx hb dX4_wide_0 rfl (lv_at hl 1 rfl) ?_
  obtain ⟨y1, hy1, hF⟩ := bnd_some hF
  have J1 : ∀ (H : Heap) (locs : List Loc) (ls : Array Slot), va_P D classes (wld ct ad G M) H → va_D A (wld ct ad G M) → va_S A s.heap H locs → lv_has ls 2 [(0, .ref (ad a)), (1, .int p0)] → W p l e (headSpec wsX4_wide ({ frames := 0, cells := 0, slots := 0, locals := 0 })).room s m ([.ref (ad a), .int p0] : List Value).toArray below meth c H locs 0 0 (MQ below (va_Qi (fun (q : Int32) (_ : Unit) => q = y.2) (fun _ t => kE D ct ad G A y.1 t) A) ([.ref (ad a), .int p0] : List Value).toArray s 0 0 A) (F0 m 21 ls [.int y1]) := by
    intro H locs ls hP hD hS hl
    obtain rfl := Option.some.inj hF
    exact W.iret (v := y1) hx hb hr (fun t ht hW => ⟨⟨_, (), rfl, rfl, ⟨by rw [ht]; exact hP, va_K.moved hW.alike hK, hD⟩⟩, hS.F ht⟩) hS.2.2 dX4_wide_21
  clear hF
  have hF := hy1
  clear hy1
  refine lv_if_ne (tgt := 14) hx hb dX4_wide_1 (by decide) (fun c2 => ?_) (fun c2 => ?_)
  · rw [if_neg c2] at hF
    refine lv_bipush (v := (8 : Int32)) hx hb dX4_wide_14 (by decide) ?_
    refine lv_aload_n hx hb dX4_wide_16 rfl (lv_at hl 0 rfl) ?_
    refine va_get (D := D) (ci := 4) (v := .int (M.1 a 1)) (C := RX4) (T := TX4) (N := 18) hx hb hts (by decide +kernel) hown hK hP a (wld_o ct ad G M hc hk (by decide)) rfl 1 (by decide) (hts (.fieldLink RX4 33 "VideoSuite$Picture" "width" "I") (by decide +kernel)) (fun _ h9 => h9) rfl dX4_wide_17 ?_
    obtain ⟨x3, ex3, hF⟩ := ltt_some hF
    refine lv_topi (fun zx3 ezx3 => ?_)
    obtain rfl : x3 = zx3 := ex3.trans ezx3.symm
    refine lv_imul hx hb dX4_wide_20 ?_
    obtain ⟨x4, ex4, hF⟩ := ltt_some hF
    refine lv_topi (fun zx4 ezx4 => ?_)
    obtain rfl : x4 = zx4 := ex4.trans ezx4.symm
    obtain rfl := Option.some.inj hF
    exact J1 _ _ _ hP hD hS (lv_sub hl [0, 1] rfl)
  · rw [if_pos c2] at hF
    refine lv_bipush (v := (16 : Int32)) hx hb dX4_wide_4 (by decide) ?_
    refine lv_aload_n hx hb dX4_wide_6 rfl (lv_at hl 0 rfl) ?_
    refine va_get (D := D) (ci := 4) (v := .int (M.1 a 1)) (C := RX4) (T := TX4) (N := 18) hx hb hts (by decide +kernel) hown hK hP a (wld_o ct ad G M hc hk (by decide)) rfl 1 (by decide) (hts (.fieldLink RX4 33 "VideoSuite$Picture" "width" "I") (by decide +kernel)) (fun _ h9 => h9) rfl dX4_wide_7 ?_
    obtain ⟨x5, ex5, hF⟩ := ltt_some hF
    refine lv_topi (fun zx5 ezx5 => ?_)
    obtain rfl : x5 = zx5 := ex5.trans ezx5.symm
    refine lv_imul hx hb dX4_wide_10 ?_
    obtain ⟨x6, ex6, hF⟩ := ltt_some hF
    refine lv_topi (fun zx6 ezx6 => ?_)
    obtain rfl : x6 = zx6 := ex6.trans ezx6.symm
    refine lv_goto (tgt := 21) hx hb dX4_wide_11 (by decide) ?_
    obtain rfl := Option.some.inj hF
    exact J1 _ _ _ hP hD hS (lv_sub hl [0, 1] rfl)
theorem dX9_isAtRest_0 : decode cX9_isAtRest 0 = .ok (.aload_n 0, 1) := by decide +kernel
theorem dX9_isAtRest_1 : decode cX9_isAtRest 1 = .ok (.getfield 51, 3) := by decide +kernel
theorem dX9_isAtRest_4 : decode cX9_isAtRest 4 = .ok (.getfield 83, 3) := by decide +kernel
theorem dX9_isAtRest_7 : decode cX9_isAtRest 7 = .ok (.iload_n 1, 1) := by decide +kernel
theorem dX9_isAtRest_8 : decode cX9_isAtRest 8 = .ok (.iaload, 1) := by decide +kernel
theorem dX9_isAtRest_9 : decode cX9_isAtRest 9 = .ok (.ifCond .ne 37, 3) := by decide +kernel
theorem dX9_isAtRest_12 : decode cX9_isAtRest 12 = .ok (.aload_n 0, 1) := by decide +kernel
theorem dX9_isAtRest_13 : decode cX9_isAtRest 13 = .ok (.getfield 51, 3) := by decide +kernel
theorem dX9_isAtRest_16 : decode cX9_isAtRest 16 = .ok (.getfield 89, 3) := by decide +kernel
theorem dX9_isAtRest_19 : decode cX9_isAtRest 19 = .ok (.iconst 2, 1) := by decide +kernel
theorem dX9_isAtRest_20 : decode cX9_isAtRest 20 = .ok (.iload_n 1, 1) := by decide +kernel
theorem dX9_isAtRest_21 : decode cX9_isAtRest 21 = .ok (.imul, 1) := by decide +kernel
theorem dX9_isAtRest_22 : decode cX9_isAtRest 22 = .ok (.iaload, 1) := by decide +kernel
theorem dX9_isAtRest_23 : decode cX9_isAtRest 23 = .ok (.ifCond .ne 23, 3) := by decide +kernel
theorem dX9_isAtRest_26 : decode cX9_isAtRest 26 = .ok (.aload_n 0, 1) := by decide +kernel
theorem dX9_isAtRest_27 : decode cX9_isAtRest 27 = .ok (.getfield 51, 3) := by decide +kernel
theorem dX9_isAtRest_30 : decode cX9_isAtRest 30 = .ok (.getfield 89, 3) := by decide +kernel
theorem dX9_isAtRest_33 : decode cX9_isAtRest 33 = .ok (.iconst 2, 1) := by decide +kernel
theorem dX9_isAtRest_34 : decode cX9_isAtRest 34 = .ok (.iload_n 1, 1) := by decide +kernel
theorem dX9_isAtRest_35 : decode cX9_isAtRest 35 = .ok (.imul, 1) := by decide +kernel
theorem dX9_isAtRest_36 : decode cX9_isAtRest 36 = .ok (.iconst 1, 1) := by decide +kernel
theorem dX9_isAtRest_37 : decode cX9_isAtRest 37 = .ok (.iadd, 1) := by decide +kernel
theorem dX9_isAtRest_38 : decode cX9_isAtRest 38 = .ok (.iaload, 1) := by decide +kernel
theorem dX9_isAtRest_39 : decode cX9_isAtRest 39 = .ok (.ifCond .ne 7, 3) := by decide +kernel
theorem dX9_isAtRest_42 : decode cX9_isAtRest 42 = .ok (.iconst 1, 1) := by decide +kernel
theorem dX9_isAtRest_43 : decode cX9_isAtRest 43 = .ok (.goto 4, 3) := by decide +kernel
theorem dX9_isAtRest_46 : decode cX9_isAtRest 46 = .ok (.iconst 0, 1) := by decide +kernel
theorem dX9_isAtRest_47 : decode cX9_isAtRest 47 = .ok (.ireturn, 1) := by decide +kernel
def FX9_isAtRest (G : GG) (M : DD) (a : Nat) (p0 : Int32) : Option (DD × Int32) :=
  dr G 4 ((M.2 a 0)) fun b1 =>
  dr G 13 ((M.2 b1 5)) fun b2 =>
  chk (¬ (p0 < 0 ∨ G.2.2 b2 ≤ p0.toNatClampNeg)) <|
  ltt (M.1 b2 p0.toNatClampNeg) fun x3 =>
  bnd (if x3 = ((0 : Int32)) then (ltt ((((2 : Int32)) * p0)) fun x6 =>
  dr G 13 ((M.2 b1 7)) fun b7 =>
  chk (¬ (x6 < 0 ∨ G.2.2 b7 ≤ x6.toNatClampNeg)) <|
  ltt (M.1 b7 x6.toNatClampNeg) fun x8 =>
  bnd (if x8 = ((0 : Int32)) then (ltt ((((2 : Int32)) * p0)) fun x11 =>
  ltt ((x11 + ((1 : Int32)))) fun x12 =>
  chk (¬ (x12 < 0 ∨ G.2.2 b7 ≤ x12.toNatClampNeg)) <|
  ltt (M.1 b7 x12.toNatClampNeg) fun x13 =>
  bnd (if x13 = ((0 : Int32)) then (some ((1 : Int32))) else
  (some ((0 : Int32)))) fun (y14 : Int32) =>
  some (y14)) else
  (some ((0 : Int32)))) fun (y9 : Int32) =>
  some (y9)) else
  (some ((0 : Int32)))) fun (y4 : Int32) =>
  chk (y4 = 0 ∨ y4 = 1) <|
  some (M, y4)
set_option maxHeartbeats 4000000 in
set_option maxRecDepth 100000 in
theorem kX9_isAtRest (l : Launch) (dC : Nat → ClassId) (dI : Nat → Nat → Nat) (ct : CT) (ad : Nat → Nat) (G : GG) (M : DD) (sz : Nat) (a : Nat) (p0 : Int32) (y : DD × Int32) (hc : a < G.1) (hk : G.2.1 a = 9) (hF : FX9_isAtRest G M a p0 = some y) : Met l yX9_isAtRest wsX9_isAtRest ({ frames := 0, cells := 0, slots := 0, locals := 0 }) (va_Pc [.ref (ad a), .int p0] (kB (dC, dI) ct ad G M sz)) (va_Qi (fun (q : Int32) (_ : Unit) => q = y.2) (fun _ t => kE (dC, dI) ct ad G (wA ad G sz) y.1 t) (wA ad G sz)) 0 0 (wA ad G sz) := by
  refine Met.ofW (cc := cX9_isAtRest) (maxL := 2) (ret := (some .boolean)) (by decide) rfl ?_
  intro p e s m args below meth c s₁ B hml hv
  obtain ⟨rfl, hsz, hP, hK, hD0⟩ := hv
  have hx := B.exec
  have hb := B.bytes
  have hr := B.returns
  have hts := atoms_spec (ws := wsX9_isAtRest) B.pre
  have hown : s.vm.findClass RX9 = some m.cls := findClass_of_methodNamed B.named
  have hlocks := B.notSynchronized
  subst hsz
  have hD := wD_self (sz := s.heap.size) hD0
  generalize hDD : (dC, dI) = D at hP hK ⊢
  generalize hAe : wA ad G s.heap.size = A at hD ⊢
  have hS : va_S A s.heap s.heap [] := va_S.rf
  have hl := lv_entry ([.ref (ad a), .int p0]) (n := 2) (Nat.le_of_ble_eq_true rfl)
  rw [lg_entry_eq]
  generalize (lg_sl ([.ref (ad a), .int p0]) ++ List.replicate (2 - (lg_sl ([.ref (ad a), .int p0])).length) Slot.unset).toArray = ls at hl ⊢
  have hl : lv_has ls 2 [(0, .ref (ad a)), (1, .int p0)] := hl
  unfold FX9_isAtRest at hF
  refine lv_aload_n hx hb dX9_isAtRest_0 rfl (lv_at hl 0 rfl) ?_
  refine va_get (D := D) (ci := 9) (v := va_re ad (M.2 a 0)) (C := RX9) (T := TX9) (N := 20) hx hb hts (by decide +kernel) hown hK hP a (wld_o ct ad G M hc hk (by decide)) rfl 0 (by decide) (hts (.fieldLink RX9 51 "VideoSuite$Work" "pic" "LVideoSuite$Picture;") (by decide +kernel)) (fun _ h9 => h9) rfl dX9_isAtRest_1 ?_
  obtain ⟨b1, ho1, hc1, hk1, hF⟩ := dr_some hF
  rw [va_some ho1]
  refine va_get (D := D) (ci := 4) (v := va_re ad (M.2 b1 5)) (C := RX4) (T := TX4) (N := 18) hx hb hts (by decide +kernel) hown hK hP b1 (wld_o ct ad G M hc1 hk1 (by decide)) rfl 5 (by decide) (hts (.fieldLink RX9 83 "VideoSuite$Picture" "reference" "[I") (by decide +kernel)) (fun _ h9 => h9) rfl dX9_isAtRest_4 ?_
  refine lv_iload_n hx hb dX9_isAtRest_7 rfl (lv_at hl 1 rfl) ?_
  obtain ⟨b2, ho2, hc2, hk2, hF⟩ := dr_some hF
  rw [va_some ho2]
  obtain ⟨hvc, hF⟩ := chk_some hF
  refine va_iald hx hb hK hP b2 1 (wld_i ct ad G M hc2 hk2) rfl hvc dX9_isAtRest_8 ?_
  obtain ⟨x3, ex3, hF⟩ := ltt_some hF
  refine lv_topi (fun zx3 ezx3 => ?_)
  obtain rfl : x3 = zx3 := ex3.trans ezx3.symm
  obtain ⟨y4, hy4, hF⟩ := bnd_some hF
  have J4 : ∀ (H : Heap) (locs : List Loc) (ls : Array Slot), va_P D classes (wld ct ad G M) H → va_D A (wld ct ad G M) → va_S A s.heap H locs → lv_has ls 2 [(0, .ref (ad a)), (1, .int p0)] → W p l e (headSpec wsX9_isAtRest ({ frames := 0, cells := 0, slots := 0, locals := 0 })).room s m ([.ref (ad a), .int p0] : List Value).toArray below meth c H locs 0 0 (MQ below (va_Qi (fun (q : Int32) (_ : Unit) => q = y.2) (fun _ t => kE D ct ad G A y.1 t) A) ([.ref (ad a), .int p0] : List Value).toArray s 0 0 A) (F0 m 47 ls [.int y4]) := by
    intro H locs ls hP hD hS hl
    obtain ⟨hz9, hF⟩ := chk_some hF
    obtain rfl := Option.some.inj hF
    exact W.zret (v := y4) (ty := .boolean) hx hb hr (nar_z hz9).1 (fun t ht hW => ⟨⟨_, (), rfl, rfl, ⟨by rw [ht]; exact hP, va_K.moved hW.alike hK, hD⟩⟩, hS.F ht⟩) hS.2.2 dX9_isAtRest_47
  clear hF
  have hF := hy4
  clear hy4
  refine lv_if_ne (tgt := 46) hx hb dX9_isAtRest_9 (by decide) (fun c5 => ?_) (fun c5 => ?_)
  · rw [if_neg c5] at hF
    refine lv_iconst (v := (0 : Int32)) hx hb dX9_isAtRest_46 (by decide) ?_
    obtain rfl := Option.some.inj hF
    exact J4 _ _ _ hP hD hS (lv_sub hl [0, 1] rfl)
  · rw [if_pos c5] at hF
    refine lv_aload_n hx hb dX9_isAtRest_12 rfl (lv_at hl 0 rfl) ?_
    refine va_get (D := D) (ci := 9) (v := va_re ad (M.2 a 0)) (C := RX9) (T := TX9) (N := 20) hx hb hts (by decide +kernel) hown hK hP a (wld_o ct ad G M hc hk (by decide)) rfl 0 (by decide) (hts (.fieldLink RX9 51 "VideoSuite$Work" "pic" "LVideoSuite$Picture;") (by decide +kernel)) (fun _ h9 => h9) rfl dX9_isAtRest_13 ?_
    rw [va_some ho1]
    refine va_get (D := D) (ci := 4) (v := va_re ad (M.2 b1 7)) (C := RX4) (T := TX4) (N := 18) hx hb hts (by decide +kernel) hown hK hP b1 (wld_o ct ad G M hc1 hk1 (by decide)) rfl 7 (by decide) (hts (.fieldLink RX9 89 "VideoSuite$Picture" "move" "[I") (by decide +kernel)) (fun _ h9 => h9) rfl dX9_isAtRest_16 ?_
    refine lv_iconst (v := (2 : Int32)) hx hb dX9_isAtRest_19 (by decide) ?_
    refine lv_iload_n hx hb dX9_isAtRest_20 rfl (lv_at hl 1 rfl) ?_
    refine lv_imul hx hb dX9_isAtRest_21 ?_
    obtain ⟨x6, ex6, hF⟩ := ltt_some hF
    refine lv_topi (fun zx6 ezx6 => ?_)
    obtain rfl : x6 = zx6 := ex6.trans ezx6.symm
    obtain ⟨b7, ho7, hc7, hk7, hF⟩ := dr_some hF
    rw [va_some ho7]
    obtain ⟨hvc, hF⟩ := chk_some hF
    refine va_iald hx hb hK hP b7 1 (wld_i ct ad G M hc7 hk7) rfl hvc dX9_isAtRest_22 ?_
    obtain ⟨x8, ex8, hF⟩ := ltt_some hF
    refine lv_topi (fun zx8 ezx8 => ?_)
    obtain rfl : x8 = zx8 := ex8.trans ezx8.symm
    obtain ⟨y9, hy9, hF⟩ := bnd_some hF
    have J9 : ∀ (H : Heap) (locs : List Loc) (ls : Array Slot), va_P D classes (wld ct ad G M) H → va_D A (wld ct ad G M) → va_S A s.heap H locs → lv_has ls 2 [(0, .ref (ad a)), (1, .int p0)] → W p l e (headSpec wsX9_isAtRest ({ frames := 0, cells := 0, slots := 0, locals := 0 })).room s m ([.ref (ad a), .int p0] : List Value).toArray below meth c H locs 0 0 (MQ below (va_Qi (fun (q : Int32) (_ : Unit) => q = y.2) (fun _ t => kE D ct ad G A y.1 t) A) ([.ref (ad a), .int p0] : List Value).toArray s 0 0 A) (F0 m 47 ls [.int y9]) := by
      intro H locs ls hP hD hS hl
      obtain rfl := Option.some.inj hF
      exact J4 _ _ _ hP hD hS (lv_sub hl [0, 1] rfl)
    clear hF
    have hF := hy9
    clear hy9
    refine lv_if_ne (tgt := 46) hx hb dX9_isAtRest_23 (by decide) (fun c10 => ?_) (fun c10 => ?_)
    · rw [if_neg c10] at hF
      refine lv_iconst (v := (0 : Int32)) hx hb dX9_isAtRest_46 (by decide) ?_
      obtain rfl := Option.some.inj hF
      exact J9 _ _ _ hP hD hS (lv_sub hl [0, 1] rfl)
    · rw [if_pos c10] at hF
      refine lv_aload_n hx hb dX9_isAtRest_26 rfl (lv_at hl 0 rfl) ?_
      refine va_get (D := D) (ci := 9) (v := va_re ad (M.2 a 0)) (C := RX9) (T := TX9) (N := 20) hx hb hts (by decide +kernel) hown hK hP a (wld_o ct ad G M hc hk (by decide)) rfl 0 (by decide) (hts (.fieldLink RX9 51 "VideoSuite$Work" "pic" "LVideoSuite$Picture;") (by decide +kernel)) (fun _ h9 => h9) rfl dX9_isAtRest_27 ?_
      rw [va_some ho1]
      refine va_get (D := D) (ci := 4) (v := va_re ad (M.2 b1 7)) (C := RX4) (T := TX4) (N := 18) hx hb hts (by decide +kernel) hown hK hP b1 (wld_o ct ad G M hc1 hk1 (by decide)) rfl 7 (by decide) (hts (.fieldLink RX9 89 "VideoSuite$Picture" "move" "[I") (by decide +kernel)) (fun _ h9 => h9) rfl dX9_isAtRest_30 ?_
      refine lv_iconst (v := (2 : Int32)) hx hb dX9_isAtRest_33 (by decide) ?_
      refine lv_iload_n hx hb dX9_isAtRest_34 rfl (lv_at hl 1 rfl) ?_
      refine lv_imul hx hb dX9_isAtRest_35 ?_
      obtain ⟨x11, ex11, hF⟩ := ltt_some hF
      refine lv_topi (fun zx11 ezx11 => ?_)
      obtain rfl : x11 = zx11 := ex11.trans ezx11.symm
      refine lv_iconst (v := (1 : Int32)) hx hb dX9_isAtRest_36 (by decide) ?_
      refine lv_iadd hx hb dX9_isAtRest_37 ?_
      obtain ⟨x12, ex12, hF⟩ := ltt_some hF
      refine lv_topi (fun zx12 ezx12 => ?_)
      obtain rfl : x12 = zx12 := ex12.trans ezx12.symm
      rw [va_some ho7]
      obtain ⟨hvc, hF⟩ := chk_some hF
      refine va_iald hx hb hK hP b7 1 (wld_i ct ad G M hc7 hk7) rfl hvc dX9_isAtRest_38 ?_
      obtain ⟨x13, ex13, hF⟩ := ltt_some hF
      refine lv_topi (fun zx13 ezx13 => ?_)
      obtain rfl : x13 = zx13 := ex13.trans ezx13.symm
      obtain ⟨y14, hy14, hF⟩ := bnd_some hF
      have J14 : ∀ (H : Heap) (locs : List Loc) (ls : Array Slot), va_P D classes (wld ct ad G M) H → va_D A (wld ct ad G M) → va_S A s.heap H locs → lv_has ls 2 [(0, .ref (ad a)), (1, .int p0)] → W p l e (headSpec wsX9_isAtRest ({ frames := 0, cells := 0, slots := 0, locals := 0 })).room s m ([.ref (ad a), .int p0] : List Value).toArray below meth c H locs 0 0 (MQ below (va_Qi (fun (q : Int32) (_ : Unit) => q = y.2) (fun _ t => kE D ct ad G A y.1 t) A) ([.ref (ad a), .int p0] : List Value).toArray s 0 0 A) (F0 m 47 ls [.int y14]) := by
        intro H locs ls hP hD hS hl
        obtain rfl := Option.some.inj hF
        exact J9 _ _ _ hP hD hS (lv_sub hl [0, 1] rfl)
      clear hF
      have hF := hy14
      clear hy14
      refine lv_if_ne (tgt := 46) hx hb dX9_isAtRest_39 (by decide) (fun c15 => ?_) (fun c15 => ?_)
      · rw [if_neg c15] at hF
        refine lv_iconst (v := (0 : Int32)) hx hb dX9_isAtRest_46 (by decide) ?_
        obtain rfl := Option.some.inj hF
        exact J14 _ _ _ hP hD hS (lv_sub hl [0, 1] rfl)
      · rw [if_pos c15] at hF
        refine lv_iconst (v := (1 : Int32)) hx hb dX9_isAtRest_42 (by decide) ?_
        refine lv_goto (tgt := 47) hx hb dX9_isAtRest_43 (by decide) ?_
        obtain rfl := Option.some.inj hF
        exact J14 _ _ _ hP hD hS (lv_sub hl [0, 1] rfl)
theorem dX10_beginUnit_0 : decode cX10_beginUnit 0 = .ok (.aload_n 0, 1) := by decide +kernel
theorem dX10_beginUnit_1 : decode cX10_beginUnit 1 = .ok (.iconst 0, 1) := by decide +kernel
theorem dX10_beginUnit_2 : decode cX10_beginUnit 2 = .ok (.putfield 30, 3) := by decide +kernel
theorem dX10_beginUnit_5 : decode cX10_beginUnit 5 = .ok (.aload_n 0, 1) := by decide +kernel
theorem dX10_beginUnit_6 : decode cX10_beginUnit 6 = .ok (.iconst 0, 1) := by decide +kernel
theorem dX10_beginUnit_7 : decode cX10_beginUnit 7 = .ok (.putfield 34, 3) := by decide +kernel
theorem dX10_beginUnit_10 : decode cX10_beginUnit 10 = .ok (.aload_n 0, 1) := by decide +kernel
theorem dX10_beginUnit_11 : decode cX10_beginUnit 11 = .ok (.iconst 0, 1) := by decide +kernel
theorem dX10_beginUnit_12 : decode cX10_beginUnit 12 = .ok (.putfield 37, 3) := by decide +kernel
theorem dX10_beginUnit_15 : decode cX10_beginUnit 15 = .ok (.aload_n 0, 1) := by decide +kernel
theorem dX10_beginUnit_16 : decode cX10_beginUnit 16 = .ok (.iconst 0, 1) := by decide +kernel
theorem dX10_beginUnit_17 : decode cX10_beginUnit 17 = .ok (.putfield 41, 3) := by decide +kernel
theorem dX10_beginUnit_20 : decode cX10_beginUnit 20 = .ok (.aload_n 0, 1) := by decide +kernel
theorem dX10_beginUnit_21 : decode cX10_beginUnit 21 = .ok (.iconst 0, 1) := by decide +kernel
theorem dX10_beginUnit_22 : decode cX10_beginUnit 22 = .ok (.putfield 44, 3) := by decide +kernel
theorem dX10_beginUnit_25 : decode cX10_beginUnit 25 = .ok (.aload_n 0, 1) := by decide +kernel
theorem dX10_beginUnit_26 : decode cX10_beginUnit 26 = .ok (.iconst 1, 1) := by decide +kernel
theorem dX10_beginUnit_27 : decode cX10_beginUnit 27 = .ok (.putfield 47, 3) := by decide +kernel
theorem dX10_beginUnit_30 : decode cX10_beginUnit 30 = .ok (.aload_n 0, 1) := by decide +kernel
theorem dX10_beginUnit_31 : decode cX10_beginUnit 31 = .ok (.getfield 15, 3) := by decide +kernel
theorem dX10_beginUnit_34 : decode cX10_beginUnit 34 = .ok (.iconst 0, 1) := by decide +kernel
theorem dX10_beginUnit_35 : decode cX10_beginUnit 35 = .ok (.iload_n 1, 1) := by decide +kernel
theorem dX10_beginUnit_36 : decode cX10_beginUnit 36 = .ok (.i2b, 1) := by decide +kernel
theorem dX10_beginUnit_37 : decode cX10_beginUnit 37 = .ok (.bastore, 1) := by decide +kernel
theorem dX10_beginUnit_38 : decode cX10_beginUnit 38 = .ok (.return_, 1) := by decide +kernel
def FX10_beginUnit (G : GG) (M : DD) (a : Nat) (p0 : Int32) : Option (DD) :=
  chk (((0 : Int32)) = 0 ∨ ((0 : Int32)) = 1) <|
  ltt (uI M a 8 ((0 : Int32))) fun M1 =>
  chk (((0 : Int32)) = 0 ∨ ((0 : Int32)) = 1) <|
  ltt (uI M1 a 12 ((0 : Int32))) fun M2 =>
  ltt (uI M2 a 11 ((0 : Int32))) fun M3 =>
  ltt (uI M3 a 6 ((0 : Int32))) fun M4 =>
  ltt (uI M4 a 7 ((0 : Int32))) fun M5 =>
  ltt (uI M5 a 5 ((1 : Int32))) fun M6 =>
  ltt (p0.toInt8.toInt32) fun x7 =>
  dr G 12 ((M6.2 a 4)) fun b8 =>
  chk (¬ (((0 : Int32)) < 0 ∨ G.2.2 b8 ≤ ((0 : Int32)).toNatClampNeg)) <|
  ltt (uI M6 b8 ((0 : Int32)).toNatClampNeg (vp_nar .byte x7)) fun M9 =>
  some M9
set_option maxHeartbeats 4000000 in
set_option maxRecDepth 100000 in
theorem kX10_beginUnit (l : Launch) (dC : Nat → ClassId) (dI : Nat → Nat → Nat) (ct : CT) (ad : Nat → Nat) (G : GG) (M : DD) (sz : Nat) (a : Nat) (p0 : Int32) (y : DD) (hc : a < G.1) (hk : G.2.1 a = 10) (hF : FX10_beginUnit G M a p0 = some y) : Met l yX10_beginUnit wsX10_beginUnit ({ frames := 0, cells := 0, slots := 0, locals := 0 }) (va_Pc [.ref (ad a), .int p0] (kB (dC, dI) ct ad G M sz)) (va_Qv (fun (_ : Unit) => True) (fun _ t => kE (dC, dI) ct ad G (wA ad G sz) y t) (wA ad G sz)) 0 0 (wA ad G sz) := by
  refine Met.ofW (cc := cX10_beginUnit) (maxL := 2) (ret := none) (by decide) rfl ?_
  intro p e s m args below meth c s₁ B hml hv
  obtain ⟨rfl, hsz, hP, hK, hD0⟩ := hv
  have hx := B.exec
  have hb := B.bytes
  have hr := B.returns
  have hts := atoms_spec (ws := wsX10_beginUnit) B.pre
  have hown : s.vm.findClass RX10 = some m.cls := findClass_of_methodNamed B.named
  have hlocks := B.notSynchronized
  subst hsz
  have hD := wD_self (sz := s.heap.size) hD0
  generalize hDD : (dC, dI) = D at hP hK ⊢
  generalize hAe : wA ad G s.heap.size = A at hD ⊢
  have hS : va_S A s.heap s.heap [] := va_S.rf
  have hl := lv_entry ([.ref (ad a), .int p0]) (n := 2) (Nat.le_of_ble_eq_true rfl)
  rw [lg_entry_eq]
  generalize (lg_sl ([.ref (ad a), .int p0]) ++ List.replicate (2 - (lg_sl ([.ref (ad a), .int p0])).length) Slot.unset).toArray = ls at hl ⊢
  have hl : lv_has ls 2 [(0, .ref (ad a)), (1, .int p0)] := hl
  unfold FX10_beginUnit at hF
  refine lv_aload_n hx hb dX10_beginUnit_0 rfl (lv_at hl 0 rfl) ?_
  refine lv_iconst (v := (0 : Int32)) hx hb dX10_beginUnit_1 (by decide) ?_
  obtain ⟨hz9, hF⟩ := chk_some hF
  refine va_put (D := D) (ci := 10) (v := .int (0 : Int32)) (ty := .boolean) (C := RX10) (T := TX10) (N := 20) hx hb hts (by decide +kernel) tyX10 tyX10_ok nmX10 hown hK hP hD hS a (wld_o ct ad G M hc hk (by decide)) rfl 8 (by decide) (hts (.fieldLink RX10 30 "VideoSuite$Writer" "arith" "Z") (by decide +kernel)) (fun _ h9 => h9) rfl (by decide +kernel) (nar_z hz9).1 (nar_z hz9).2 (Nat.le_of_ble_eq_true rfl) dX10_beginUnit_2 (fun H locs hP hD hS => ?_)
  obtain ⟨M1, eM1, hF⟩ := ltt_some hF
  rw [set_oI ct ad G M hc hk (by decide) (by rfl), ← eM1] at hP hD
  refine lv_aload_n hx hb dX10_beginUnit_5 rfl (lv_at hl 0 rfl) ?_
  refine lv_iconst (v := (0 : Int32)) hx hb dX10_beginUnit_6 (by decide) ?_
  obtain ⟨hz9, hF⟩ := chk_some hF
  refine va_put (D := D) (ci := 10) (v := .int (0 : Int32)) (ty := .boolean) (C := RX10) (T := TX10) (N := 20) hx hb hts (by decide +kernel) tyX10 tyX10_ok nmX10 hown hK hP hD hS a (wld_o ct ad G M1 hc hk (by decide)) rfl 12 (by decide) (hts (.fieldLink RX10 34 "VideoSuite$Writer" "isFirst" "Z") (by decide +kernel)) (fun _ h9 => h9) rfl (by decide +kernel) (nar_z hz9).1 (nar_z hz9).2 (Nat.le_of_ble_eq_true rfl) dX10_beginUnit_7 (fun H locs hP hD hS => ?_)
  obtain ⟨M2, eM2, hF⟩ := ltt_some hF
  rw [set_oI ct ad G M1 hc hk (by decide) (by rfl), ← eM2] at hP hD
  refine lv_aload_n hx hb dX10_beginUnit_10 rfl (lv_at hl 0 rfl) ?_
  refine lv_iconst (v := (0 : Int32)) hx hb dX10_beginUnit_11 (by decide) ?_
  refine va_put (D := D) (ci := 10) (v := .int (0 : Int32)) (ty := .int) (C := RX10) (T := TX10) (N := 20) hx hb hts (by decide +kernel) tyX10 tyX10_ok nmX10 hown hK hP hD hS a (wld_o ct ad G M2 hc hk (by decide)) rfl 11 (by decide) (hts (.fieldLink RX10 37 "VideoSuite$Writer" "owed" "I") (by decide +kernel)) (fun _ h9 => h9) rfl (by decide +kernel) rfl rfl (Nat.le_of_ble_eq_true rfl) dX10_beginUnit_12 (fun H locs hP hD hS => ?_)
  obtain ⟨M3, eM3, hF⟩ := ltt_some hF
  rw [set_oI ct ad G M2 hc hk (by decide) (by rfl), ← eM3] at hP hD
  refine lv_aload_n hx hb dX10_beginUnit_15 rfl (lv_at hl 0 rfl) ?_
  refine lv_iconst (v := (0 : Int32)) hx hb dX10_beginUnit_16 (by decide) ?_
  refine va_put (D := D) (ci := 10) (v := .int (0 : Int32)) (ty := .int) (C := RX10) (T := TX10) (N := 20) hx hb hts (by decide +kernel) tyX10 tyX10_ok nmX10 hown hK hP hD hS a (wld_o ct ad G M3 hc hk (by decide)) rfl 6 (by decide) (hts (.fieldLink RX10 41 "VideoSuite$Writer" "held" "I") (by decide +kernel)) (fun _ h9 => h9) rfl (by decide +kernel) rfl rfl (Nat.le_of_ble_eq_true rfl) dX10_beginUnit_17 (fun H locs hP hD hS => ?_)
  obtain ⟨M4, eM4, hF⟩ := ltt_some hF
  rw [set_oI ct ad G M3 hc hk (by decide) (by rfl), ← eM4] at hP hD
  refine lv_aload_n hx hb dX10_beginUnit_20 rfl (lv_at hl 0 rfl) ?_
  refine lv_iconst (v := (0 : Int32)) hx hb dX10_beginUnit_21 (by decide) ?_
  refine va_put (D := D) (ci := 10) (v := .int (0 : Int32)) (ty := .int) (C := RX10) (T := TX10) (N := 20) hx hb hts (by decide +kernel) tyX10 tyX10_ok nmX10 hown hK hP hD hS a (wld_o ct ad G M4 hc hk (by decide)) rfl 7 (by decide) (hts (.fieldLink RX10 44 "VideoSuite$Writer" "heldBits" "I") (by decide +kernel)) (fun _ h9 => h9) rfl (by decide +kernel) rfl rfl (Nat.le_of_ble_eq_true rfl) dX10_beginUnit_22 (fun H locs hP hD hS => ?_)
  obtain ⟨M5, eM5, hF⟩ := ltt_some hF
  rw [set_oI ct ad G M4 hc hk (by decide) (by rfl), ← eM5] at hP hD
  refine lv_aload_n hx hb dX10_beginUnit_25 rfl (lv_at hl 0 rfl) ?_
  refine lv_iconst (v := (1 : Int32)) hx hb dX10_beginUnit_26 (by decide) ?_
  refine va_put (D := D) (ci := 10) (v := .int (1 : Int32)) (ty := .int) (C := RX10) (T := TX10) (N := 20) hx hb hts (by decide +kernel) tyX10 tyX10_ok nmX10 hown hK hP hD hS a (wld_o ct ad G M5 hc hk (by decide)) rfl 5 (by decide) (hts (.fieldLink RX10 47 "VideoSuite$Writer" "unitSize" "I") (by decide +kernel)) (fun _ h9 => h9) rfl (by decide +kernel) rfl rfl (Nat.le_of_ble_eq_true rfl) dX10_beginUnit_27 (fun H locs hP hD hS => ?_)
  obtain ⟨M6, eM6, hF⟩ := ltt_some hF
  rw [set_oI ct ad G M5 hc hk (by decide) (by rfl), ← eM6] at hP hD
  refine lv_aload_n hx hb dX10_beginUnit_30 rfl (lv_at hl 0 rfl) ?_
  refine va_get (D := D) (ci := 10) (v := va_re ad (M6.2 a 4)) (C := RX10) (T := TX10) (N := 20) hx hb hts (by decide +kernel) hown hK hP a (wld_o ct ad G M6 hc hk (by decide)) rfl 4 (by decide) (hts (.fieldLink RX10 15 "VideoSuite$Writer" "unit" "[B") (by decide +kernel)) (fun _ h9 => h9) rfl dX10_beginUnit_31 ?_
  refine lv_iconst (v := (0 : Int32)) hx hb dX10_beginUnit_34 (by decide) ?_
  refine lv_iload_n hx hb dX10_beginUnit_35 rfl (lv_at hl 1 rfl) ?_
  refine lv_i2b hx hb dX10_beginUnit_36 rfl ?_
  obtain ⟨x7, ex7, hF⟩ := ltt_some hF
  refine lv_topi (fun zx7 ezx7 => ?_)
  obtain rfl : x7 = zx7 := ex7.trans ezx7.symm
  obtain ⟨b8, ho8, hc8, hk8, hF⟩ := dr_some hF
  rw [va_some ho8]
  obtain ⟨hvc, hF⟩ := chk_some hF
  refine va_bast hx hb hK hP hD hS b8 0 (wld_b ct ad G M6 hc8 hk8) rfl hvc dX10_beginUnit_37 (fun H locs hP hD hS => ?_)
  obtain ⟨M9, eM9, hF⟩ := ltt_some hF
  rw [set_b ct ad G M6 hc8 hk8, ← eM9] at hP hD
  obtain rfl := Option.some.inj hF
  exact W.vret hx hb hr (fun t ht hW => ⟨⟨(), rfl, trivial, ⟨by rw [ht]; exact hP, va_K.moved hW.alike hK, hD⟩⟩, hS.F ht⟩) hS.2.2 dX10_beginUnit_38
theorem dX4_listOf_0 : decode cX4_listOf 0 = .ok (.aload_n 0, 1) := by decide +kernel
theorem dX4_listOf_1 : decode cX4_listOf 1 = .ok (.getfield 20, 3) := by decide +kernel
theorem dX4_listOf_4 : decode cX4_listOf 4 = .ok (.iload_n 1, 1) := by decide +kernel
theorem dX4_listOf_5 : decode cX4_listOf 5 = .ok (.iaload, 1) := by decide +kernel
theorem dX4_listOf_6 : decode cX4_listOf 6 = .ok (.ifCond .lt 7, 3) := by decide +kernel
theorem dX4_listOf_9 : decode cX4_listOf 9 = .ok (.iconst 0, 1) := by decide +kernel
theorem dX4_listOf_10 : decode cX4_listOf 10 = .ok (.goto 21, 3) := by decide +kernel
theorem dX4_listOf_13 : decode cX4_listOf 13 = .ok (.aload_n 0, 1) := by decide +kernel
theorem dX4_listOf_14 : decode cX4_listOf 14 = .ok (.getfield 20, 3) := by decide +kernel
theorem dX4_listOf_17 : decode cX4_listOf 17 = .ok (.sipush 512, 3) := by decide +kernel
theorem dX4_listOf_20 : decode cX4_listOf 20 = .ok (.iload_n 1, 1) := by decide +kernel
theorem dX4_listOf_21 : decode cX4_listOf 21 = .ok (.iadd, 1) := by decide +kernel
theorem dX4_listOf_22 : decode cX4_listOf 22 = .ok (.iaload, 1) := by decide +kernel
theorem dX4_listOf_23 : decode cX4_listOf 23 = .ok (.ifCond .lt 7, 3) := by decide +kernel
theorem dX4_listOf_26 : decode cX4_listOf 26 = .ok (.iconst 1, 1) := by decide +kernel
theorem dX4_listOf_27 : decode cX4_listOf 27 = .ok (.goto 4, 3) := by decide +kernel
theorem dX4_listOf_30 : decode cX4_listOf 30 = .ok (.iconst (-1), 1) := by decide +kernel
theorem dX4_listOf_31 : decode cX4_listOf 31 = .ok (.ireturn, 1) := by decide +kernel
def FX4_listOf (G : GG) (M : DD) (a : Nat) (p0 : Int32) : Option (DD × Int32) :=
  dr G 13 ((M.2 a 5)) fun b1 =>
  chk (¬ (p0 < 0 ∨ G.2.2 b1 ≤ p0.toNatClampNeg)) <|
  ltt (M.1 b1 p0.toNatClampNeg) fun x2 =>
  bnd (if x2 < ((0 : Int32)) then (ltt ((((512 : Int32)) + p0)) fun x5 =>
  chk (¬ (x5 < 0 ∨ G.2.2 b1 ≤ x5.toNatClampNeg)) <|
  ltt (M.1 b1 x5.toNatClampNeg) fun x6 =>
  bnd (if x6 < ((0 : Int32)) then (some ((-1 : Int32))) else
  (some ((1 : Int32)))) fun (y7 : Int32) =>
  some (y7)) else
  (some ((0 : Int32)))) fun (y3 : Int32) =>
  some (M, y3)
set_option maxHeartbeats 4000000 in
set_option maxRecDepth 100000 in
theorem kX4_listOf (l : Launch) (dC : Nat → ClassId) (dI : Nat → Nat → Nat) (ct : CT) (ad : Nat → Nat) (G : GG) (M : DD) (sz : Nat) (a : Nat) (p0 : Int32) (y : DD × Int32) (hc : a < G.1) (hk : G.2.1 a = 4) (hF : FX4_listOf G M a p0 = some y) : Met l yX4_listOf wsX4_listOf ({ frames := 0, cells := 0, slots := 0, locals := 0 }) (va_Pc [.ref (ad a), .int p0] (kB (dC, dI) ct ad G M sz)) (va_Qi (fun (q : Int32) (_ : Unit) => q = y.2) (fun _ t => kE (dC, dI) ct ad G (wA ad G sz) y.1 t) (wA ad G sz)) 0 0 (wA ad G sz) := by
  refine Met.ofW (cc := cX4_listOf) (maxL := 2) (ret := (some .int)) (by decide) rfl ?_
  intro p e s m args below meth c s₁ B hml hv
  obtain ⟨rfl, hsz, hP, hK, hD0⟩ := hv
  have hx := B.exec
  have hb := B.bytes
  have hr := B.returns
  have hts := atoms_spec (ws := wsX4_listOf) B.pre
  have hown : s.vm.findClass RX4 = some m.cls := findClass_of_methodNamed B.named
  have hlocks := B.notSynchronized
  subst hsz
  have hD := wD_self (sz := s.heap.size) hD0
  generalize hDD : (dC, dI) = D at hP hK ⊢
  generalize hAe : wA ad G s.heap.size = A at hD ⊢
  have hS : va_S A s.heap s.heap [] := va_S.rf
  have hl := lv_entry ([.ref (ad a), .int p0]) (n := 2) (Nat.le_of_ble_eq_true rfl)
  rw [lg_entry_eq]
  generalize (lg_sl ([.ref (ad a), .int p0]) ++ List.replicate (2 - (lg_sl ([.ref (ad a), .int p0])).length) Slot.unset).toArray = ls at hl ⊢
  have hl : lv_has ls 2 [(0, .ref (ad a)), (1, .int p0)] := hl
  unfold FX4_listOf at hF
  refine lv_aload_n hx hb dX4_listOf_0 rfl (lv_at hl 0 rfl) ?_
  refine va_get (D := D) (ci := 4) (v := va_re ad (M.2 a 5)) (C := RX4) (T := TX4) (N := 18) hx hb hts (by decide +kernel) hown hK hP a (wld_o ct ad G M hc hk (by decide)) rfl 5 (by decide) (hts (.fieldLink RX4 20 "VideoSuite$Picture" "reference" "[I") (by decide +kernel)) (fun _ h9 => h9) rfl dX4_listOf_1 ?_
  refine lv_iload_n hx hb dX4_listOf_4 rfl (lv_at hl 1 rfl) ?_
  obtain ⟨b1, ho1, hc1, hk1, hF⟩ := dr_some hF
  rw [va_some ho1]
  obtain ⟨hvc, hF⟩ := chk_some hF
  refine va_iald hx hb hK hP b1 1 (wld_i ct ad G M hc1 hk1) rfl hvc dX4_listOf_5 ?_
  obtain ⟨x2, ex2, hF⟩ := ltt_some hF
  refine lv_topi (fun zx2 ezx2 => ?_)
  obtain rfl : x2 = zx2 := ex2.trans ezx2.symm
  obtain ⟨y3, hy3, hF⟩ := bnd_some hF
  have J3 : ∀ (H : Heap) (locs : List Loc) (ls : Array Slot), va_P D classes (wld ct ad G M) H → va_D A (wld ct ad G M) → va_S A s.heap H locs → lv_has ls 2 [(0, .ref (ad a)), (1, .int p0)] → W p l e (headSpec wsX4_listOf ({ frames := 0, cells := 0, slots := 0, locals := 0 })).room s m ([.ref (ad a), .int p0] : List Value).toArray below meth c H locs 0 0 (MQ below (va_Qi (fun (q : Int32) (_ : Unit) => q = y.2) (fun _ t => kE D ct ad G A y.1 t) A) ([.ref (ad a), .int p0] : List Value).toArray s 0 0 A) (F0 m 31 ls [.int y3]) := by
    intro H locs ls hP hD hS hl
    obtain rfl := Option.some.inj hF
    exact W.iret (v := y3) hx hb hr (fun t ht hW => ⟨⟨_, (), rfl, rfl, ⟨by rw [ht]; exact hP, va_K.moved hW.alike hK, hD⟩⟩, hS.F ht⟩) hS.2.2 dX4_listOf_31
  clear hF
  have hF := hy3
  clear hy3
  refine lv_if_lt (tgt := 13) hx hb dX4_listOf_6 (by decide) (fun c4 => ?_) (fun c4 => ?_)
  · rw [if_pos c4] at hF
    refine lv_aload_n hx hb dX4_listOf_13 rfl (lv_at hl 0 rfl) ?_
    refine va_get (D := D) (ci := 4) (v := va_re ad (M.2 a 5)) (C := RX4) (T := TX4) (N := 18) hx hb hts (by decide +kernel) hown hK hP a (wld_o ct ad G M hc hk (by decide)) rfl 5 (by decide) (hts (.fieldLink RX4 20 "VideoSuite$Picture" "reference" "[I") (by decide +kernel)) (fun _ h9 => h9) rfl dX4_listOf_14 ?_
    refine lv_sipush (v := (512 : Int32)) hx hb dX4_listOf_17 (by decide) ?_
    refine lv_iload_n hx hb dX4_listOf_20 rfl (lv_at hl 1 rfl) ?_
    refine lv_iadd hx hb dX4_listOf_21 ?_
    obtain ⟨x5, ex5, hF⟩ := ltt_some hF
    refine lv_topi (fun zx5 ezx5 => ?_)
    obtain rfl : x5 = zx5 := ex5.trans ezx5.symm
    rw [va_some ho1]
    obtain ⟨hvc, hF⟩ := chk_some hF
    refine va_iald hx hb hK hP b1 1 (wld_i ct ad G M hc1 hk1) rfl hvc dX4_listOf_22 ?_
    obtain ⟨x6, ex6, hF⟩ := ltt_some hF
    refine lv_topi (fun zx6 ezx6 => ?_)
    obtain rfl : x6 = zx6 := ex6.trans ezx6.symm
    obtain ⟨y7, hy7, hF⟩ := bnd_some hF
    have J7 : ∀ (H : Heap) (locs : List Loc) (ls : Array Slot), va_P D classes (wld ct ad G M) H → va_D A (wld ct ad G M) → va_S A s.heap H locs → lv_has ls 2 [(0, .ref (ad a)), (1, .int p0)] → W p l e (headSpec wsX4_listOf ({ frames := 0, cells := 0, slots := 0, locals := 0 })).room s m ([.ref (ad a), .int p0] : List Value).toArray below meth c H locs 0 0 (MQ below (va_Qi (fun (q : Int32) (_ : Unit) => q = y.2) (fun _ t => kE D ct ad G A y.1 t) A) ([.ref (ad a), .int p0] : List Value).toArray s 0 0 A) (F0 m 31 ls [.int y7]) := by
      intro H locs ls hP hD hS hl
      obtain rfl := Option.some.inj hF
      exact J3 _ _ _ hP hD hS (lv_sub hl [0, 1] rfl)
    clear hF
    have hF := hy7
    clear hy7
    refine lv_if_lt (tgt := 30) hx hb dX4_listOf_23 (by decide) (fun c8 => ?_) (fun c8 => ?_)
    · rw [if_pos c8] at hF
      refine lv_iconst (v := (-1 : Int32)) hx hb dX4_listOf_30 (by decide) ?_
      obtain rfl := Option.some.inj hF
      exact J7 _ _ _ hP hD hS (lv_sub hl [0, 1] rfl)
    · rw [if_neg c8] at hF
      refine lv_iconst (v := (1 : Int32)) hx hb dX4_listOf_26 (by decide) ?_
      refine lv_goto (tgt := 31) hx hb dX4_listOf_27 (by decide) ?_
      obtain rfl := Option.some.inj hF
      exact J7 _ _ _ hP hD hS (lv_sub hl [0, 1] rfl)
  · rw [if_neg c4] at hF
    refine lv_iconst (v := (0 : Int32)) hx hb dX4_listOf_9 (by decide) ?_
    refine lv_goto (tgt := 31) hx hb dX4_listOf_10 (by decide) ?_
    obtain rfl := Option.some.inj hF
    exact J3 _ _ _ hP hD hS (lv_sub hl [0, 1] rfl)
theorem dX9_mayUse_0 : decode cX9_mayUse 0 = .ok (.iload_n 1, 1) := by decide +kernel
theorem dX9_mayUse_1 : decode cX9_mayUse 1 = .ok (.ifCond .lt 34, 3) := by decide +kernel
theorem dX9_mayUse_4 : decode cX9_mayUse 4 = .ok (.aload_n 0, 1) := by decide +kernel
theorem dX9_mayUse_5 : decode cX9_mayUse 5 = .ok (.getfield 119, 3) := by decide +kernel
theorem dX9_mayUse_8 : decode cX9_mayUse 8 = .ok (.bipush 10, 2) := by decide +kernel
theorem dX9_mayUse_10 : decode cX9_mayUse 10 = .ok (.iaload, 1) := by decide +kernel
theorem dX9_mayUse_11 : decode cX9_mayUse 11 = .ok (.ifCond .eq 20, 3) := by decide +kernel
theorem dX9_mayUse_14 : decode cX9_mayUse 14 = .ok (.aload_n 0, 1) := by decide +kernel
theorem dX9_mayUse_15 : decode cX9_mayUse 15 = .ok (.getfield 24, 3) := by decide +kernel
theorem dX9_mayUse_18 : decode cX9_mayUse 18 = .ok (.bipush 8, 2) := by decide +kernel
theorem dX9_mayUse_20 : decode cX9_mayUse 20 = .ok (.iload_n 1, 1) := by decide +kernel
theorem dX9_mayUse_21 : decode cX9_mayUse 21 = .ok (.iconst 4, 1) := by decide +kernel
theorem dX9_mayUse_22 : decode cX9_mayUse 22 = .ok (.ishr, 1) := by decide +kernel
theorem dX9_mayUse_23 : decode cX9_mayUse 23 = .ok (.imul, 1) := by decide +kernel
theorem dX9_mayUse_24 : decode cX9_mayUse 24 = .ok (.iconst 0, 1) := by decide +kernel
theorem dX9_mayUse_25 : decode cX9_mayUse 25 = .ok (.iadd, 1) := by decide +kernel
theorem dX9_mayUse_26 : decode cX9_mayUse 26 = .ok (.iaload, 1) := by decide +kernel
theorem dX9_mayUse_27 : decode cX9_mayUse 27 = .ok (.iconst 3, 1) := by decide +kernel
theorem dX9_mayUse_28 : decode cX9_mayUse 28 = .ok (.if_icmp .eq 7, 3) := by decide +kernel
theorem dX9_mayUse_31 : decode cX9_mayUse 31 = .ok (.iconst 1, 1) := by decide +kernel
theorem dX9_mayUse_32 : decode cX9_mayUse 32 = .ok (.goto 4, 3) := by decide +kernel
theorem dX9_mayUse_35 : decode cX9_mayUse 35 = .ok (.iconst 0, 1) := by decide +kernel
theorem dX9_mayUse_36 : decode cX9_mayUse 36 = .ok (.ireturn, 1) := by decide +kernel
def FX9_mayUse (G : GG) (M : DD) (a : Nat) (p0 : Int32) : Option (DD × Int32) :=
  bnd (if p0 < ((0 : Int32)) then (some ((0 : Int32))) else
  (dr G 13 ((M.2 a 2)) fun b3 =>
  chk (¬ (((10 : Int32)) < 0 ∨ G.2.2 b3 ≤ ((10 : Int32)).toNatClampNeg)) <|
  ltt (M.1 b3 ((10 : Int32)).toNatClampNeg) fun x4 =>
  bnd (if x4 = ((0 : Int32)) then (some ((1 : Int32))) else
  (ltt ((p0 >>> (((4 : Int32)) &&& 31))) fun x7 =>
  ltt ((((8 : Int32)) * x7)) fun x8 =>
  ltt ((x8 + ((0 : Int32)))) fun x9 =>
  dr G 13 ((M.2 a 6)) fun b10 =>
  chk (¬ (x9 < 0 ∨ G.2.2 b10 ≤ x9.toNatClampNeg)) <|
  ltt (M.1 b10 x9.toNatClampNeg) fun x11 =>
  bnd (if x11 = ((3 : Int32)) then (some ((0 : Int32))) else
  (some ((1 : Int32)))) fun (y12 : Int32) =>
  some (y12))) fun (y5 : Int32) =>
  some (y5))) fun (y1 : Int32) =>
  chk (y1 = 0 ∨ y1 = 1) <|
  some (M, y1)
set_option maxHeartbeats 4000000 in
set_option maxRecDepth 100000 in
theorem kX9_mayUse (l : Launch) (dC : Nat → ClassId) (dI : Nat → Nat → Nat) (ct : CT) (ad : Nat → Nat) (G : GG) (M : DD) (sz : Nat) (a : Nat) (p0 : Int32) (y : DD × Int32) (hc : a < G.1) (hk : G.2.1 a = 9) (hF : FX9_mayUse G M a p0 = some y) : Met l yX9_mayUse wsX9_mayUse ({ frames := 0, cells := 0, slots := 0, locals := 0 }) (va_Pc [.ref (ad a), .int p0] (kB (dC, dI) ct ad G M sz)) (va_Qi (fun (q : Int32) (_ : Unit) => q = y.2) (fun _ t => kE (dC, dI) ct ad G (wA ad G sz) y.1 t) (wA ad G sz)) 0 0 (wA ad G sz) := by
  refine Met.ofW (cc := cX9_mayUse) (maxL := 2) (ret := (some .boolean)) (by decide) rfl ?_
  intro p e s m args below meth c s₁ B hml hv
  obtain ⟨rfl, hsz, hP, hK, hD0⟩ := hv
  have hx := B.exec
  have hb := B.bytes
  have hr := B.returns
  have hts := atoms_spec (ws := wsX9_mayUse) B.pre
  have hown : s.vm.findClass RX9 = some m.cls := findClass_of_methodNamed B.named
  have hlocks := B.notSynchronized
  subst hsz
  have hD := wD_self (sz := s.heap.size) hD0
  generalize hDD : (dC, dI) = D at hP hK ⊢
  generalize hAe : wA ad G s.heap.size = A at hD ⊢
  have hS : va_S A s.heap s.heap [] := va_S.rf
  have hl := lv_entry ([.ref (ad a), .int p0]) (n := 2) (Nat.le_of_ble_eq_true rfl)
  rw [lg_entry_eq]
  generalize (lg_sl ([.ref (ad a), .int p0]) ++ List.replicate (2 - (lg_sl ([.ref (ad a), .int p0])).length) Slot.unset).toArray = ls at hl ⊢
  have hl : lv_has ls 2 [(0, .ref (ad a)), (1, .int p0)] := hl
  unfold FX9_mayUse at hF
  refine lv_iload_n hx hb dX9_mayUse_0 rfl (lv_at hl 1 rfl) ?_
  obtain ⟨y1, hy1, hF⟩ := bnd_some hF
  have J1 : ∀ (H : Heap) (locs : List Loc) (ls : Array Slot), va_P D classes (wld ct ad G M) H → va_D A (wld ct ad G M) → va_S A s.heap H locs → lv_has ls 2 [(0, .ref (ad a)), (1, .int p0)] → W p l e (headSpec wsX9_mayUse ({ frames := 0, cells := 0, slots := 0, locals := 0 })).room s m ([.ref (ad a), .int p0] : List Value).toArray below meth c H locs 0 0 (MQ below (va_Qi (fun (q : Int32) (_ : Unit) => q = y.2) (fun _ t => kE D ct ad G A y.1 t) A) ([.ref (ad a), .int p0] : List Value).toArray s 0 0 A) (F0 m 36 ls [.int y1]) := by
    intro H locs ls hP hD hS hl
    obtain ⟨hz9, hF⟩ := chk_some hF
    obtain rfl := Option.some.inj hF
    exact W.zret (v := y1) (ty := .boolean) hx hb hr (nar_z hz9).1 (fun t ht hW => ⟨⟨_, (), rfl, rfl, ⟨by rw [ht]; exact hP, va_K.moved hW.alike hK, hD⟩⟩, hS.F ht⟩) hS.2.2 dX9_mayUse_36
  clear hF
  have hF := hy1
  clear hy1
  refine lv_if_lt (tgt := 35) hx hb dX9_mayUse_1 (by decide) (fun c2 => ?_) (fun c2 => ?_)
  · rw [if_pos c2] at hF
    refine lv_iconst (v := (0 : Int32)) hx hb dX9_mayUse_35 (by decide) ?_
    obtain rfl := Option.some.inj hF
    exact J1 _ _ _ hP hD hS (lv_sub hl [0, 1] rfl)
  · rw [if_neg c2] at hF
    refine lv_aload_n hx hb dX9_mayUse_4 rfl (lv_at hl 0 rfl) ?_
    refine va_get (D := D) (ci := 9) (v := va_re ad (M.2 a 2)) (C := RX9) (T := TX9) (N := 20) hx hb hts (by decide +kernel) hown hK hP a (wld_o ct ad G M hc hk (by decide)) rfl 2 (by decide) (hts (.fieldLink RX9 119 "VideoSuite$Work" "par" "[I") (by decide +kernel)) (fun _ h9 => h9) rfl dX9_mayUse_5 ?_
    refine lv_bipush (v := (10 : Int32)) hx hb dX9_mayUse_8 (by decide) ?_
    obtain ⟨b3, ho3, hc3, hk3, hF⟩ := dr_some hF
    rw [va_some ho3]
    obtain ⟨hvc, hF⟩ := chk_some hF
    refine va_iald hx hb hK hP b3 1 (wld_i ct ad G M hc3 hk3) rfl hvc dX9_mayUse_10 ?_
    obtain ⟨x4, ex4, hF⟩ := ltt_some hF
    refine lv_topi (fun zx4 ezx4 => ?_)
    obtain rfl : x4 = zx4 := ex4.trans ezx4.symm
    obtain ⟨y5, hy5, hF⟩ := bnd_some hF
    have J5 : ∀ (H : Heap) (locs : List Loc) (ls : Array Slot), va_P D classes (wld ct ad G M) H → va_D A (wld ct ad G M) → va_S A s.heap H locs → lv_has ls 2 [(0, .ref (ad a)), (1, .int p0)] → W p l e (headSpec wsX9_mayUse ({ frames := 0, cells := 0, slots := 0, locals := 0 })).room s m ([.ref (ad a), .int p0] : List Value).toArray below meth c H locs 0 0 (MQ below (va_Qi (fun (q : Int32) (_ : Unit) => q = y.2) (fun _ t => kE D ct ad G A y.1 t) A) ([.ref (ad a), .int p0] : List Value).toArray s 0 0 A) (F0 m 36 ls [.int y5]) := by
      intro H locs ls hP hD hS hl
      obtain rfl := Option.some.inj hF
      exact J1 _ _ _ hP hD hS (lv_sub hl [0, 1] rfl)
    clear hF
    have hF := hy5
    clear hy5
    refine lv_if_eq (tgt := 31) hx hb dX9_mayUse_11 (by decide) (fun c6 => ?_) (fun c6 => ?_)
    · rw [if_pos c6] at hF
      refine lv_iconst (v := (1 : Int32)) hx hb dX9_mayUse_31 (by decide) ?_
      refine lv_goto (tgt := 36) hx hb dX9_mayUse_32 (by decide) ?_
      obtain rfl := Option.some.inj hF
      exact J5 _ _ _ hP hD hS (lv_sub hl [0, 1] rfl)
    · rw [if_neg c6] at hF
      refine lv_aload_n hx hb dX9_mayUse_14 rfl (lv_at hl 0 rfl) ?_
      refine va_get (D := D) (ci := 9) (v := va_re ad (M.2 a 6)) (C := RX9) (T := TX9) (N := 20) hx hb hts (by decide +kernel) hown hK hP a (wld_o ct ad G M hc hk (by decide)) rfl 6 (by decide) (hts (.fieldLink RX9 24 "VideoSuite$Work" "info" "[I") (by decide +kernel)) (fun _ h9 => h9) rfl dX9_mayUse_15 ?_
      refine lv_bipush (v := (8 : Int32)) hx hb dX9_mayUse_18 (by decide) ?_
      refine lv_iload_n hx hb dX9_mayUse_20 rfl (lv_at hl 1 rfl) ?_
      refine lv_iconst (v := (4 : Int32)) hx hb dX9_mayUse_21 (by decide) ?_
      refine lv_ishr hx hb dX9_mayUse_22 ?_
      obtain ⟨x7, ex7, hF⟩ := ltt_some hF
      refine lv_topi (fun zx7 ezx7 => ?_)
      obtain rfl : x7 = zx7 := ex7.trans ezx7.symm
      refine lv_imul hx hb dX9_mayUse_23 ?_
      obtain ⟨x8, ex8, hF⟩ := ltt_some hF
      refine lv_topi (fun zx8 ezx8 => ?_)
      obtain rfl : x8 = zx8 := ex8.trans ezx8.symm
      refine lv_iconst (v := (0 : Int32)) hx hb dX9_mayUse_24 (by decide) ?_
      refine lv_iadd hx hb dX9_mayUse_25 ?_
      obtain ⟨x9, ex9, hF⟩ := ltt_some hF
      refine lv_topi (fun zx9 ezx9 => ?_)
      obtain rfl : x9 = zx9 := ex9.trans ezx9.symm
      obtain ⟨b10, ho10, hc10, hk10, hF⟩ := dr_some hF
      rw [va_some ho10]
      obtain ⟨hvc, hF⟩ := chk_some hF
      refine va_iald hx hb hK hP b10 1 (wld_i ct ad G M hc10 hk10) rfl hvc dX9_mayUse_26 ?_
      obtain ⟨x11, ex11, hF⟩ := ltt_some hF
      refine lv_topi (fun zx11 ezx11 => ?_)
      obtain rfl : x11 = zx11 := ex11.trans ezx11.symm
      refine lv_iconst (v := (3 : Int32)) hx hb dX9_mayUse_27 (by decide) ?_
      obtain ⟨y12, hy12, hF⟩ := bnd_some hF
      have J12 : ∀ (H : Heap) (locs : List Loc) (ls : Array Slot), va_P D classes (wld ct ad G M) H → va_D A (wld ct ad G M) → va_S A s.heap H locs → lv_has ls 2 [(0, .ref (ad a)), (1, .int p0)] → W p l e (headSpec wsX9_mayUse ({ frames := 0, cells := 0, slots := 0, locals := 0 })).room s m ([.ref (ad a), .int p0] : List Value).toArray below meth c H locs 0 0 (MQ below (va_Qi (fun (q : Int32) (_ : Unit) => q = y.2) (fun _ t => kE D ct ad G A y.1 t) A) ([.ref (ad a), .int p0] : List Value).toArray s 0 0 A) (F0 m 36 ls [.int y12]) := by
        intro H locs ls hP hD hS hl
        obtain rfl := Option.some.inj hF
        exact J5 _ _ _ hP hD hS (lv_sub hl [0, 1] rfl)
      clear hF
      have hF := hy12
      clear hy12
      refine lv_icmp_eq (tgt := 35) hx hb dX9_mayUse_28 (by decide) (fun c13 => ?_) (fun c13 => ?_)
      · rw [if_pos c13] at hF
        refine lv_iconst (v := (0 : Int32)) hx hb dX9_mayUse_35 (by decide) ?_
        obtain rfl := Option.some.inj hF
        exact J12 _ _ _ hP hD hS (lv_sub hl [0, 1] rfl)
      · rw [if_neg c13] at hF
        refine lv_iconst (v := (1 : Int32)) hx hb dX9_mayUse_31 (by decide) ?_
        refine lv_goto (tgt := 36) hx hb dX9_mayUse_32 (by decide) ?_
        obtain rfl := Option.some.inj hF
        exact J12 _ _ _ hP hD hS (lv_sub hl [0, 1] rfl)
theorem dX11_clip_0 : decode cX11_clip 0 = .ok (.iload_n 0, 1) := by decide +kernel
theorem dX11_clip_1 : decode cX11_clip 1 = .ok (.ifCond .ge 7, 3) := by decide +kernel
theorem dX11_clip_4 : decode cX11_clip 4 = .ok (.iconst 0, 1) := by decide +kernel
theorem dX11_clip_5 : decode cX11_clip 5 = .ok (.goto 17, 3) := by decide +kernel
theorem dX11_clip_8 : decode cX11_clip 8 = .ok (.iload_n 0, 1) := by decide +kernel
theorem dX11_clip_9 : decode cX11_clip 9 = .ok (.sipush 255, 3) := by decide +kernel
theorem dX11_clip_12 : decode cX11_clip 12 = .ok (.if_icmp .le 9, 3) := by decide +kernel
theorem dX11_clip_15 : decode cX11_clip 15 = .ok (.sipush 255, 3) := by decide +kernel
theorem dX11_clip_18 : decode cX11_clip 18 = .ok (.goto 4, 3) := by decide +kernel
theorem dX11_clip_21 : decode cX11_clip 21 = .ok (.iload_n 0, 1) := by decide +kernel
theorem dX11_clip_22 : decode cX11_clip 22 = .ok (.ireturn, 1) := by decide +kernel
def FX11_clip (G : GG) (M : DD) (p0 : Int32) : Option (DD × Int32) :=
  bnd (if ((0 : Int32)) ≤ p0 then (bnd (if p0 ≤ ((255 : Int32)) then (some (p0)) else
  (some ((255 : Int32)))) fun (y3 : Int32) =>
  some (y3)) else
  (some ((0 : Int32)))) fun (y1 : Int32) =>
  some (M, y1)
set_option maxHeartbeats 4000000 in
set_option maxRecDepth 100000 in
theorem kX11_clip (l : Launch) (dC : Nat → ClassId) (dI : Nat → Nat → Nat) (ct : CT) (ad : Nat → Nat) (G : GG) (M : DD) (sz : Nat) (p0 : Int32) (y : DD × Int32) (hF : FX11_clip G M p0 = some y) : Met l yX11_clip wsX11_clip ({ frames := 0, cells := 0, slots := 0, locals := 0 }) (va_Pc [.int p0] (kB (dC, dI) ct ad G M sz)) (va_Qi (fun (q : Int32) (_ : Unit) => q = y.2) (fun _ t => kE (dC, dI) ct ad G (wA ad G sz) y.1 t) (wA ad G sz)) 0 0 (wA ad G sz) := by
  refine Met.ofW (cc := cX11_clip) (maxL := 1) (ret := (some .int)) (by decide) rfl ?_
  intro p e s m args below meth c s₁ B hml hv
  obtain ⟨rfl, hsz, hP, hK, hD0⟩ := hv
  have hx := B.exec
  have hb := B.bytes
  have hr := B.returns
  have hts := atoms_spec (ws := wsX11_clip) B.pre
  have hown : s.vm.findClass RX11 = some m.cls := findClass_of_methodNamed B.named
  have hlocks := B.notSynchronized
  subst hsz
  have hD := wD_self (sz := s.heap.size) hD0
  generalize hDD : (dC, dI) = D at hP hK ⊢
  generalize hAe : wA ad G s.heap.size = A at hD ⊢
  have hS : va_S A s.heap s.heap [] := va_S.rf
  have hl := lv_entry ([.int p0]) (n := 1) (Nat.le_of_ble_eq_true rfl)
  rw [lg_entry_eq]
  generalize (lg_sl ([.int p0]) ++ List.replicate (1 - (lg_sl ([.int p0])).length) Slot.unset).toArray = ls at hl ⊢
  have hl : lv_has ls 1 [(0, .int p0)] := hl
  unfold FX11_clip at hF
  refine lv_iload_n hx hb dX11_clip_0 rfl (lv_at hl 0 rfl) ?_
  obtain ⟨y1, hy1, hF⟩ := bnd_some hF
  have J1 : ∀ (H : Heap) (locs : List Loc) (ls : Array Slot), va_P D classes (wld ct ad G M) H → va_D A (wld ct ad G M) → va_S A s.heap H locs → lv_has ls 1 [(0, .int p0)] → W p l e (headSpec wsX11_clip ({ frames := 0, cells := 0, slots := 0, locals := 0 })).room s m ([.int p0] : List Value).toArray below meth c H locs 0 0 (MQ below (va_Qi (fun (q : Int32) (_ : Unit) => q = y.2) (fun _ t => kE D ct ad G A y.1 t) A) ([.int p0] : List Value).toArray s 0 0 A) (F0 m 22 ls [.int y1]) := by
    intro H locs ls hP hD hS hl
    obtain rfl := Option.some.inj hF
    exact W.iret (v := y1) hx hb hr (fun t ht hW => ⟨⟨_, (), rfl, rfl, ⟨by rw [ht]; exact hP, va_K.moved hW.alike hK, hD⟩⟩, hS.F ht⟩) hS.2.2 dX11_clip_22
  clear hF
  have hF := hy1
  clear hy1
  refine lv_if_ge (tgt := 8) hx hb dX11_clip_1 (by decide) (fun c2 => ?_) (fun c2 => ?_)
  · rw [if_pos c2] at hF
    refine lv_iload_n hx hb dX11_clip_8 rfl (lv_at hl 0 rfl) ?_
    refine lv_sipush (v := (255 : Int32)) hx hb dX11_clip_9 (by decide) ?_
    obtain ⟨y3, hy3, hF⟩ := bnd_some hF
    have J3 : ∀ (H : Heap) (locs : List Loc) (ls : Array Slot), va_P D classes (wld ct ad G M) H → va_D A (wld ct ad G M) → va_S A s.heap H locs → lv_has ls 1 [(0, .int p0)] → W p l e (headSpec wsX11_clip ({ frames := 0, cells := 0, slots := 0, locals := 0 })).room s m ([.int p0] : List Value).toArray below meth c H locs 0 0 (MQ below (va_Qi (fun (q : Int32) (_ : Unit) => q = y.2) (fun _ t => kE D ct ad G A y.1 t) A) ([.int p0] : List Value).toArray s 0 0 A) (F0 m 22 ls [.int y3]) := by
      intro H locs ls hP hD hS hl
      obtain rfl := Option.some.inj hF
      exact J1 _ _ _ hP hD hS (lv_sub hl [0] rfl)
    clear hF
    have hF := hy3
    clear hy3
    refine lv_icmp_le (tgt := 21) hx hb dX11_clip_12 (by decide) (fun c4 => ?_) (fun c4 => ?_)
    · rw [if_pos c4] at hF
      refine lv_iload_n hx hb dX11_clip_21 rfl (lv_at hl 0 rfl) ?_
      obtain rfl := Option.some.inj hF
      exact J3 _ _ _ hP hD hS (lv_sub hl [0] rfl)
    · rw [if_neg c4] at hF
      refine lv_sipush (v := (255 : Int32)) hx hb dX11_clip_15 (by decide) ?_
      refine lv_goto (tgt := 22) hx hb dX11_clip_18 (by decide) ?_
      obtain rfl := Option.some.inj hF
      exact J3 _ _ _ hP hD hS (lv_sub hl [0] rfl)
  · rw [if_neg c2] at hF
    refine lv_iconst (v := (0 : Int32)) hx hb dX11_clip_4 (by decide) ?_
    refine lv_goto (tgt := 22) hx hb dX11_clip_5 (by decide) ?_
    obtain rfl := Option.some.inj hF
    exact J1 _ _ _ hP hD hS (lv_sub hl [0] rfl)
theorem dX11_clamp_0 : decode cX11_clamp 0 = .ok (.iload_n 2, 1) := by decide +kernel
theorem dX11_clamp_1 : decode cX11_clamp 1 = .ok (.iload_n 0, 1) := by decide +kernel
theorem dX11_clamp_2 : decode cX11_clamp 2 = .ok (.if_icmp .ge 7, 3) := by decide +kernel
theorem dX11_clamp_5 : decode cX11_clamp 5 = .ok (.iload_n 0, 1) := by decide +kernel
theorem dX11_clamp_6 : decode cX11_clamp 6 = .ok (.goto 13, 3) := by decide +kernel
theorem dX11_clamp_9 : decode cX11_clamp 9 = .ok (.iload_n 2, 1) := by decide +kernel
theorem dX11_clamp_10 : decode cX11_clamp 10 = .ok (.iload_n 1, 1) := by decide +kernel
theorem dX11_clamp_11 : decode cX11_clamp 11 = .ok (.if_icmp .le 7, 3) := by decide +kernel
theorem dX11_clamp_14 : decode cX11_clamp 14 = .ok (.iload_n 1, 1) := by decide +kernel
theorem dX11_clamp_15 : decode cX11_clamp 15 = .ok (.goto 4, 3) := by decide +kernel
theorem dX11_clamp_18 : decode cX11_clamp 18 = .ok (.iload_n 2, 1) := by decide +kernel
theorem dX11_clamp_19 : decode cX11_clamp 19 = .ok (.ireturn, 1) := by decide +kernel
def FX11_clamp (G : GG) (M : DD) (p0 : Int32) (p1 : Int32) (p2 : Int32) : Option (DD × Int32) :=
  bnd (if p0 ≤ p2 then (bnd (if p2 ≤ p1 then (some (p2)) else
  (some (p1))) fun (y3 : Int32) =>
  some (y3)) else
  (some (p0))) fun (y1 : Int32) =>
  some (M, y1)
set_option maxHeartbeats 4000000 in
set_option maxRecDepth 100000 in
theorem kX11_clamp (l : Launch) (dC : Nat → ClassId) (dI : Nat → Nat → Nat) (ct : CT) (ad : Nat → Nat) (G : GG) (M : DD) (sz : Nat) (p0 : Int32) (p1 : Int32) (p2 : Int32) (y : DD × Int32) (hF : FX11_clamp G M p0 p1 p2 = some y) : Met l yX11_clamp wsX11_clamp ({ frames := 0, cells := 0, slots := 0, locals := 0 }) (va_Pc [.int p0, .int p1, .int p2] (kB (dC, dI) ct ad G M sz)) (va_Qi (fun (q : Int32) (_ : Unit) => q = y.2) (fun _ t => kE (dC, dI) ct ad G (wA ad G sz) y.1 t) (wA ad G sz)) 0 0 (wA ad G sz) := by
  refine Met.ofW (cc := cX11_clamp) (maxL := 3) (ret := (some .int)) (by decide) rfl ?_
  intro p e s m args below meth c s₁ B hml hv
  obtain ⟨rfl, hsz, hP, hK, hD0⟩ := hv
  have hx := B.exec
  have hb := B.bytes
  have hr := B.returns
  have hts := atoms_spec (ws := wsX11_clamp) B.pre
  have hown : s.vm.findClass RX11 = some m.cls := findClass_of_methodNamed B.named
  have hlocks := B.notSynchronized
  subst hsz
  have hD := wD_self (sz := s.heap.size) hD0
  generalize hDD : (dC, dI) = D at hP hK ⊢
  generalize hAe : wA ad G s.heap.size = A at hD ⊢
  have hS : va_S A s.heap s.heap [] := va_S.rf
  have hl := lv_entry ([.int p0, .int p1, .int p2]) (n := 3) (Nat.le_of_ble_eq_true rfl)
  rw [lg_entry_eq]
  generalize (lg_sl ([.int p0, .int p1, .int p2]) ++ List.replicate (3 - (lg_sl ([.int p0, .int p1, .int p2])).length) Slot.unset).toArray = ls at hl ⊢
  have hl : lv_has ls 3 [(0, .int p0), (1, .int p1), (2, .int p2)] := hl
  unfold FX11_clamp at hF
  refine lv_iload_n hx hb dX11_clamp_0 rfl (lv_at hl 2 rfl) ?_
  refine lv_iload_n hx hb dX11_clamp_1 rfl (lv_at hl 0 rfl) ?_
  obtain ⟨y1, hy1, hF⟩ := bnd_some hF
  have J1 : ∀ (H : Heap) (locs : List Loc) (ls : Array Slot), va_P D classes (wld ct ad G M) H → va_D A (wld ct ad G M) → va_S A s.heap H locs → lv_has ls 3 [(0, .int p0), (1, .int p1), (2, .int p2)] → W p l e (headSpec wsX11_clamp ({ frames := 0, cells := 0, slots := 0, locals := 0 })).room s m ([.int p0, .int p1, .int p2] : List Value).toArray below meth c H locs 0 0 (MQ below (va_Qi (fun (q : Int32) (_ : Unit) => q = y.2) (fun _ t => kE D ct ad G A y.1 t) A) ([.int p0, .int p1, .int p2] : List Value).toArray s 0 0 A) (F0 m 19 ls [.int y1]) := by
    intro H locs ls hP hD hS hl
    obtain rfl := Option.some.inj hF
    exact W.iret (v := y1) hx hb hr (fun t ht hW => ⟨⟨_, (), rfl, rfl, ⟨by rw [ht]; exact hP, va_K.moved hW.alike hK, hD⟩⟩, hS.F ht⟩) hS.2.2 dX11_clamp_19
  clear hF
  have hF := hy1
  clear hy1
  refine lv_icmp_ge (tgt := 9) hx hb dX11_clamp_2 (by decide) (fun c2 => ?_) (fun c2 => ?_)
  · rw [if_pos c2] at hF
    refine lv_iload_n hx hb dX11_clamp_9 rfl (lv_at hl 2 rfl) ?_
    refine lv_iload_n hx hb dX11_clamp_10 rfl (lv_at hl 1 rfl) ?_
    obtain ⟨y3, hy3, hF⟩ := bnd_some hF
    have J3 : ∀ (H : Heap) (locs : List Loc) (ls : Array Slot), va_P D classes (wld ct ad G M) H → va_D A (wld ct ad G M) → va_S A s.heap H locs → lv_has ls 3 [(0, .int p0), (1, .int p1), (2, .int p2)] → W p l e (headSpec wsX11_clamp ({ frames := 0, cells := 0, slots := 0, locals := 0 })).room s m ([.int p0, .int p1, .int p2] : List Value).toArray below meth c H locs 0 0 (MQ below (va_Qi (fun (q : Int32) (_ : Unit) => q = y.2) (fun _ t => kE D ct ad G A y.1 t) A) ([.int p0, .int p1, .int p2] : List Value).toArray s 0 0 A) (F0 m 19 ls [.int y3]) := by
      intro H locs ls hP hD hS hl
      obtain rfl := Option.some.inj hF
      exact J1 _ _ _ hP hD hS (lv_sub hl [0, 1, 2] rfl)
    clear hF
    have hF := hy3
    clear hy3
    refine lv_icmp_le (tgt := 18) hx hb dX11_clamp_11 (by decide) (fun c4 => ?_) (fun c4 => ?_)
    · rw [if_pos c4] at hF
      refine lv_iload_n hx hb dX11_clamp_18 rfl (lv_at hl 2 rfl) ?_
      obtain rfl := Option.some.inj hF
      exact J3 _ _ _ hP hD hS (lv_sub hl [0, 1, 2] rfl)
    · rw [if_neg c4] at hF
      refine lv_iload_n hx hb dX11_clamp_14 rfl (lv_at hl 1 rfl) ?_
      refine lv_goto (tgt := 19) hx hb dX11_clamp_15 (by decide) ?_
      obtain rfl := Option.some.inj hF
      exact J3 _ _ _ hP hD hS (lv_sub hl [0, 1, 2] rfl)
  · rw [if_neg c2] at hF
    refine lv_iload_n hx hb dX11_clamp_5 rfl (lv_at hl 0 rfl) ?_
    refine lv_goto (tgt := 19) hx hb dX11_clamp_6 (by decide) ?_
    obtain rfl := Option.some.inj hF
    exact J1 _ _ _ hP hD hS (lv_sub hl [0, 1, 2] rfl)
theorem dX9_addGroup_0 : decode cX9_addGroup 0 = .ok (.iconst 4, 1) := by decide +kernel
theorem dX9_addGroup_1 : decode cX9_addGroup 1 = .ok (.aload_n 0, 1) := by decide +kernel
theorem dX9_addGroup_2 : decode cX9_addGroup 2 = .ok (.getfield 138, 3) := by decide +kernel
theorem dX9_addGroup_5 : decode cX9_addGroup 5 = .ok (.imul, 1) := by decide +kernel
theorem dX9_addGroup_6 : decode cX9_addGroup 6 = .ok (.istore 5, 2) := by decide +kernel
theorem dX9_addGroup_8 : decode cX9_addGroup 8 = .ok (.aload_n 0, 1) := by decide +kernel
theorem dX9_addGroup_9 : decode cX9_addGroup 9 = .ok (.getfield 45, 3) := by decide +kernel
theorem dX9_addGroup_12 : decode cX9_addGroup 12 = .ok (.iload 5, 2) := by decide +kernel
theorem dX9_addGroup_14 : decode cX9_addGroup 14 = .ok (.iload_n 1, 1) := by decide +kernel
theorem dX9_addGroup_15 : decode cX9_addGroup 15 = .ok (.iastore, 1) := by decide +kernel
theorem dX9_addGroup_16 : decode cX9_addGroup 16 = .ok (.aload_n 0, 1) := by decide +kernel
theorem dX9_addGroup_17 : decode cX9_addGroup 17 = .ok (.getfield 45, 3) := by decide +kernel
theorem dX9_addGroup_20 : decode cX9_addGroup 20 = .ok (.iload 5, 2) := by decide +kernel
theorem dX9_addGroup_22 : decode cX9_addGroup 22 = .ok (.iconst 1, 1) := by decide +kernel
theorem dX9_addGroup_23 : decode cX9_addGroup 23 = .ok (.iadd, 1) := by decide +kernel
theorem dX9_addGroup_24 : decode cX9_addGroup 24 = .ok (.iload_n 2, 1) := by decide +kernel
theorem dX9_addGroup_25 : decode cX9_addGroup 25 = .ok (.iastore, 1) := by decide +kernel
theorem dX9_addGroup_26 : decode cX9_addGroup 26 = .ok (.aload_n 0, 1) := by decide +kernel
theorem dX9_addGroup_27 : decode cX9_addGroup 27 = .ok (.getfield 45, 3) := by decide +kernel
theorem dX9_addGroup_30 : decode cX9_addGroup 30 = .ok (.iload 5, 2) := by decide +kernel
theorem dX9_addGroup_32 : decode cX9_addGroup 32 = .ok (.iconst 2, 1) := by decide +kernel
theorem dX9_addGroup_33 : decode cX9_addGroup 33 = .ok (.iadd, 1) := by decide +kernel
theorem dX9_addGroup_34 : decode cX9_addGroup 34 = .ok (.iload_n 3, 1) := by decide +kernel
theorem dX9_addGroup_35 : decode cX9_addGroup 35 = .ok (.iastore, 1) := by decide +kernel
theorem dX9_addGroup_36 : decode cX9_addGroup 36 = .ok (.aload_n 0, 1) := by decide +kernel
theorem dX9_addGroup_37 : decode cX9_addGroup 37 = .ok (.getfield 45, 3) := by decide +kernel
theorem dX9_addGroup_40 : decode cX9_addGroup 40 = .ok (.iload 5, 2) := by decide +kernel
theorem dX9_addGroup_42 : decode cX9_addGroup 42 = .ok (.iconst 3, 1) := by decide +kernel
theorem dX9_addGroup_43 : decode cX9_addGroup 43 = .ok (.iadd, 1) := by decide +kernel
theorem dX9_addGroup_44 : decode cX9_addGroup 44 = .ok (.iload 4, 2) := by decide +kernel
theorem dX9_addGroup_46 : decode cX9_addGroup 46 = .ok (.iastore, 1) := by decide +kernel
theorem dX9_addGroup_47 : decode cX9_addGroup 47 = .ok (.aload_n 0, 1) := by decide +kernel
theorem dX9_addGroup_48 : decode cX9_addGroup 48 = .ok (.dup, 1) := by decide +kernel
theorem dX9_addGroup_49 : decode cX9_addGroup 49 = .ok (.getfield 138, 3) := by decide +kernel
theorem dX9_addGroup_52 : decode cX9_addGroup 52 = .ok (.iconst 1, 1) := by decide +kernel
theorem dX9_addGroup_53 : decode cX9_addGroup 53 = .ok (.iadd, 1) := by decide +kernel
theorem dX9_addGroup_54 : decode cX9_addGroup 54 = .ok (.putfield 138, 3) := by decide +kernel
theorem dX9_addGroup_57 : decode cX9_addGroup 57 = .ok (.return_, 1) := by decide +kernel
def FX9_addGroup (G : GG) (M : DD) (a : Nat) (p0 : Int32) (p1 : Int32) (p2 : Int32) (p3 : Int32) : Option (DD) :=
  ltt (M.1 a 16) fun x1 =>
  ltt ((((4 : Int32)) * x1)) fun x2 =>
  dr G 13 ((M.2 a 15)) fun b3 =>
  chk (¬ (x2 < 0 ∨ G.2.2 b3 ≤ x2.toNatClampNeg)) <|
  ltt (uI M b3 x2.toNatClampNeg p0) fun M4 =>
  ltt ((x2 + ((1 : Int32)))) fun x5 =>
  dr G 13 ((M4.2 a 15)) fun b6 =>
  chk (¬ (x5 < 0 ∨ G.2.2 b6 ≤ x5.toNatClampNeg)) <|
  ltt (uI M4 b6 x5.toNatClampNeg p1) fun M7 =>
  ltt ((x2 + ((2 : Int32)))) fun x8 =>
  dr G 13 ((M7.2 a 15)) fun b9 =>
  chk (¬ (x8 < 0 ∨ G.2.2 b9 ≤ x8.toNatClampNeg)) <|
  ltt (uI M7 b9 x8.toNatClampNeg p2) fun M10 =>
  ltt ((x2 + ((3 : Int32)))) fun x11 =>
  dr G 13 ((M10.2 a 15)) fun b12 =>
  chk (¬ (x11 < 0 ∨ G.2.2 b12 ≤ x11.toNatClampNeg)) <|
  ltt (uI M10 b12 x11.toNatClampNeg p3) fun M13 =>
  ltt (M13.1 a 16) fun x14 =>
  ltt ((x14 + ((1 : Int32)))) fun x15 =>
  ltt (uI M13 a 16 x15) fun M16 =>
  some M16
set_option maxHeartbeats 4000000 in
set_option maxRecDepth 100000 in
theorem kX9_addGroup (l : Launch) (dC : Nat → ClassId) (dI : Nat → Nat → Nat) (ct : CT) (ad : Nat → Nat) (G : GG) (M : DD) (sz : Nat) (a : Nat) (p0 : Int32) (p1 : Int32) (p2 : Int32) (p3 : Int32) (y : DD) (hc : a < G.1) (hk : G.2.1 a = 9) (hF : FX9_addGroup G M a p0 p1 p2 p3 = some y) : Met l yX9_addGroup wsX9_addGroup ({ frames := 0, cells := 0, slots := 0, locals := 0 }) (va_Pc [.ref (ad a), .int p0, .int p1, .int p2, .int p3] (kB (dC, dI) ct ad G M sz)) (va_Qv (fun (_ : Unit) => True) (fun _ t => kE (dC, dI) ct ad G (wA ad G sz) y t) (wA ad G sz)) 0 0 (wA ad G sz) := by
  refine Met.ofW (cc := cX9_addGroup) (maxL := 6) (ret := none) (by decide) rfl ?_
  intro p e s m args below meth c s₁ B hml hv
  obtain ⟨rfl, hsz, hP, hK, hD0⟩ := hv
  have hx := B.exec
  have hb := B.bytes
  have hr := B.returns
  have hts := atoms_spec (ws := wsX9_addGroup) B.pre
  have hown : s.vm.findClass RX9 = some m.cls := findClass_of_methodNamed B.named
  have hlocks := B.notSynchronized
  subst hsz
  have hD := wD_self (sz := s.heap.size) hD0
  generalize hDD : (dC, dI) = D at hP hK ⊢
  generalize hAe : wA ad G s.heap.size = A at hD ⊢
  have hS : va_S A s.heap s.heap [] := va_S.rf
  have hl := lv_entry ([.ref (ad a), .int p0, .int p1, .int p2, .int p3]) (n := 6) (Nat.le_of_ble_eq_true rfl)
  rw [lg_entry_eq]
  generalize (lg_sl ([.ref (ad a), .int p0, .int p1, .int p2, .int p3]) ++ List.replicate (6 - (lg_sl ([.ref (ad a), .int p0, .int p1, .int p2, .int p3])).length) Slot.unset).toArray = ls at hl ⊢
  have hl : lv_has ls 6 [(0, .ref (ad a)), (1, .int p0), (2, .int p1), (3, .int p2), (4, .int p3)] := hl
  unfold FX9_addGroup at hF
  refine lv_iconst (v := (4 : Int32)) hx hb dX9_addGroup_0 (by decide) ?_
  refine lv_aload_n hx hb dX9_addGroup_1 rfl (lv_at hl 0 rfl) ?_
  refine va_get (D := D) (ci := 9) (v := .int (M.1 a 16)) (C := RX9) (T := TX9) (N := 20) hx hb hts (by decide +kernel) hown hK hP a (wld_o ct ad G M hc hk (by decide)) rfl 16 (by decide) (hts (.fieldLink RX9 138 "VideoSuite$Work" "groups" "I") (by decide +kernel)) (fun _ h9 => h9) rfl dX9_addGroup_2 ?_
  obtain ⟨x1, ex1, hF⟩ := ltt_some hF
  refine lv_topi (fun zx1 ezx1 => ?_)
  obtain rfl : x1 = zx1 := ex1.trans ezx1.symm
  refine lv_imul hx hb dX9_addGroup_5 ?_
  obtain ⟨x2, ex2, hF⟩ := ltt_some hF
  refine lv_topi (fun zx2 ezx2 => ?_)
  obtain rfl : x2 = zx2 := ex2.trans ezx2.symm
  refine lv_istore (lv' := [(5, .int x2), (0, .ref (ad a)), (1, .int p0), (2, .int p1), (3, .int p2), (4, .int p3)]) hx hb dX9_addGroup_6 hl (by decide) rfl (fun ls hl => ?_)
  refine lv_aload_n hx hb dX9_addGroup_8 rfl (lv_at hl 1 rfl) ?_
  refine va_get (D := D) (ci := 9) (v := va_re ad (M.2 a 15)) (C := RX9) (T := TX9) (N := 20) hx hb hts (by decide +kernel) hown hK hP a (wld_o ct ad G M hc hk (by decide)) rfl 15 (by decide) (hts (.fieldLink RX9 45 "VideoSuite$Work" "group" "[I") (by decide +kernel)) (fun _ h9 => h9) rfl dX9_addGroup_9 ?_
  refine lv_iload hx hb dX9_addGroup_12 (lv_at hl 0 rfl) ?_
  refine lv_iload_n hx hb dX9_addGroup_14 rfl (lv_at hl 2 rfl) ?_
  obtain ⟨b3, ho3, hc3, hk3, hF⟩ := dr_some hF
  rw [va_some ho3]
  obtain ⟨hvc, hF⟩ := chk_some hF
  refine va_iast hx hb hK hP hD hS b3 1 (wld_i ct ad G M hc3 hk3) rfl hvc dX9_addGroup_15 (fun H locs hP hD hS => ?_)
  obtain ⟨M4, eM4, hF⟩ := ltt_some hF
  rw [set_i ct ad G M hc3 hk3, ← eM4] at hP hD
  refine lv_aload_n hx hb dX9_addGroup_16 rfl (lv_at hl 1 rfl) ?_
  refine va_get (D := D) (ci := 9) (v := va_re ad (M4.2 a 15)) (C := RX9) (T := TX9) (N := 20) hx hb hts (by decide +kernel) hown hK hP a (wld_o ct ad G M4 hc hk (by decide)) rfl 15 (by decide) (hts (.fieldLink RX9 45 "VideoSuite$Work" "group" "[I") (by decide +kernel)) (fun _ h9 => h9) rfl dX9_addGroup_17 ?_
  refine lv_iload hx hb dX9_addGroup_20 (lv_at hl 0 rfl) ?_
  refine lv_iconst (v := (1 : Int32)) hx hb dX9_addGroup_22 (by decide) ?_
  refine lv_iadd hx hb dX9_addGroup_23 ?_
  obtain ⟨x5, ex5, hF⟩ := ltt_some hF
  refine lv_topi (fun zx5 ezx5 => ?_)
  obtain rfl : x5 = zx5 := ex5.trans ezx5.symm
  refine lv_iload_n hx hb dX9_addGroup_24 rfl (lv_at hl 3 rfl) ?_
  obtain ⟨b6, ho6, hc6, hk6, hF⟩ := dr_some hF
  rw [va_some ho6]
  obtain ⟨hvc, hF⟩ := chk_some hF
  refine va_iast hx hb hK hP hD hS b6 1 (wld_i ct ad G M4 hc6 hk6) rfl hvc dX9_addGroup_25 (fun H locs hP hD hS => ?_)
  obtain ⟨M7, eM7, hF⟩ := ltt_some hF
  rw [set_i ct ad G M4 hc6 hk6, ← eM7] at hP hD
  refine lv_aload_n hx hb dX9_addGroup_26 rfl (lv_at hl 1 rfl) ?_
  refine va_get (D := D) (ci := 9) (v := va_re ad (M7.2 a 15)) (C := RX9) (T := TX9) (N := 20) hx hb hts (by decide +kernel) hown hK hP a (wld_o ct ad G M7 hc hk (by decide)) rfl 15 (by decide) (hts (.fieldLink RX9 45 "VideoSuite$Work" "group" "[I") (by decide +kernel)) (fun _ h9 => h9) rfl dX9_addGroup_27 ?_
  refine lv_iload hx hb dX9_addGroup_30 (lv_at hl 0 rfl) ?_
  refine lv_iconst (v := (2 : Int32)) hx hb dX9_addGroup_32 (by decide) ?_
  refine lv_iadd hx hb dX9_addGroup_33 ?_
  obtain ⟨x8, ex8, hF⟩ := ltt_some hF
  refine lv_topi (fun zx8 ezx8 => ?_)
  obtain rfl : x8 = zx8 := ex8.trans ezx8.symm
  refine lv_iload_n hx hb dX9_addGroup_34 rfl (lv_at hl 4 rfl) ?_
  obtain ⟨b9, ho9, hc9, hk9, hF⟩ := dr_some hF
  rw [va_some ho9]
  obtain ⟨hvc, hF⟩ := chk_some hF
  refine va_iast hx hb hK hP hD hS b9 1 (wld_i ct ad G M7 hc9 hk9) rfl hvc dX9_addGroup_35 (fun H locs hP hD hS => ?_)
  obtain ⟨M10, eM10, hF⟩ := ltt_some hF
  rw [set_i ct ad G M7 hc9 hk9, ← eM10] at hP hD
  refine lv_aload_n hx hb dX9_addGroup_36 rfl (lv_at hl 1 rfl) ?_
  refine va_get (D := D) (ci := 9) (v := va_re ad (M10.2 a 15)) (C := RX9) (T := TX9) (N := 20) hx hb hts (by decide +kernel) hown hK hP a (wld_o ct ad G M10 hc hk (by decide)) rfl 15 (by decide) (hts (.fieldLink RX9 45 "VideoSuite$Work" "group" "[I") (by decide +kernel)) (fun _ h9 => h9) rfl dX9_addGroup_37 ?_
  refine lv_iload hx hb dX9_addGroup_40 (lv_at hl 0 rfl) ?_
  refine lv_iconst (v := (3 : Int32)) hx hb dX9_addGroup_42 (by decide) ?_
  refine lv_iadd hx hb dX9_addGroup_43 ?_
  obtain ⟨x11, ex11, hF⟩ := ltt_some hF
  refine lv_topi (fun zx11 ezx11 => ?_)
  obtain rfl : x11 = zx11 := ex11.trans ezx11.symm
  refine lv_iload hx hb dX9_addGroup_44 (lv_at hl 5 rfl) ?_
  obtain ⟨b12, ho12, hc12, hk12, hF⟩ := dr_some hF
  rw [va_some ho12]
  obtain ⟨hvc, hF⟩ := chk_some hF
  refine va_iast hx hb hK hP hD hS b12 1 (wld_i ct ad G M10 hc12 hk12) rfl hvc dX9_addGroup_46 (fun H locs hP hD hS => ?_)
  obtain ⟨M13, eM13, hF⟩ := ltt_some hF
  rw [set_i ct ad G M10 hc12 hk12, ← eM13] at hP hD
  refine lv_aload_n hx hb dX9_addGroup_47 rfl (lv_at hl 1 rfl) ?_
  refine lv_dup hx hb dX9_addGroup_48 rfl ?_
  refine va_get (D := D) (ci := 9) (v := .int (M13.1 a 16)) (C := RX9) (T := TX9) (N := 20) hx hb hts (by decide +kernel) hown hK hP a (wld_o ct ad G M13 hc hk (by decide)) rfl 16 (by decide) (hts (.fieldLink RX9 138 "VideoSuite$Work" "groups" "I") (by decide +kernel)) (fun _ h9 => h9) rfl dX9_addGroup_49 ?_
  obtain ⟨x14, ex14, hF⟩ := ltt_some hF
  refine lv_topi (fun zx14 ezx14 => ?_)
  obtain rfl : x14 = zx14 := ex14.trans ezx14.symm
  refine lv_iconst (v := (1 : Int32)) hx hb dX9_addGroup_52 (by decide) ?_
  refine lv_iadd hx hb dX9_addGroup_53 ?_
  obtain ⟨x15, ex15, hF⟩ := ltt_some hF
  refine lv_topi (fun zx15 ezx15 => ?_)
  obtain rfl : x15 = zx15 := ex15.trans ezx15.symm
  refine va_put (D := D) (ci := 9) (v := .int x15) (ty := .int) (C := RX9) (T := TX9) (N := 20) hx hb hts (by decide +kernel) tyX9 tyX9_ok nmX9 hown hK hP hD hS a (wld_o ct ad G M13 hc hk (by decide)) rfl 16 (by decide) (hts (.fieldLink RX9 138 "VideoSuite$Work" "groups" "I") (by decide +kernel)) (fun _ h9 => h9) rfl (by decide +kernel) rfl rfl (Nat.le_of_ble_eq_true rfl) dX9_addGroup_54 (fun H locs hP hD hS => ?_)
  obtain ⟨M16, eM16, hF⟩ := ltt_some hF
  rw [set_oI ct ad G M13 hc hk (by decide) (by rfl), ← eM16] at hP hD
  obtain rfl := Option.some.inj hF
  exact W.vret hx hb hr (fun t ht hW => ⟨⟨(), rfl, trivial, ⟨by rw [ht]; exact hP, va_K.moved hW.alike hK, hD⟩⟩, hS.F ht⟩) hS.2.2 dX9_addGroup_57
theorem dX9_modeAt_0 : decode cX9_modeAt 0 = .ok (.iload_n 1, 1) := by decide +kernel
theorem dX9_modeAt_1 : decode cX9_modeAt 1 = .ok (.ifCond .ge 5, 3) := by decide +kernel
theorem dX9_modeAt_4 : decode cX9_modeAt 4 = .ok (.iconst (-1), 1) := by decide +kernel
theorem dX9_modeAt_5 : decode cX9_modeAt 5 = .ok (.ireturn, 1) := by decide +kernel
theorem dX9_modeAt_6 : decode cX9_modeAt 6 = .ok (.aload_n 0, 1) := by decide +kernel
theorem dX9_modeAt_7 : decode cX9_modeAt 7 = .ok (.getfield 24, 3) := by decide +kernel
theorem dX9_modeAt_10 : decode cX9_modeAt 10 = .ok (.bipush 8, 2) := by decide +kernel
theorem dX9_modeAt_12 : decode cX9_modeAt 12 = .ok (.iload_n 1, 1) := by decide +kernel
theorem dX9_modeAt_13 : decode cX9_modeAt 13 = .ok (.iconst 4, 1) := by decide +kernel
theorem dX9_modeAt_14 : decode cX9_modeAt 14 = .ok (.ishr, 1) := by decide +kernel
theorem dX9_modeAt_15 : decode cX9_modeAt 15 = .ok (.imul, 1) := by decide +kernel
theorem dX9_modeAt_16 : decode cX9_modeAt 16 = .ok (.iconst 0, 1) := by decide +kernel
theorem dX9_modeAt_17 : decode cX9_modeAt 17 = .ok (.iadd, 1) := by decide +kernel
theorem dX9_modeAt_18 : decode cX9_modeAt 18 = .ok (.iaload, 1) := by decide +kernel
theorem dX9_modeAt_19 : decode cX9_modeAt 19 = .ok (.istore_n 2, 1) := by decide +kernel
theorem dX9_modeAt_20 : decode cX9_modeAt 20 = .ok (.aload_n 0, 1) := by decide +kernel
theorem dX9_modeAt_21 : decode cX9_modeAt 21 = .ok (.getfield 119, 3) := by decide +kernel
theorem dX9_modeAt_24 : decode cX9_modeAt 24 = .ok (.bipush 10, 2) := by decide +kernel
theorem dX9_modeAt_26 : decode cX9_modeAt 26 = .ok (.iaload, 1) := by decide +kernel
theorem dX9_modeAt_27 : decode cX9_modeAt 27 = .ok (.iconst 1, 1) := by decide +kernel
theorem dX9_modeAt_28 : decode cX9_modeAt 28 = .ok (.if_icmp .ne 10, 3) := by decide +kernel
theorem dX9_modeAt_31 : decode cX9_modeAt 31 = .ok (.iload_n 2, 1) := by decide +kernel
theorem dX9_modeAt_32 : decode cX9_modeAt 32 = .ok (.iconst 3, 1) := by decide +kernel
theorem dX9_modeAt_33 : decode cX9_modeAt 33 = .ok (.if_icmp .ne 5, 3) := by decide +kernel
theorem dX9_modeAt_36 : decode cX9_modeAt 36 = .ok (.iconst (-1), 1) := by decide +kernel
theorem dX9_modeAt_37 : decode cX9_modeAt 37 = .ok (.ireturn, 1) := by decide +kernel
theorem dX9_modeAt_38 : decode cX9_modeAt 38 = .ok (.iload_n 2, 1) := by decide +kernel
theorem dX9_modeAt_39 : decode cX9_modeAt 39 = .ok (.ifCond .ne 12, 3) := by decide +kernel
theorem dX9_modeAt_42 : decode cX9_modeAt 42 = .ok (.aload_n 0, 1) := by decide +kernel
theorem dX9_modeAt_43 : decode cX9_modeAt 43 = .ok (.getfield 27, 3) := by decide +kernel
theorem dX9_modeAt_46 : decode cX9_modeAt 46 = .ok (.iload_n 1, 1) := by decide +kernel
theorem dX9_modeAt_47 : decode cX9_modeAt 47 = .ok (.iaload, 1) := by decide +kernel
theorem dX9_modeAt_48 : decode cX9_modeAt 48 = .ok (.goto 4, 3) := by decide +kernel
theorem dX9_modeAt_51 : decode cX9_modeAt 51 = .ok (.iconst 2, 1) := by decide +kernel
theorem dX9_modeAt_52 : decode cX9_modeAt 52 = .ok (.ireturn, 1) := by decide +kernel
def FX9_modeAt (G : GG) (M : DD) (a : Nat) (p0 : Int32) : Option (DD × Int32) :=
  if ((0 : Int32)) ≤ p0 then (ltt ((p0 >>> (((4 : Int32)) &&& 31))) fun x2 =>
  ltt ((((8 : Int32)) * x2)) fun x3 =>
  ltt ((x3 + ((0 : Int32)))) fun x4 =>
  dr G 13 ((M.2 a 6)) fun b5 =>
  chk (¬ (x4 < 0 ∨ G.2.2 b5 ≤ x4.toNatClampNeg)) <|
  ltt (M.1 b5 x4.toNatClampNeg) fun x6 =>
  dr G 13 ((M.2 a 2)) fun b7 =>
  chk (¬ (((10 : Int32)) < 0 ∨ G.2.2 b7 ≤ ((10 : Int32)).toNatClampNeg)) <|
  ltt (M.1 b7 ((10 : Int32)).toNatClampNeg) fun x8 =>
  if x8 = ((1 : Int32)) then (if x6 = ((3 : Int32)) then (some (M, (-1 : Int32))) else
  (bnd (if x6 = ((0 : Int32)) then (dr G 13 ((M.2 a 7)) fun b17 =>
  chk (¬ (p0 < 0 ∨ G.2.2 b17 ≤ p0.toNatClampNeg)) <|
  ltt (M.1 b17 p0.toNatClampNeg) fun x18 =>
  some (x18)) else
  (some ((2 : Int32)))) fun (y15 : Int32) =>
  some (M, y15))) else
  (bnd (if x6 = ((0 : Int32)) then (dr G 13 ((M.2 a 7)) fun b12 =>
  chk (¬ (p0 < 0 ∨ G.2.2 b12 ≤ p0.toNatClampNeg)) <|
  ltt (M.1 b12 p0.toNatClampNeg) fun x13 =>
  some (x13)) else
  (some ((2 : Int32)))) fun (y10 : Int32) =>
  some (M, y10))) else
  (some (M, (-1 : Int32)))
set_option maxHeartbeats 4000000 in
set_option maxRecDepth 100000 in
theorem kX9_modeAt (l : Launch) (dC : Nat → ClassId) (dI : Nat → Nat → Nat) (ct : CT) (ad : Nat → Nat) (G : GG) (M : DD) (sz : Nat) (a : Nat) (p0 : Int32) (y : DD × Int32) (hc : a < G.1) (hk : G.2.1 a = 9) (hF : FX9_modeAt G M a p0 = some y) : Met l yX9_modeAt wsX9_modeAt ({ frames := 0, cells := 0, slots := 0, locals := 0 }) (va_Pc [.ref (ad a), .int p0] (kB (dC, dI) ct ad G M sz)) (va_Qi (fun (q : Int32) (_ : Unit) => q = y.2) (fun _ t => kE (dC, dI) ct ad G (wA ad G sz) y.1 t) (wA ad G sz)) 0 0 (wA ad G sz) := by
  refine Met.ofW (cc := cX9_modeAt) (maxL := 3) (ret := (some .int)) (by decide) rfl ?_
  intro p e s m args below meth c s₁ B hml hv
  obtain ⟨rfl, hsz, hP, hK, hD0⟩ := hv
  have hx := B.exec
  have hb := B.bytes
  have hr := B.returns
  have hts := atoms_spec (ws := wsX9_modeAt) B.pre
  have hown : s.vm.findClass RX9 = some m.cls := findClass_of_methodNamed B.named
  have hlocks := B.notSynchronized
  subst hsz
  have hD := wD_self (sz := s.heap.size) hD0
  generalize hDD : (dC, dI) = D at hP hK ⊢
  generalize hAe : wA ad G s.heap.size = A at hD ⊢
  have hS : va_S A s.heap s.heap [] := va_S.rf
  have hl := lv_entry ([.ref (ad a), .int p0]) (n := 3) (Nat.le_of_ble_eq_true rfl)
  rw [lg_entry_eq]
  generalize (lg_sl ([.ref (ad a), .int p0]) ++ List.replicate (3 - (lg_sl ([.ref (ad a), .int p0])).length) Slot.unset).toArray = ls at hl ⊢
  have hl : lv_has ls 3 [(0, .ref (ad a)), (1, .int p0)] := hl
  unfold FX9_modeAt at hF
  refine lv_iload_n hx hb dX9_modeAt_0 rfl (lv_at hl 1 rfl) ?_
  refine lv_if_ge (tgt := 6) hx hb dX9_modeAt_1 (by decide) (fun c1 => ?_) (fun c1 => ?_)
  · rw [if_pos c1] at hF
    refine lv_aload_n hx hb dX9_modeAt_6 rfl (lv_at hl 0 rfl) ?_
    refine va_get (D := D) (ci := 9) (v := va_re ad (M.2 a 6)) (C := RX9) (T := TX9) (N := 20) hx hb hts (by decide +kernel) hown hK hP a (wld_o ct ad G M hc hk (by decide)) rfl 6 (by decide) (hts (.fieldLink RX9 24 "VideoSuite$Work" "info" "[I") (by decide +kernel)) (fun _ h9 => h9) rfl dX9_modeAt_7 ?_
    refine lv_bipush (v := (8 : Int32)) hx hb dX9_modeAt_10 (by decide) ?_
    refine lv_iload_n hx hb dX9_modeAt_12 rfl (lv_at hl 1 rfl) ?_
    refine lv_iconst (v := (4 : Int32)) hx hb dX9_modeAt_13 (by decide) ?_
    refine lv_ishr hx hb dX9_modeAt_14 ?_
    obtain ⟨x2, ex2, hF⟩ := ltt_some hF
    refine lv_topi (fun zx2 ezx2 => ?_)
    obtain rfl : x2 = zx2 := ex2.trans ezx2.symm
    refine lv_imul hx hb dX9_modeAt_15 ?_
    obtain ⟨x3, ex3, hF⟩ := ltt_some hF
    refine lv_topi (fun zx3 ezx3 => ?_)
    obtain rfl : x3 = zx3 := ex3.trans ezx3.symm
    refine lv_iconst (v := (0 : Int32)) hx hb dX9_modeAt_16 (by decide) ?_
    refine lv_iadd hx hb dX9_modeAt_17 ?_
    obtain ⟨x4, ex4, hF⟩ := ltt_some hF
    refine lv_topi (fun zx4 ezx4 => ?_)
    obtain rfl : x4 = zx4 := ex4.trans ezx4.symm
    obtain ⟨b5, ho5, hc5, hk5, hF⟩ := dr_some hF
    rw [va_some ho5]
    obtain ⟨hvc, hF⟩ := chk_some hF
    refine va_iald hx hb hK hP b5 1 (wld_i ct ad G M hc5 hk5) rfl hvc dX9_modeAt_18 ?_
    obtain ⟨x6, ex6, hF⟩ := ltt_some hF
    refine lv_topi (fun zx6 ezx6 => ?_)
    obtain rfl : x6 = zx6 := ex6.trans ezx6.symm
    refine lv_istore_n (lv' := [(2, .int x6), (0, .ref (ad a)), (1, .int p0)]) hx hb dX9_modeAt_19 rfl hl (by decide) rfl (fun ls hl => ?_)
    refine lv_aload_n hx hb dX9_modeAt_20 rfl (lv_at hl 1 rfl) ?_
    refine va_get (D := D) (ci := 9) (v := va_re ad (M.2 a 2)) (C := RX9) (T := TX9) (N := 20) hx hb hts (by decide +kernel) hown hK hP a (wld_o ct ad G M hc hk (by decide)) rfl 2 (by decide) (hts (.fieldLink RX9 119 "VideoSuite$Work" "par" "[I") (by decide +kernel)) (fun _ h9 => h9) rfl dX9_modeAt_21 ?_
    refine lv_bipush (v := (10 : Int32)) hx hb dX9_modeAt_24 (by decide) ?_
    obtain ⟨b7, ho7, hc7, hk7, hF⟩ := dr_some hF
    rw [va_some ho7]
    obtain ⟨hvc, hF⟩ := chk_some hF
    refine va_iald hx hb hK hP b7 1 (wld_i ct ad G M hc7 hk7) rfl hvc dX9_modeAt_26 ?_
    obtain ⟨x8, ex8, hF⟩ := ltt_some hF
    refine lv_topi (fun zx8 ezx8 => ?_)
    obtain rfl : x8 = zx8 := ex8.trans ezx8.symm
    refine lv_iconst (v := (1 : Int32)) hx hb dX9_modeAt_27 (by decide) ?_
    refine lv_icmp_ne (tgt := 38) hx hb dX9_modeAt_28 (by decide) (fun c9 => ?_) (fun c9 => ?_)
    · rw [if_neg c9] at hF
      refine lv_iload_n hx hb dX9_modeAt_38 rfl (lv_at hl 0 rfl) ?_
      obtain ⟨y10, hy10, hF⟩ := bnd_some hF
      have J10 : ∀ (H : Heap) (locs : List Loc) (ls : Array Slot), va_P D classes (wld ct ad G M) H → va_D A (wld ct ad G M) → va_S A s.heap H locs → lv_has ls 3 [(2, .int x6), (0, .ref (ad a)), (1, .int p0)] → W p l e (headSpec wsX9_modeAt ({ frames := 0, cells := 0, slots := 0, locals := 0 })).room s m ([.ref (ad a), .int p0] : List Value).toArray below meth c H locs 0 0 (MQ below (va_Qi (fun (q : Int32) (_ : Unit) => q = y.2) (fun _ t => kE D ct ad G A y.1 t) A) ([.ref (ad a), .int p0] : List Value).toArray s 0 0 A) (F0 m 52 ls [.int y10]) := by
        intro H locs ls hP hD hS hl
        obtain rfl := Option.some.inj hF
        exact W.iret (v := y10) hx hb hr (fun t ht hW => ⟨⟨_, (), rfl, rfl, ⟨by rw [ht]; exact hP, va_K.moved hW.alike hK, hD⟩⟩, hS.F ht⟩) hS.2.2 dX9_modeAt_52
      clear hF
      have hF := hy10
      clear hy10
      refine lv_if_ne (tgt := 51) hx hb dX9_modeAt_39 (by decide) (fun c11 => ?_) (fun c11 => ?_)
      · rw [if_neg c11] at hF
        refine lv_iconst (v := (2 : Int32)) hx hb dX9_modeAt_51 (by decide) ?_
        obtain rfl := Option.some.inj hF
        exact J10 _ _ _ hP hD hS (lv_sub hl [0, 1, 2] rfl)
      · rw [if_pos c11] at hF
        refine lv_aload_n hx hb dX9_modeAt_42 rfl (lv_at hl 1 rfl) ?_
        refine va_get (D := D) (ci := 9) (v := va_re ad (M.2 a 7)) (C := RX9) (T := TX9) (N := 20) hx hb hts (by decide +kernel) hown hK hP a (wld_o ct ad G M hc hk (by decide)) rfl 7 (by decide) (hts (.fieldLink RX9 27 "VideoSuite$Work" "mode" "[I") (by decide +kernel)) (fun _ h9 => h9) rfl dX9_modeAt_43 ?_
        refine lv_iload_n hx hb dX9_modeAt_46 rfl (lv_at hl 2 rfl) ?_
        obtain ⟨b12, ho12, hc12, hk12, hF⟩ := dr_some hF
        rw [va_some ho12]
        obtain ⟨hvc, hF⟩ := chk_some hF
        refine va_iald hx hb hK hP b12 1 (wld_i ct ad G M hc12 hk12) rfl hvc dX9_modeAt_47 ?_
        obtain ⟨x13, ex13, hF⟩ := ltt_some hF
        refine lv_topi (fun zx13 ezx13 => ?_)
        obtain rfl : x13 = zx13 := ex13.trans ezx13.symm
        refine lv_goto (tgt := 52) hx hb dX9_modeAt_48 (by decide) ?_
        obtain rfl := Option.some.inj hF
        exact J10 _ _ _ hP hD hS (lv_sub hl [0, 1, 2] rfl)
    · rw [if_pos c9] at hF
      refine lv_iload_n hx hb dX9_modeAt_31 rfl (lv_at hl 0 rfl) ?_
      refine lv_iconst (v := (3 : Int32)) hx hb dX9_modeAt_32 (by decide) ?_
      refine lv_icmp_ne (tgt := 38) hx hb dX9_modeAt_33 (by decide) (fun c14 => ?_) (fun c14 => ?_)
      · rw [if_neg c14] at hF
        refine lv_iload_n hx hb dX9_modeAt_38 rfl (lv_at hl 0 rfl) ?_
        obtain ⟨y15, hy15, hF⟩ := bnd_some hF
        have J15 : ∀ (H : Heap) (locs : List Loc) (ls : Array Slot), va_P D classes (wld ct ad G M) H → va_D A (wld ct ad G M) → va_S A s.heap H locs → lv_has ls 3 [(2, .int x6), (0, .ref (ad a)), (1, .int p0)] → W p l e (headSpec wsX9_modeAt ({ frames := 0, cells := 0, slots := 0, locals := 0 })).room s m ([.ref (ad a), .int p0] : List Value).toArray below meth c H locs 0 0 (MQ below (va_Qi (fun (q : Int32) (_ : Unit) => q = y.2) (fun _ t => kE D ct ad G A y.1 t) A) ([.ref (ad a), .int p0] : List Value).toArray s 0 0 A) (F0 m 52 ls [.int y15]) := by
          intro H locs ls hP hD hS hl
          obtain rfl := Option.some.inj hF
          exact W.iret (v := y15) hx hb hr (fun t ht hW => ⟨⟨_, (), rfl, rfl, ⟨by rw [ht]; exact hP, va_K.moved hW.alike hK, hD⟩⟩, hS.F ht⟩) hS.2.2 dX9_modeAt_52
        clear hF
        have hF := hy15
        clear hy15
        refine lv_if_ne (tgt := 51) hx hb dX9_modeAt_39 (by decide) (fun c16 => ?_) (fun c16 => ?_)
        · rw [if_neg c16] at hF
          refine lv_iconst (v := (2 : Int32)) hx hb dX9_modeAt_51 (by decide) ?_
          obtain rfl := Option.some.inj hF
          exact J15 _ _ _ hP hD hS (lv_sub hl [0, 1, 2] rfl)
        · rw [if_pos c16] at hF
          refine lv_aload_n hx hb dX9_modeAt_42 rfl (lv_at hl 1 rfl) ?_
          refine va_get (D := D) (ci := 9) (v := va_re ad (M.2 a 7)) (C := RX9) (T := TX9) (N := 20) hx hb hts (by decide +kernel) hown hK hP a (wld_o ct ad G M hc hk (by decide)) rfl 7 (by decide) (hts (.fieldLink RX9 27 "VideoSuite$Work" "mode" "[I") (by decide +kernel)) (fun _ h9 => h9) rfl dX9_modeAt_43 ?_
          refine lv_iload_n hx hb dX9_modeAt_46 rfl (lv_at hl 2 rfl) ?_
          obtain ⟨b17, ho17, hc17, hk17, hF⟩ := dr_some hF
          rw [va_some ho17]
          obtain ⟨hvc, hF⟩ := chk_some hF
          refine va_iald hx hb hK hP b17 1 (wld_i ct ad G M hc17 hk17) rfl hvc dX9_modeAt_47 ?_
          obtain ⟨x18, ex18, hF⟩ := ltt_some hF
          refine lv_topi (fun zx18 ezx18 => ?_)
          obtain rfl : x18 = zx18 := ex18.trans ezx18.symm
          refine lv_goto (tgt := 52) hx hb dX9_modeAt_48 (by decide) ?_
          obtain rfl := Option.some.inj hF
          exact J15 _ _ _ hP hD hS (lv_sub hl [0, 1, 2] rfl)
      · rw [if_pos c14] at hF
        refine lv_iconst (v := (-1 : Int32)) hx hb dX9_modeAt_36 (by decide) ?_
        obtain rfl := Option.some.inj hF
        exact W.iret (v := (-1 : Int32)) hx hb hr (fun t ht hW => ⟨⟨_, (), rfl, rfl, ⟨by rw [ht]; exact hP, va_K.moved hW.alike hK, hD⟩⟩, hS.F ht⟩) hS.2.2 dX9_modeAt_37
  · rw [if_neg c1] at hF
    refine lv_iconst (v := (-1 : Int32)) hx hb dX9_modeAt_4 (by decide) ?_
    obtain rfl := Option.some.inj hF
    exact W.iret (v := (-1 : Int32)) hx hb hr (fun t ht hW => ⟨⟨_, (), rfl, rfl, ⟨by rw [ht]; exact hP, va_K.moved hW.alike hK, hD⟩⟩, hS.F ht⟩) hS.2.2 dX9_modeAt_5
theorem dX3_isOwn_0 : decode cX3_isOwn 0 = .ok (.aload_n 0, 1) := by decide +kernel
theorem dX3_isOwn_1 : decode cX3_isOwn 1 = .ok (.getfield 7, 3) := by decide +kernel
theorem dX3_isOwn_4 : decode cX3_isOwn 4 = .ok (.bipush 18, 2) := by decide +kernel
theorem dX3_isOwn_6 : decode cX3_isOwn 6 = .ok (.iaload, 1) := by decide +kernel
theorem dX3_isOwn_7 : decode cX3_isOwn 7 = .ok (.iconst 5, 1) := by decide +kernel
theorem dX3_isOwn_8 : decode cX3_isOwn 8 = .ok (.if_icmp .ne 7, 3) := by decide +kernel
theorem dX3_isOwn_11 : decode cX3_isOwn 11 = .ok (.iconst 1, 1) := by decide +kernel
theorem dX3_isOwn_12 : decode cX3_isOwn 12 = .ok (.goto 4, 3) := by decide +kernel
theorem dX3_isOwn_15 : decode cX3_isOwn 15 = .ok (.iconst 0, 1) := by decide +kernel
theorem dX3_isOwn_16 : decode cX3_isOwn 16 = .ok (.ireturn, 1) := by decide +kernel
def FX3_isOwn (G : GG) (M : DD) (a : Nat)  : Option (DD × Int32) :=
  dr G 13 ((M.2 a 0)) fun b1 =>
  chk (¬ (((18 : Int32)) < 0 ∨ G.2.2 b1 ≤ ((18 : Int32)).toNatClampNeg)) <|
  ltt (M.1 b1 ((18 : Int32)).toNatClampNeg) fun x2 =>
  bnd (if x2 = ((5 : Int32)) then (some ((1 : Int32))) else
  (some ((0 : Int32)))) fun (y3 : Int32) =>
  chk (y3 = 0 ∨ y3 = 1) <|
  some (M, y3)
set_option maxHeartbeats 4000000 in
set_option maxRecDepth 100000 in
theorem kX3_isOwn (l : Launch) (dC : Nat → ClassId) (dI : Nat → Nat → Nat) (ct : CT) (ad : Nat → Nat) (G : GG) (M : DD) (sz : Nat) (a : Nat)  (y : DD × Int32) (hc : a < G.1) (hk : G.2.1 a = 3) (hF : FX3_isOwn G M a  = some y) : Met l yX3_isOwn wsX3_isOwn ({ frames := 0, cells := 0, slots := 0, locals := 0 }) (va_Pc [.ref (ad a)] (kB (dC, dI) ct ad G M sz)) (va_Qi (fun (q : Int32) (_ : Unit) => q = y.2) (fun _ t => kE (dC, dI) ct ad G (wA ad G sz) y.1 t) (wA ad G sz)) 0 0 (wA ad G sz) := by
  refine Met.ofW (cc := cX3_isOwn) (maxL := 1) (ret := (some .boolean)) (by decide) rfl ?_
  intro p e s m args below meth c s₁ B hml hv
  obtain ⟨rfl, hsz, hP, hK, hD0⟩ := hv
  have hx := B.exec
  have hb := B.bytes
  have hr := B.returns
  have hts := atoms_spec (ws := wsX3_isOwn) B.pre
  have hown : s.vm.findClass RX3 = some m.cls := findClass_of_methodNamed B.named
  have hlocks := B.notSynchronized
  subst hsz
  have hD := wD_self (sz := s.heap.size) hD0
  generalize hDD : (dC, dI) = D at hP hK ⊢
  generalize hAe : wA ad G s.heap.size = A at hD ⊢
  have hS : va_S A s.heap s.heap [] := va_S.rf
  have hl := lv_entry ([.ref (ad a)]) (n := 1) (Nat.le_of_ble_eq_true rfl)
  rw [lg_entry_eq]
  generalize (lg_sl ([.ref (ad a)]) ++ List.replicate (1 - (lg_sl ([.ref (ad a)])).length) Slot.unset).toArray = ls at hl ⊢
  have hl : lv_has ls 1 [(0, .ref (ad a))] := hl
  unfold FX3_isOwn at hF
  refine lv_aload_n hx hb dX3_isOwn_0 rfl (lv_at hl 0 rfl) ?_
  refine va_get (D := D) (ci := 3) (v := va_re ad (M.2 a 0)) (C := RX3) (T := TX3) (N := 4) hx hb hts (by decide +kernel) hown hK hP a (wld_o ct ad G M hc hk (by decide)) rfl 0 (by decide) (hts (.fieldLink RX3 7 "VideoSuite$Header" "v" "[I") (by decide +kernel)) (fun _ h9 => h9) rfl dX3_isOwn_1 ?_
  refine lv_bipush (v := (18 : Int32)) hx hb dX3_isOwn_4 (by decide) ?_
  obtain ⟨b1, ho1, hc1, hk1, hF⟩ := dr_some hF
  rw [va_some ho1]
  obtain ⟨hvc, hF⟩ := chk_some hF
  refine va_iald hx hb hK hP b1 1 (wld_i ct ad G M hc1 hk1) rfl hvc dX3_isOwn_6 ?_
  obtain ⟨x2, ex2, hF⟩ := ltt_some hF
  refine lv_topi (fun zx2 ezx2 => ?_)
  obtain rfl : x2 = zx2 := ex2.trans ezx2.symm
  refine lv_iconst (v := (5 : Int32)) hx hb dX3_isOwn_7 (by decide) ?_
  obtain ⟨y3, hy3, hF⟩ := bnd_some hF
  have J3 : ∀ (H : Heap) (locs : List Loc) (ls : Array Slot), va_P D classes (wld ct ad G M) H → va_D A (wld ct ad G M) → va_S A s.heap H locs → lv_has ls 1 [(0, .ref (ad a))] → W p l e (headSpec wsX3_isOwn ({ frames := 0, cells := 0, slots := 0, locals := 0 })).room s m ([.ref (ad a)] : List Value).toArray below meth c H locs 0 0 (MQ below (va_Qi (fun (q : Int32) (_ : Unit) => q = y.2) (fun _ t => kE D ct ad G A y.1 t) A) ([.ref (ad a)] : List Value).toArray s 0 0 A) (F0 m 16 ls [.int y3]) := by
    intro H locs ls hP hD hS hl
    obtain ⟨hz9, hF⟩ := chk_some hF
    obtain rfl := Option.some.inj hF
    exact W.zret (v := y3) (ty := .boolean) hx hb hr (nar_z hz9).1 (fun t ht hW => ⟨⟨_, (), rfl, rfl, ⟨by rw [ht]; exact hP, va_K.moved hW.alike hK, hD⟩⟩, hS.F ht⟩) hS.2.2 dX3_isOwn_16
  clear hF
  have hF := hy3
  clear hy3
  refine lv_icmp_ne (tgt := 15) hx hb dX3_isOwn_8 (by decide) (fun c4 => ?_) (fun c4 => ?_)
  · rw [if_neg c4] at hF
    refine lv_iconst (v := (0 : Int32)) hx hb dX3_isOwn_15 (by decide) ?_
    obtain rfl := Option.some.inj hF
    exact J3 _ _ _ hP hD hS (lv_sub hl [0] rfl)
  · rw [if_pos c4] at hF
    refine lv_iconst (v := (1 : Int32)) hx hb dX3_isOwn_11 (by decide) ?_
    refine lv_goto (tgt := 16) hx hb dX3_isOwn_12 (by decide) ?_
    obtain rfl := Option.some.inj hF
    exact J3 _ _ _ hP hD hS (lv_sub hl [0] rfl)
