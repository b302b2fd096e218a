theorem dX3_copyFrom_0 : decode cX3_copyFrom 0 = .ok (.aload_n 1, 1) := by decide +kernel
theorem dX3_copyFrom_1 : decode cX3_copyFrom 1 = .ok (.getfield 7, 3) := by decide +kernel
theorem dX3_copyFrom_4 : decode cX3_copyFrom 4 = .ok (.iconst 0, 1) := by decide +kernel
theorem dX3_copyFrom_5 : decode cX3_copyFrom 5 = .ok (.aload_n 0, 1) := by decide +kernel
theorem dX3_copyFrom_6 : decode cX3_copyFrom 6 = .ok (.getfield 7, 3) := by decide +kernel
theorem dX3_copyFrom_9 : decode cX3_copyFrom 9 = .ok (.iconst 0, 1) := by decide +kernel
theorem dX3_copyFrom_10 : decode cX3_copyFrom 10 = .ok (.aload_n 0, 1) := by decide +kernel
theorem dX3_copyFrom_11 : decode cX3_copyFrom 11 = .ok (.getfield 7, 3) := by decide +kernel
theorem dX3_copyFrom_14 : decode cX3_copyFrom 14 = .ok (.arraylength, 1) := by decide +kernel
theorem dX3_copyFrom_15 : decode cX3_copyFrom 15 = .ok (.invokestatic 22, 3) := by decide +kernel
theorem dX3_copyFrom_18 : decode cX3_copyFrom 18 = .ok (.aload_n 1, 1) := by decide +kernel
theorem dX3_copyFrom_19 : decode cX3_copyFrom 19 = .ok (.getfield 16, 3) := by decide +kernel
theorem dX3_copyFrom_22 : decode cX3_copyFrom 22 = .ok (.iconst 0, 1) := by decide +kernel
theorem dX3_copyFrom_23 : decode cX3_copyFrom 23 = .ok (.aload_n 0, 1) := by decide +kernel
theorem dX3_copyFrom_24 : decode cX3_copyFrom 24 = .ok (.getfield 16, 3) := by decide +kernel
theorem dX3_copyFrom_27 : decode cX3_copyFrom 27 = .ok (.iconst 0, 1) := by decide +kernel
theorem dX3_copyFrom_28 : decode cX3_copyFrom 28 = .ok (.aload_n 0, 1) := by decide +kernel
theorem dX3_copyFrom_29 : decode cX3_copyFrom 29 = .ok (.getfield 16, 3) := by decide +kernel
theorem dX3_copyFrom_32 : decode cX3_copyFrom 32 = .ok (.arraylength, 1) := by decide +kernel
theorem dX3_copyFrom_33 : decode cX3_copyFrom 33 = .ok (.invokestatic 22, 3) := by decide +kernel
theorem dX3_copyFrom_36 : decode cX3_copyFrom 36 = .ok (.return_, 1) := by decide +kernel
def FX3_copyFrom (G : GG) (M : DD) (a : Nat) (p0 : Option Nat) : Option (DD) :=
  dr G 3 p0 fun b1 =>
  dr G 13 ((M.2 a 0)) fun b2 =>
  ltt (Int32.ofNat (G.2.2 b2)) fun x3 =>
  dr G 13 ((M.2 b1 0)) fun b4 =>
  chk (¬ ((0 : Int32)) < 0 ∧ ¬ ((0 : Int32)) < 0 ∧ ¬ x3 < 0 ∧ ((0 : Int32)).toNatClampNeg + x3.toNatClampNeg ≤ G.2.2 b4 ∧ ((0 : Int32)).toNatClampNeg + x3.toNatClampNeg ≤ G.2.2 b2) <|
  ltt (rI M b2 (va_cpy (M.1 b4) (M.1 b2) ((0 : Int32)).toNatClampNeg ((0 : Int32)).toNatClampNeg x3.toNatClampNeg)) fun M5 =>
  dr G 13 ((M5.2 a 2)) fun b6 =>
  ltt (Int32.ofNat (G.2.2 b6)) fun x7 =>
  dr G 13 ((M5.2 b1 2)) fun b8 =>
  chk (¬ ((0 : Int32)) < 0 ∧ ¬ ((0 : Int32)) < 0 ∧ ¬ x7 < 0 ∧ ((0 : Int32)).toNatClampNeg + x7.toNatClampNeg ≤ G.2.2 b8 ∧ ((0 : Int32)).toNatClampNeg + x7.toNatClampNeg ≤ G.2.2 b6) <|
  ltt (rI M5 b6 (va_cpy (M5.1 b8) (M5.1 b6) ((0 : Int32)).toNatClampNeg ((0 : Int32)).toNatClampNeg x7.toNatClampNeg)) fun M9 =>
  some M9
set_option maxHeartbeats 4000000 in
set_option maxRecDepth 100000 in
theorem kX3_copyFrom (l : Launch) (D : va_G) (ct : CT) (ad : Nat → Nat) (Z : Nat → Nat) (G : GG) (M : DD) (sz : Nat) (a : Nat) (p0 : Option Nat) (y : DD) (hc : a < G.1) (hk : G.2.1 a = 3) (hF : FX3_copyFrom G M a p0 = some y) : Met l yX3_copyFrom wsX3_copyFrom ({ frames := 1, cells := 0, slots := 0, locals := 80 }) (va_Pc [.ref (ad a), va_re ad p0] (kB D ct ad Z G M sz)) (va_Qv (fun (_ : Unit) => True) (fun _ t => kE D ct ad G (wA ad G sz) y t) (wA ad G sz)) 0 0 (wA ad G sz) := by
  refine Met.ofW (cc := cX3_copyFrom) (maxL := 2) (ret := none) (by decide) rfl ?_
  intro p e s m args below meth c s₁ B hml hv
  obtain ⟨rfl, hsz, hP, hK, hD0, hZ, hN⟩ := hv
  have hx := B.exec
  have hb := B.bytes
  have hr := B.returns
  have hts := atoms_spec (ws := wsX3_copyFrom) B.pre
  have hown : s.vm.findClass RX3 = some m.cls := findClass_of_methodNamed B.named
  have hlocks := B.notSynchronized
  subst hsz
  have hD := wD_self (sz := s.heap.size) hD0
  have hA9 : ∀ q, s.heap.size ≤ q → wA ad G s.heap.size q := fun q h => Or.inr h
  generalize hAe : wA ad G s.heap.size = A at hD hA9 hZ ⊢
  have hS : va_S A s.heap s.heap [] := va_S.rf
  have hl := lv_entry ([.ref (ad a), va_re ad p0]) (n := 2) (by cases p0 <;> exact Nat.le_of_ble_eq_true rfl)
  rw [lg_entry_eq]
  generalize (lg_sl ([.ref (ad a), va_re ad p0]) ++ List.replicate (2 - (lg_sl ([.ref (ad a), va_re ad p0])).length) Slot.unset).toArray = ls at hl ⊢
  have hl : lv_has ls 2 [(0, .ref (ad a)), (1, va_re ad p0)] := by have e9 : lv_args 0 [.ref (ad a), va_re ad p0] = [(0, .ref (ad a)), (1, va_re ad p0)] := (by cases p0 <;> rfl); rw [e9] at hl; exact hl
  unfold FX3_copyFrom at hF
  refine lv_aloadq_n hx hb dX3_copyFrom_0 rfl (lv_at hl 1 rfl) ?_
  obtain ⟨b1, ho1, hc1, hk1, hF⟩ := dr_some hF
  refine W_st (st' := [.ref (ad b1)]) (by rw [va_some ho1]) ?_
  refine va_get (D := D) (ci := 3) (v := va_re ad (M.2 b1 0)) (C := RX3) (T := TX3) (N := 4) hx hb hts (by decide +kernel) hown hK hP b1 (wld_o ct ad G M hc1 hk1 (by decide)) rfl 0 (by decide) (hts (.fieldLink RX3 7 "VideoSuite$Header" "v" "[I") (by decide +kernel)) (fun _ h9 => h9) rfl dX3_copyFrom_1 ?_
  refine lv_iconst (v := (0 : Int32)) hx hb dX3_copyFrom_4 (by decide) ?_
  refine lv_aload_n hx hb dX3_copyFrom_5 rfl (lv_at hl 0 rfl) ?_
  refine va_get (D := D) (ci := 3) (v := va_re ad (M.2 a 0)) (C := RX3) (T := TX3) (N := 4) hx hb hts (by decide +kernel) hown hK hP a (wld_o ct ad G M hc hk (by decide)) rfl 0 (by decide) (hts (.fieldLink RX3 7 "VideoSuite$Header" "v" "[I") (by decide +kernel)) (fun _ h9 => h9) rfl dX3_copyFrom_6 ?_
  refine lv_iconst (v := (0 : Int32)) hx hb dX3_copyFrom_9 (by decide) ?_
  refine lv_aload_n hx hb dX3_copyFrom_10 rfl (lv_at hl 0 rfl) ?_
  refine va_get (D := D) (ci := 3) (v := va_re ad (M.2 a 0)) (C := RX3) (T := TX3) (N := 4) hx hb hts (by decide +kernel) hown hK hP a (wld_o ct ad G M hc hk (by decide)) rfl 0 (by decide) (hts (.fieldLink RX3 7 "VideoSuite$Header" "v" "[I") (by decide +kernel)) (fun _ h9 => h9) rfl dX3_copyFrom_11 ?_
  obtain ⟨b2, ho2, hc2, hk2, hF⟩ := dr_some hF
  refine W_st (st' := [.ref (ad b2), .int (0 : Int32), .ref (ad b2), .int (0 : Int32), va_re ad (M.2 b1 0)]) (by rw [va_some ho2]) ?_
  refine va_alen (v := Int32.ofNat (G.2.2 b2)) hx hb hK hP b2 1 (wld_i ct ad G M hc2 hk2) rfl rfl dX3_copyFrom_14 ?_
  obtain ⟨x3, ex3, hF⟩ := ltt_some hF
  refine lv_topi (fun zx3 ezx3 => ?_)
  obtain rfl : x3 = zx3 := ex3.trans ezx3.symm
  obtain ⟨b4, ho4, hc4, hk4, hF⟩ := dr_some hF
  refine W_st (st' := [.int x3, .int (0 : Int32), .ref (ad b2), .int (0 : Int32), .ref (ad b4)]) (by rw [va_some ho4]) ?_
  obtain ⟨hv9, hF⟩ := chk_some hF
  refine va_copyi (ty := .int) hx hb (hml.trans hl.1.symm) hown (hts (.methodLink RX3 22 arraycopyName) (by decide +kernel)) (hts (.native arraycopyName) (by decide +kernel)) (hts (.static arraycopyName) (by decide +kernel)) (hts (.initialized "java/lang/System") (by decide +kernel)) hK hP hD hS b4 b2 1 1 (wld_i ct ad G M hc4 hk4) (wld_i ct ad G M hc2 hk2) rfl rfl rfl hv9.1 hv9.2.1 hv9.2.2.1 hv9.2.2.2.1 hv9.2.2.2.2 (fun _ _ => rfl) (Nat.le_of_ble_eq_true rfl) (by decide +kernel) dX3_copyFrom_15 (fun H locs hP hD hS => ?_)
  obtain ⟨M5, eM5, hF⟩ := ltt_some hF
  rw [set_ri ct ad G M hc2 hk2, ← eM5] at hP hD
  refine lv_aloadq_n hx hb dX3_copyFrom_18 rfl (lv_at hl 1 rfl) ?_
  refine W_st (st' := [.ref (ad b1)]) (by rw [va_some ho1]) ?_
  refine va_get (D := D) (ci := 3) (v := va_re ad (M5.2 b1 2)) (C := RX3) (T := TX3) (N := 4) hx hb hts (by decide +kernel) hown hK hP b1 (wld_o ct ad G M5 hc1 hk1 (by decide)) rfl 2 (by decide) (hts (.fieldLink RX3 16 "VideoSuite$Header" "op" "[I") (by decide +kernel)) (fun _ h9 => h9) rfl dX3_copyFrom_19 ?_
  refine lv_iconst (v := (0 : Int32)) hx hb dX3_copyFrom_22 (by decide) ?_
  refine lv_aload_n hx hb dX3_copyFrom_23 rfl (lv_at hl 0 rfl) ?_
  refine va_get (D := D) (ci := 3) (v := va_re ad (M5.2 a 2)) (C := RX3) (T := TX3) (N := 4) hx hb hts (by decide +kernel) hown hK hP a (wld_o ct ad G M5 hc hk (by decide)) rfl 2 (by decide) (hts (.fieldLink RX3 16 "VideoSuite$Header" "op" "[I") (by decide +kernel)) (fun _ h9 => h9) rfl dX3_copyFrom_24 ?_
  refine lv_iconst (v := (0 : Int32)) hx hb dX3_copyFrom_27 (by decide) ?_
  refine lv_aload_n hx hb dX3_copyFrom_28 rfl (lv_at hl 0 rfl) ?_
  refine va_get (D := D) (ci := 3) (v := va_re ad (M5.2 a 2)) (C := RX3) (T := TX3) (N := 4) hx hb hts (by decide +kernel) hown hK hP a (wld_o ct ad G M5 hc hk (by decide)) rfl 2 (by decide) (hts (.fieldLink RX3 16 "VideoSuite$Header" "op" "[I") (by decide +kernel)) (fun _ h9 => h9) rfl dX3_copyFrom_29 ?_
  obtain ⟨b6, ho6, hc6, hk6, hF⟩ := dr_some hF
  refine W_st (st' := [.ref (ad b6), .int (0 : Int32), .ref (ad b6), .int (0 : Int32), va_re ad (M5.2 b1 2)]) (by rw [va_some ho6]) ?_
  refine va_alen (v := Int32.ofNat (G.2.2 b6)) hx hb hK hP b6 1 (wld_i ct ad G M5 hc6 hk6) rfl rfl dX3_copyFrom_32 ?_
  obtain ⟨x7, ex7, hF⟩ := ltt_some hF
  refine lv_topi (fun zx7 ezx7 => ?_)
  obtain rfl : x7 = zx7 := ex7.trans ezx7.symm
  obtain ⟨b8, ho8, hc8, hk8, hF⟩ := dr_some hF
  refine W_st (st' := [.int x7, .int (0 : Int32), .ref (ad b6), .int (0 : Int32), .ref (ad b8)]) (by rw [va_some ho8]) ?_
  obtain ⟨hv9, hF⟩ := chk_some hF
  refine va_copyi (ty := .int) hx hb (hml.trans hl.1.symm) hown (hts (.methodLink RX3 22 arraycopyName) (by decide +kernel)) (hts (.native arraycopyName) (by decide +kernel)) (hts (.static arraycopyName) (by decide +kernel)) (hts (.initialized "java/lang/System") (by decide +kernel)) hK hP hD hS b8 b6 1 1 (wld_i ct ad G M5 hc8 hk8) (wld_i ct ad G M5 hc6 hk6) rfl rfl rfl hv9.1 hv9.2.1 hv9.2.2.1 hv9.2.2.2.1 hv9.2.2.2.2 (fun _ _ => rfl) (Nat.le_of_ble_eq_true rfl) (by decide +kernel) dX3_copyFrom_33 (fun H locs hP hD hS => ?_)
  obtain ⟨M9, eM9, hF⟩ := ltt_some hF
  rw [set_ri ct ad G M5 hc6 hk6, ← eM9] at hP hD
  obtain rfl := Option.some.inj hF
  exact W.vret hx hb hr (fun t ht hW => ⟨⟨(), rfl, trivial, ⟨by rw [ht]; exact hP, va_K.moved hW.alike hK, hD⟩⟩, hS.F ht⟩) hS.2.2 dX3_copyFrom_36
theorem dX3_isOwn_0 : decode cX3_isOwn 0 = .ok (.aload_n 0, 1) := by decide +kernel
theorem dX3_isOwn_1 : decode cX3_isOwn 1 = .ok (.getfield 7, 3) := by decide +kernel
theorem dX3_isOwn_4 : decode cX3_isOwn 4 = .ok (.bipush 18, 2) := by decide +kernel
theorem dX3_isOwn_6 : decode cX3_isOwn 6 = .ok (.iaload, 1) := by decide +kernel
theorem dX3_isOwn_7 : decode cX3_isOwn 7 = .ok (.iconst 5, 1) := by decide +kernel
theorem dX3_isOwn_8 : decode cX3_isOwn 8 = .ok (.if_icmp .ne 7, 3) := by decide +kernel
theorem dX3_isOwn_11 : decode cX3_isOwn 11 = .ok (.iconst 1, 1) := by decide +kernel
theorem dX3_isOwn_12 : decode cX3_isOwn 12 = .ok (.goto 4, 3) := by decide +kernel
theorem dX3_isOwn_15 : decode cX3_isOwn 15 = .ok (.iconst 0, 1) := by decide +kernel
theorem dX3_isOwn_16 : decode cX3_isOwn 16 = .ok (.ireturn, 1) := by decide +kernel
def FX3_isOwn (G : GG) (M : DD) (a : Nat)  : Option (DD × Int32) :=
  dr G 13 ((M.2 a 0)) fun b1 =>
  chk (¬ (((18 : Int32)) < 0 ∨ G.2.2 b1 ≤ ((18 : Int32)).toNatClampNeg)) <|
  ltt (M.1 b1 ((18 : Int32)).toNatClampNeg) fun x2 =>
  bnd (if x2 = ((5 : Int32)) then (some ((1 : Int32))) else
  (some ((0 : Int32)))) fun (y3 : Int32) =>
  chk (y3 = 0 ∨ y3 = 1) <|
  some (M, y3)
set_option maxHeartbeats 4000000 in
set_option maxRecDepth 100000 in
theorem kX3_isOwn (l : Launch) (D : va_G) (ct : CT) (ad : Nat → Nat) (Z : Nat → Nat) (G : GG) (M : DD) (sz : Nat) (a : Nat)  (y : DD × Int32) (hc : a < G.1) (hk : G.2.1 a = 3) (hF : FX3_isOwn G M a  = some y) : Met l yX3_isOwn wsX3_isOwn ({ frames := 0, cells := 0, slots := 0, locals := 0 }) (va_Pc [.ref (ad a)] (kB D ct ad Z G M sz)) (va_Qi (fun (q : Int32) (_ : Unit) => q = y.2) (fun _ t => kE D ct ad G (wA ad G sz) y.1 t) (wA ad G sz)) 0 0 (wA ad G sz) := by
  refine Met.ofW (cc := cX3_isOwn) (maxL := 1) (ret := (some .boolean)) (by decide) rfl ?_
  intro p e s m args below meth c s₁ B hml hv
  obtain ⟨rfl, hsz, hP, hK, hD0, hZ, hN⟩ := hv
  have hx := B.exec
  have hb := B.bytes
  have hr := B.returns
  have hts := atoms_spec (ws := wsX3_isOwn) B.pre
  have hown : s.vm.findClass RX3 = some m.cls := findClass_of_methodNamed B.named
  have hlocks := B.notSynchronized
  subst hsz
  have hD := wD_self (sz := s.heap.size) hD0
  have hA9 : ∀ q, s.heap.size ≤ q → wA ad G s.heap.size q := fun q h => Or.inr h
  generalize hAe : wA ad G s.heap.size = A at hD hA9 hZ ⊢
  have hS : va_S A s.heap s.heap [] := va_S.rf
  have hl := lv_entry ([.ref (ad a)]) (n := 1) (Nat.le_of_ble_eq_true rfl)
  rw [lg_entry_eq]
  generalize (lg_sl ([.ref (ad a)]) ++ List.replicate (1 - (lg_sl ([.ref (ad a)])).length) Slot.unset).toArray = ls at hl ⊢
  have hl : lv_has ls 1 [(0, .ref (ad a))] := hl
  unfold FX3_isOwn at hF
  refine lv_aload_n hx hb dX3_isOwn_0 rfl (lv_at hl 0 rfl) ?_
  refine va_get (D := D) (ci := 3) (v := va_re ad (M.2 a 0)) (C := RX3) (T := TX3) (N := 4) hx hb hts (by decide +kernel) hown hK hP a (wld_o ct ad G M hc hk (by decide)) rfl 0 (by decide) (hts (.fieldLink RX3 7 "VideoSuite$Header" "v" "[I") (by decide +kernel)) (fun _ h9 => h9) rfl dX3_isOwn_1 ?_
  refine lv_bipush (v := (18 : Int32)) hx hb dX3_isOwn_4 (by decide) ?_
  obtain ⟨b1, ho1, hc1, hk1, hF⟩ := dr_some hF
  refine W_st (st' := [.int (18 : Int32), .ref (ad b1)]) (by rw [va_some ho1]) ?_
  obtain ⟨hvc, hF⟩ := chk_some hF
  refine va_iald hx hb hK hP b1 1 (wld_i ct ad G M hc1 hk1) rfl hvc dX3_isOwn_6 ?_
  obtain ⟨x2, ex2, hF⟩ := ltt_some hF
  refine lv_topi (fun zx2 ezx2 => ?_)
  obtain rfl : x2 = zx2 := ex2.trans ezx2.symm
  refine lv_iconst (v := (5 : Int32)) hx hb dX3_isOwn_7 (by decide) ?_
  obtain ⟨y3, hy3, hF⟩ := bnd_some hF
  have J3 : ∀ (H : Heap) (locs : List Loc) (ls : Array Slot), va_P D classes (wld ct ad G M) H → va_D A (wld ct ad G M) → va_S A s.heap H locs → lv_has ls 1 [(0, .ref (ad a))] → W p l e (headSpec wsX3_isOwn ({ frames := 0, cells := 0, slots := 0, locals := 0 })).room s m ([.ref (ad a)] : List Value).toArray below meth c H locs 0 0 (MQ below (va_Qi (fun (q : Int32) (_ : Unit) => q = y.2) (fun _ t => kE D ct ad G A y.1 t) A) ([.ref (ad a)] : List Value).toArray s 0 0 A) (F0 m 16 ls [.int y3]) := by
    intro H locs ls hP hD hS hl
    obtain ⟨hz9, hF⟩ := chk_some hF
    obtain rfl := Option.some.inj hF
    exact W.zret (v := y3) (ty := .boolean) hx hb hr (nar_z hz9).1 (fun t ht hW => ⟨⟨_, (), rfl, rfl, ⟨by rw [ht]; exact hP, va_K.moved hW.alike hK, hD⟩⟩, hS.F ht⟩) hS.2.2 dX3_isOwn_16
  clear hF
  have hF := hy3
  clear hy3
  refine lv_icmp_ne (tgt := 15) hx hb dX3_isOwn_8 (by decide) (fun c4 => ?_) (fun c4 => ?_)
  · rw [if_neg c4] at hF
    refine lv_iconst (v := (0 : Int32)) hx hb dX3_isOwn_15 (by decide) ?_
    obtain rfl := Option.some.inj hF
    exact J3 _ _ _ hP hD hS (lv_sub hl [0] rfl)
  · rw [if_pos c4] at hF
    refine lv_iconst (v := (1 : Int32)) hx hb dX3_isOwn_11 (by decide) ?_
    refine lv_goto (tgt := 16) hx hb dX3_isOwn_12 (by decide) ?_
    obtain rfl := Option.some.inj hF
    exact J3 _ _ _ hP hD hS (lv_sub hl [0] rfl)
theorem dX3_weightAt_0 : decode cX3_weightAt 0 = .ok (.iconst 2, 1) := by decide +kernel
theorem dX3_weightAt_1 : decode cX3_weightAt 1 = .ok (.iconst 3, 1) := by decide +kernel
theorem dX3_weightAt_2 : decode cX3_weightAt 2 = .ok (.bipush 8, 2) := by decide +kernel
theorem dX3_weightAt_4 : decode cX3_weightAt 4 = .ok (.iload_n 0, 1) := by decide +kernel
theorem dX3_weightAt_5 : decode cX3_weightAt 5 = .ok (.imul, 1) := by decide +kernel
theorem dX3_weightAt_6 : decode cX3_weightAt 6 = .ok (.iload_n 1, 1) := by decide +kernel
theorem dX3_weightAt_7 : decode cX3_weightAt 7 = .ok (.iadd, 1) := by decide +kernel
theorem dX3_weightAt_8 : decode cX3_weightAt 8 = .ok (.imul, 1) := by decide +kernel
theorem dX3_weightAt_9 : decode cX3_weightAt 9 = .ok (.iload_n 2, 1) := by decide +kernel
theorem dX3_weightAt_10 : decode cX3_weightAt 10 = .ok (.iadd, 1) := by decide +kernel
theorem dX3_weightAt_11 : decode cX3_weightAt 11 = .ok (.imul, 1) := by decide +kernel
theorem dX3_weightAt_12 : decode cX3_weightAt 12 = .ok (.ireturn, 1) := by decide +kernel
def FX3_weightAt (G : GG) (M : DD) (p0 : Int32) (p1 : Int32) (p2 : Int32) : Option (DD × Int32) :=
  ltt ((((8 : Int32)) * p0)) fun x1 =>
  ltt ((x1 + p1)) fun x2 =>
  ltt ((((3 : Int32)) * x2)) fun x3 =>
  ltt ((x3 + p2)) fun x4 =>
  ltt ((((2 : Int32)) * x4)) fun x5 =>
  some (M, x5)
set_option maxHeartbeats 4000000 in
set_option maxRecDepth 100000 in
theorem kX3_weightAt (l : Launch) (D : va_G) (ct : CT) (ad : Nat → Nat) (Z : Nat → Nat) (G : GG) (M : DD) (sz : Nat) (p0 : Int32) (p1 : Int32) (p2 : Int32) (y : DD × Int32) (hF : FX3_weightAt G M p0 p1 p2 = some y) : Met l yX3_weightAt wsX3_weightAt ({ frames := 0, cells := 0, slots := 0, locals := 0 }) (va_Pc [.int p0, .int p1, .int p2] (kB D ct ad Z G M sz)) (va_Qi (fun (q : Int32) (_ : Unit) => q = y.2) (fun _ t => kE D ct ad G (wA ad G sz) y.1 t) (wA ad G sz)) 0 0 (wA ad G sz) := by
  refine Met.ofW (cc := cX3_weightAt) (maxL := 3) (ret := (some .int)) (by decide) rfl ?_
  intro p e s m args below meth c s₁ B hml hv
  obtain ⟨rfl, hsz, hP, hK, hD0, hZ, hN⟩ := hv
  have hx := B.exec
  have hb := B.bytes
  have hr := B.returns
  have hts := atoms_spec (ws := wsX3_weightAt) B.pre
  have hown : s.vm.findClass RX3 = some m.cls := findClass_of_methodNamed B.named
  have hlocks := B.notSynchronized
  subst hsz
  have hD := wD_self (sz := s.heap.size) hD0
  have hA9 : ∀ q, s.heap.size ≤ q → wA ad G s.heap.size q := fun q h => Or.inr h
  generalize hAe : wA ad G s.heap.size = A at hD hA9 hZ ⊢
  have hS : va_S A s.heap s.heap [] := va_S.rf
  have hl := lv_entry ([.int p0, .int p1, .int p2]) (n := 3) (Nat.le_of_ble_eq_true rfl)
  rw [lg_entry_eq]
  generalize (lg_sl ([.int p0, .int p1, .int p2]) ++ List.replicate (3 - (lg_sl ([.int p0, .int p1, .int p2])).length) Slot.unset).toArray = ls at hl ⊢
  have hl : lv_has ls 3 [(0, .int p0), (1, .int p1), (2, .int p2)] := hl
  unfold FX3_weightAt at hF
  refine lv_iconst (v := (2 : Int32)) hx hb dX3_weightAt_0 (by decide) ?_
  refine lv_iconst (v := (3 : Int32)) hx hb dX3_weightAt_1 (by decide) ?_
  refine lv_bipush (v := (8 : Int32)) hx hb dX3_weightAt_2 (by decide) ?_
  refine lv_iload_n hx hb dX3_weightAt_4 rfl (lv_at hl 0 rfl) ?_
  refine lv_imul hx hb dX3_weightAt_5 ?_
  obtain ⟨x1, ex1, hF⟩ := ltt_some hF
  refine lv_topi (fun zx1 ezx1 => ?_)
  obtain rfl : x1 = zx1 := ex1.trans ezx1.symm
  refine lv_iload_n hx hb dX3_weightAt_6 rfl (lv_at hl 1 rfl) ?_
  refine lv_iadd hx hb dX3_weightAt_7 ?_
  obtain ⟨x2, ex2, hF⟩ := ltt_some hF
  refine lv_topi (fun zx2 ezx2 => ?_)
  obtain rfl : x2 = zx2 := ex2.trans ezx2.symm
  refine lv_imul hx hb dX3_weightAt_8 ?_
  obtain ⟨x3, ex3, hF⟩ := ltt_some hF
  refine lv_topi (fun zx3 ezx3 => ?_)
  obtain rfl : x3 = zx3 := ex3.trans ezx3.symm
  refine lv_iload_n hx hb dX3_weightAt_9 rfl (lv_at hl 2 rfl) ?_
  refine lv_iadd hx hb dX3_weightAt_10 ?_
  obtain ⟨x4, ex4, hF⟩ := ltt_some hF
  refine lv_topi (fun zx4 ezx4 => ?_)
  obtain rfl : x4 = zx4 := ex4.trans ezx4.symm
  refine lv_imul hx hb dX3_weightAt_11 ?_
  obtain ⟨x5, ex5, hF⟩ := ltt_some hF
  refine lv_topi (fun zx5 ezx5 => ?_)
  obtain rfl : x5 = zx5 := ex5.trans ezx5.symm
  obtain rfl := Option.some.inj hF
  exact W.iret (v := x5) hx hb hr (fun t ht hW => ⟨⟨_, (), rfl, rfl, ⟨by rw [ht]; exact hP, va_K.moved hW.alike hK, hD⟩⟩, hS.F ht⟩) hS.2.2 dX3_weightAt_12
theorem dX4_at_0 : decode cX4_at 0 = .ok (.sipush 512, 3) := by decide +kernel
theorem dX4_at_3 : decode cX4_at 3 = .ok (.iload_n 0, 1) := by decide +kernel
theorem dX4_at_4 : decode cX4_at 4 = .ok (.imul, 1) := by decide +kernel
theorem dX4_at_5 : decode cX4_at 5 = .ok (.iload_n 1, 1) := by decide +kernel
theorem dX4_at_6 : decode cX4_at 6 = .ok (.iadd, 1) := by decide +kernel
theorem dX4_at_7 : decode cX4_at 7 = .ok (.ireturn, 1) := by decide +kernel
def FX4_at (G : GG) (M : DD) (p0 : Int32) (p1 : Int32) : Option (DD × Int32) :=
  ltt ((((512 : Int32)) * p0)) fun x1 =>
  ltt ((x1 + p1)) fun x2 =>
  some (M, x2)
set_option maxHeartbeats 4000000 in
set_option maxRecDepth 100000 in
theorem kX4_at (l : Launch) (D : va_G) (ct : CT) (ad : Nat → Nat) (Z : Nat → Nat) (G : GG) (M : DD) (sz : Nat) (p0 : Int32) (p1 : Int32) (y : DD × Int32) (hF : FX4_at G M p0 p1 = some y) : Met l yX4_at wsX4_at ({ frames := 0, cells := 0, slots := 0, locals := 0 }) (va_Pc [.int p0, .int p1] (kB D ct ad Z G M sz)) (va_Qi (fun (q : Int32) (_ : Unit) => q = y.2) (fun _ t => kE D ct ad G (wA ad G sz) y.1 t) (wA ad G sz)) 0 0 (wA ad G sz) := by
  refine Met.ofW (cc := cX4_at) (maxL := 2) (ret := (some .int)) (by decide) rfl ?_
  intro p e s m args below meth c s₁ B hml hv
  obtain ⟨rfl, hsz, hP, hK, hD0, hZ, hN⟩ := hv
  have hx := B.exec
  have hb := B.bytes
  have hr := B.returns
  have hts := atoms_spec (ws := wsX4_at) B.pre
  have hown : s.vm.findClass RX4 = some m.cls := findClass_of_methodNamed B.named
  have hlocks := B.notSynchronized
  subst hsz
  have hD := wD_self (sz := s.heap.size) hD0
  have hA9 : ∀ q, s.heap.size ≤ q → wA ad G s.heap.size q := fun q h => Or.inr h
  generalize hAe : wA ad G s.heap.size = A at hD hA9 hZ ⊢
  have hS : va_S A s.heap s.heap [] := va_S.rf
  have hl := lv_entry ([.int p0, .int p1]) (n := 2) (Nat.le_of_ble_eq_true rfl)
  rw [lg_entry_eq]
  generalize (lg_sl ([.int p0, .int p1]) ++ List.replicate (2 - (lg_sl ([.int p0, .int p1])).length) Slot.unset).toArray = ls at hl ⊢
  have hl : lv_has ls 2 [(0, .int p0), (1, .int p1)] := hl
  unfold FX4_at at hF
  refine lv_sipush (v := (512 : Int32)) hx hb dX4_at_0 (by decide) ?_
  refine lv_iload_n hx hb dX4_at_3 rfl (lv_at hl 0 rfl) ?_
  refine lv_imul hx hb dX4_at_4 ?_
  obtain ⟨x1, ex1, hF⟩ := ltt_some hF
  refine lv_topi (fun zx1 ezx1 => ?_)
  obtain rfl : x1 = zx1 := ex1.trans ezx1.symm
  refine lv_iload_n hx hb dX4_at_5 rfl (lv_at hl 1 rfl) ?_
  refine lv_iadd hx hb dX4_at_6 ?_
  obtain ⟨x2, ex2, hF⟩ := ltt_some hF
  refine lv_topi (fun zx2 ezx2 => ?_)
  obtain rfl : x2 = zx2 := ex2.trans ezx2.symm
  obtain rfl := Option.some.inj hF
  exact W.iret (v := x2) hx hb hr (fun t ht hW => ⟨⟨_, (), rfl, rfl, ⟨by rw [ht]; exact hP, va_K.moved hW.alike hK, hD⟩⟩, hS.F ht⟩) hS.2.2 dX4_at_7
theorem dX4_blocks_0 : decode cX4_blocks 0 = .ok (.aload_n 0, 1) := by decide +kernel
theorem dX4_blocks_1 : decode cX4_blocks 1 = .ok (.getfield 33, 3) := by decide +kernel
theorem dX4_blocks_4 : decode cX4_blocks 4 = .ok (.aload_n 0, 1) := by decide +kernel
theorem dX4_blocks_5 : decode cX4_blocks 5 = .ok (.getfield 36, 3) := by decide +kernel
theorem dX4_blocks_8 : decode cX4_blocks 8 = .ok (.imul, 1) := by decide +kernel
theorem dX4_blocks_9 : decode cX4_blocks 9 = .ok (.ireturn, 1) := by decide +kernel
def FX4_blocks (G : GG) (M : DD) (a : Nat)  : Option (DD × Int32) :=
  ltt (M.1 a 1) fun x1 =>
  ltt (M.1 a 2) fun x2 =>
  ltt ((x1 * x2)) fun x3 =>
  some (M, x3)
set_option maxHeartbeats 4000000 in
set_option maxRecDepth 100000 in
theorem kX4_blocks (l : Launch) (D : va_G) (ct : CT) (ad : Nat → Nat) (Z : Nat → Nat) (G : GG) (M : DD) (sz : Nat) (a : Nat)  (y : DD × Int32) (hc : a < G.1) (hk : G.2.1 a = 4) (hF : FX4_blocks G M a  = some y) : Met l yX4_blocks wsX4_blocks ({ frames := 0, cells := 0, slots := 0, locals := 0 }) (va_Pc [.ref (ad a)] (kB D ct ad Z G M sz)) (va_Qi (fun (q : Int32) (_ : Unit) => q = y.2) (fun _ t => kE D ct ad G (wA ad G sz) y.1 t) (wA ad G sz)) 0 0 (wA ad G sz) := by
  refine Met.ofW (cc := cX4_blocks) (maxL := 1) (ret := (some .int)) (by decide) rfl ?_
  intro p e s m args below meth c s₁ B hml hv
  obtain ⟨rfl, hsz, hP, hK, hD0, hZ, hN⟩ := hv
  have hx := B.exec
  have hb := B.bytes
  have hr := B.returns
  have hts := atoms_spec (ws := wsX4_blocks) B.pre
  have hown : s.vm.findClass RX4 = some m.cls := findClass_of_methodNamed B.named
  have hlocks := B.notSynchronized
  subst hsz
  have hD := wD_self (sz := s.heap.size) hD0
  have hA9 : ∀ q, s.heap.size ≤ q → wA ad G s.heap.size q := fun q h => Or.inr h
  generalize hAe : wA ad G s.heap.size = A at hD hA9 hZ ⊢
  have hS : va_S A s.heap s.heap [] := va_S.rf
  have hl := lv_entry ([.ref (ad a)]) (n := 1) (Nat.le_of_ble_eq_true rfl)
  rw [lg_entry_eq]
  generalize (lg_sl ([.ref (ad a)]) ++ List.replicate (1 - (lg_sl ([.ref (ad a)])).length) Slot.unset).toArray = ls at hl ⊢
  have hl : lv_has ls 1 [(0, .ref (ad a))] := hl
  unfold FX4_blocks at hF
  refine lv_aload_n hx hb dX4_blocks_0 rfl (lv_at hl 0 rfl) ?_
  refine va_get (D := D) (ci := 4) (v := .int (M.1 a 1)) (C := RX4) (T := TX4) (N := 18) hx hb hts (by decide +kernel) hown hK hP a (wld_o ct ad G M hc hk (by decide)) rfl 1 (by decide) (hts (.fieldLink RX4 33 "VideoSuite$Picture" "width" "I") (by decide +kernel)) (fun _ h9 => h9) rfl dX4_blocks_1 ?_
  obtain ⟨x1, ex1, hF⟩ := ltt_some hF
  refine lv_topi (fun zx1 ezx1 => ?_)
  obtain rfl : x1 = zx1 := ex1.trans ezx1.symm
  refine lv_aload_n hx hb dX4_blocks_4 rfl (lv_at hl 0 rfl) ?_
  refine va_get (D := D) (ci := 4) (v := .int (M.1 a 2)) (C := RX4) (T := TX4) (N := 18) hx hb hts (by decide +kernel) hown hK hP a (wld_o ct ad G M hc hk (by decide)) rfl 2 (by decide) (hts (.fieldLink RX4 36 "VideoSuite$Picture" "height" "I") (by decide +kernel)) (fun _ h9 => h9) rfl dX4_blocks_5 ?_
  obtain ⟨x2, ex2, hF⟩ := ltt_some hF
  refine lv_topi (fun zx2 ezx2 => ?_)
  obtain rfl : x2 = zx2 := ex2.trans ezx2.symm
  refine lv_imul hx hb dX4_blocks_8 ?_
  obtain ⟨x3, ex3, hF⟩ := ltt_some hF
  refine lv_topi (fun zx3 ezx3 => ?_)
  obtain rfl : x3 = zx3 := ex3.trans ezx3.symm
  obtain rfl := Option.some.inj hF
  exact W.iret (v := x3) hx hb hr (fun t ht hW => ⟨⟨_, (), rfl, rfl, ⟨by rw [ht]; exact hP, va_K.moved hW.alike hK, hD⟩⟩, hS.F ht⟩) hS.2.2 dX4_blocks_9
theorem dX4_farApart_0 : decode cX4_farApart 0 = .ok (.aload_n 0, 1) := by decide +kernel
theorem dX4_farApart_1 : decode cX4_farApart 1 = .ok (.getfield 26, 3) := by decide +kernel
theorem dX4_farApart_4 : decode cX4_farApart 4 = .ok (.iconst 2, 1) := by decide +kernel
theorem dX4_farApart_5 : decode cX4_farApart 5 = .ok (.iload_n 1, 1) := by decide +kernel
theorem dX4_farApart_6 : decode cX4_farApart 6 = .ok (.imul, 1) := by decide +kernel
theorem dX4_farApart_7 : decode cX4_farApart 7 = .ok (.iaload, 1) := by decide +kernel
theorem dX4_farApart_8 : decode cX4_farApart 8 = .ok (.aload_n 0, 1) := by decide +kernel
theorem dX4_farApart_9 : decode cX4_farApart 9 = .ok (.getfield 26, 3) := by decide +kernel
theorem dX4_farApart_12 : decode cX4_farApart 12 = .ok (.iconst 2, 1) := by decide +kernel
theorem dX4_farApart_13 : decode cX4_farApart 13 = .ok (.iload_n 2, 1) := by decide +kernel
theorem dX4_farApart_14 : decode cX4_farApart 14 = .ok (.imul, 1) := by decide +kernel
theorem dX4_farApart_15 : decode cX4_farApart 15 = .ok (.iaload, 1) := by decide +kernel
theorem dX4_farApart_16 : decode cX4_farApart 16 = .ok (.isub, 1) := by decide +kernel
theorem dX4_farApart_17 : decode cX4_farApart 17 = .ok (.istore_n 3, 1) := by decide +kernel
theorem dX4_farApart_18 : decode cX4_farApart 18 = .ok (.aload_n 0, 1) := by decide +kernel
theorem dX4_farApart_19 : decode cX4_farApart 19 = .ok (.getfield 26, 3) := by decide +kernel
theorem dX4_farApart_22 : decode cX4_farApart 22 = .ok (.iconst 2, 1) := by decide +kernel
theorem dX4_farApart_23 : decode cX4_farApart 23 = .ok (.iload_n 1, 1) := by decide +kernel
theorem dX4_farApart_24 : decode cX4_farApart 24 = .ok (.imul, 1) := by decide +kernel
theorem dX4_farApart_25 : decode cX4_farApart 25 = .ok (.iconst 1, 1) := by decide +kernel
theorem dX4_farApart_26 : decode cX4_farApart 26 = .ok (.iadd, 1) := by decide +kernel
theorem dX4_farApart_27 : decode cX4_farApart 27 = .ok (.iaload, 1) := by decide +kernel
theorem dX4_farApart_28 : decode cX4_farApart 28 = .ok (.aload_n 0, 1) := by decide +kernel
theorem dX4_farApart_29 : decode cX4_farApart 29 = .ok (.getfield 26, 3) := by decide +kernel
theorem dX4_farApart_32 : decode cX4_farApart 32 = .ok (.iconst 2, 1) := by decide +kernel
theorem dX4_farApart_33 : decode cX4_farApart 33 = .ok (.iload_n 2, 1) := by decide +kernel
theorem dX4_farApart_34 : decode cX4_farApart 34 = .ok (.imul, 1) := by decide +kernel
theorem dX4_farApart_35 : decode cX4_farApart 35 = .ok (.iconst 1, 1) := by decide +kernel
theorem dX4_farApart_36 : decode cX4_farApart 36 = .ok (.iadd, 1) := by decide +kernel
theorem dX4_farApart_37 : decode cX4_farApart 37 = .ok (.iaload, 1) := by decide +kernel
theorem dX4_farApart_38 : decode cX4_farApart 38 = .ok (.isub, 1) := by decide +kernel
theorem dX4_farApart_39 : decode cX4_farApart 39 = .ok (.istore 4, 2) := by decide +kernel
theorem dX4_farApart_41 : decode cX4_farApart 41 = .ok (.iload_n 3, 1) := by decide +kernel
theorem dX4_farApart_42 : decode cX4_farApart 42 = .ok (.iconst 4, 1) := by decide +kernel
theorem dX4_farApart_43 : decode cX4_farApart 43 = .ok (.if_icmp .ge 22, 3) := by decide +kernel
theorem dX4_farApart_46 : decode cX4_farApart 46 = .ok (.iload_n 3, 1) := by decide +kernel
theorem dX4_farApart_47 : decode cX4_farApart 47 = .ok (.bipush (-4), 2) := by decide +kernel
theorem dX4_farApart_49 : decode cX4_farApart 49 = .ok (.if_icmp .le 16, 3) := by decide +kernel
theorem dX4_farApart_52 : decode cX4_farApart 52 = .ok (.iload 4, 2) := by decide +kernel
theorem dX4_farApart_54 : decode cX4_farApart 54 = .ok (.iconst 4, 1) := by decide +kernel
theorem dX4_farApart_55 : decode cX4_farApart 55 = .ok (.if_icmp .ge 10, 3) := by decide +kernel
theorem dX4_farApart_58 : decode cX4_farApart 58 = .ok (.iload 4, 2) := by decide +kernel
theorem dX4_farApart_60 : decode cX4_farApart 60 = .ok (.bipush (-4), 2) := by decide +kernel
theorem dX4_farApart_62 : decode cX4_farApart 62 = .ok (.if_icmp .gt 7, 3) := by decide +kernel
theorem dX4_farApart_65 : decode cX4_farApart 65 = .ok (.iconst 1, 1) := by decide +kernel
theorem dX4_farApart_66 : decode cX4_farApart 66 = .ok (.goto 4, 3) := by decide +kernel
theorem dX4_farApart_69 : decode cX4_farApart 69 = .ok (.iconst 0, 1) := by decide +kernel
theorem dX4_farApart_70 : decode cX4_farApart 70 = .ok (.ireturn, 1) := by decide +kernel
def FX4_farApart (G : GG) (M : DD) (a : Nat) (p0 : Int32) (p1 : Int32) : Option (DD × Int32) :=
  ltt ((((2 : Int32)) * p0)) fun x1 =>
  dr G 13 ((M.2 a 7)) fun b2 =>
  chk (¬ (x1 < 0 ∨ G.2.2 b2 ≤ x1.toNatClampNeg)) <|
  ltt (M.1 b2 x1.toNatClampNeg) fun x3 =>
  ltt ((((2 : Int32)) * p1)) fun x4 =>
  chk (¬ (x4 < 0 ∨ G.2.2 b2 ≤ x4.toNatClampNeg)) <|
  ltt (M.1 b2 x4.toNatClampNeg) fun x5 =>
  ltt ((x3 - x5)) fun x6 =>
  ltt ((((2 : Int32)) * p0)) fun x7 =>
  ltt ((x7 + ((1 : Int32)))) fun x8 =>
  chk (¬ (x8 < 0 ∨ G.2.2 b2 ≤ x8.toNatClampNeg)) <|
  ltt (M.1 b2 x8.toNatClampNeg) fun x9 =>
  ltt ((((2 : Int32)) * p1)) fun x10 =>
  ltt ((x10 + ((1 : Int32)))) fun x11 =>
  chk (¬ (x11 < 0 ∨ G.2.2 b2 ≤ x11.toNatClampNeg)) <|
  ltt (M.1 b2 x11.toNatClampNeg) fun x12 =>
  ltt ((x9 - x12)) fun x13 =>
  bnd (if ((4 : Int32)) ≤ x6 then (some ((1 : Int32))) else
  (bnd (if x6 ≤ ((-4 : Int32)) then (some ((1 : Int32))) else
  (bnd (if ((4 : Int32)) ≤ x13 then (some ((1 : Int32))) else
  (bnd (if ((-4 : Int32)) < x13 then (some ((0 : Int32))) else
  (some ((1 : Int32)))) fun (y20 : Int32) =>
  some (y20))) fun (y18 : Int32) =>
  some (y18))) fun (y16 : Int32) =>
  some (y16))) fun (y14 : Int32) =>
  chk (y14 = 0 ∨ y14 = 1) <|
  some (M, y14)
set_option maxHeartbeats 4000000 in
set_option maxRecDepth 100000 in
theorem kX4_farApart (l : Launch) (D : va_G) (ct : CT) (ad : Nat → Nat) (Z : Nat → Nat) (G : GG) (M : DD) (sz : Nat) (a : Nat) (p0 : Int32) (p1 : Int32) (y : DD × Int32) (hc : a < G.1) (hk : G.2.1 a = 4) (hF : FX4_farApart G M a p0 p1 = some y) : Met l yX4_farApart wsX4_farApart ({ frames := 0, cells := 0, slots := 0, locals := 0 }) (va_Pc [.ref (ad a), .int p0, .int p1] (kB D ct ad Z G M sz)) (va_Qi (fun (q : Int32) (_ : Unit) => q = y.2) (fun _ t => kE D ct ad G (wA ad G sz) y.1 t) (wA ad G sz)) 0 0 (wA ad G sz) := by
  refine Met.ofW (cc := cX4_farApart) (maxL := 5) (ret := (some .boolean)) (by decide) rfl ?_
  intro p e s m args below meth c s₁ B hml hv
  obtain ⟨rfl, hsz, hP, hK, hD0, hZ, hN⟩ := hv
  have hx := B.exec
  have hb := B.bytes
  have hr := B.returns
  have hts := atoms_spec (ws := wsX4_farApart) B.pre
  have hown : s.vm.findClass RX4 = some m.cls := findClass_of_methodNamed B.named
  have hlocks := B.notSynchronized
  subst hsz
  have hD := wD_self (sz := s.heap.size) hD0
  have hA9 : ∀ q, s.heap.size ≤ q → wA ad G s.heap.size q := fun q h => Or.inr h
  generalize hAe : wA ad G s.heap.size = A at hD hA9 hZ ⊢
  have hS : va_S A s.heap s.heap [] := va_S.rf
  have hl := lv_entry ([.ref (ad a), .int p0, .int p1]) (n := 5) (Nat.le_of_ble_eq_true rfl)
  rw [lg_entry_eq]
  generalize (lg_sl ([.ref (ad a), .int p0, .int p1]) ++ List.replicate (5 - (lg_sl ([.ref (ad a), .int p0, .int p1])).length) Slot.unset).toArray = ls at hl ⊢
  have hl : lv_has ls 5 [(0, .ref (ad a)), (1, .int p0), (2, .int p1)] := hl
  unfold FX4_farApart at hF
  refine lv_aload_n hx hb dX4_farApart_0 rfl (lv_at hl 0 rfl) ?_
  refine va_get (D := D) (ci := 4) (v := va_re ad (M.2 a 7)) (C := RX4) (T := TX4) (N := 18) hx hb hts (by decide +kernel) hown hK hP a (wld_o ct ad G M hc hk (by decide)) rfl 7 (by decide) (hts (.fieldLink RX4 26 "VideoSuite$Picture" "move" "[I") (by decide +kernel)) (fun _ h9 => h9) rfl dX4_farApart_1 ?_
  refine lv_iconst (v := (2 : Int32)) hx hb dX4_farApart_4 (by decide) ?_
  refine lv_iload_n hx hb dX4_farApart_5 rfl (lv_at hl 1 rfl) ?_
  refine lv_imul hx hb dX4_farApart_6 ?_
  obtain ⟨x1, ex1, hF⟩ := ltt_some hF
  refine lv_topi (fun zx1 ezx1 => ?_)
  obtain rfl : x1 = zx1 := ex1.trans ezx1.symm
  obtain ⟨b2, ho2, hc2, hk2, hF⟩ := dr_some hF
  refine W_st (st' := [.int x1, .ref (ad b2)]) (by rw [va_some ho2]) ?_
  obtain ⟨hvc, hF⟩ := chk_some hF
  refine va_iald hx hb hK hP b2 1 (wld_i ct ad G M hc2 hk2) rfl hvc dX4_farApart_7 ?_
  obtain ⟨x3, ex3, hF⟩ := ltt_some hF
  refine lv_topi (fun zx3 ezx3 => ?_)
  obtain rfl : x3 = zx3 := ex3.trans ezx3.symm
  refine lv_aload_n hx hb dX4_farApart_8 rfl (lv_at hl 0 rfl) ?_
  refine va_get (D := D) (ci := 4) (v := va_re ad (M.2 a 7)) (C := RX4) (T := TX4) (N := 18) hx hb hts (by decide +kernel) hown hK hP a (wld_o ct ad G M hc hk (by decide)) rfl 7 (by decide) (hts (.fieldLink RX4 26 "VideoSuite$Picture" "move" "[I") (by decide +kernel)) (fun _ h9 => h9) rfl dX4_farApart_9 ?_
  refine lv_iconst (v := (2 : Int32)) hx hb dX4_farApart_12 (by decide) ?_
  refine lv_iload_n hx hb dX4_farApart_13 rfl (lv_at hl 2 rfl) ?_
  refine lv_imul hx hb dX4_farApart_14 ?_
  obtain ⟨x4, ex4, hF⟩ := ltt_some hF
  refine lv_topi (fun zx4 ezx4 => ?_)
  obtain rfl : x4 = zx4 := ex4.trans ezx4.symm
  refine W_st (st' := [.int x4, .ref (ad b2), .int x3]) (by rw [va_some ho2]) ?_
  obtain ⟨hvc, hF⟩ := chk_some hF
  refine va_iald hx hb hK hP b2 1 (wld_i ct ad G M hc2 hk2) rfl hvc dX4_farApart_15 ?_
  obtain ⟨x5, ex5, hF⟩ := ltt_some hF
  refine lv_topi (fun zx5 ezx5 => ?_)
  obtain rfl : x5 = zx5 := ex5.trans ezx5.symm
  refine lv_isub hx hb dX4_farApart_16 ?_
  obtain ⟨x6, ex6, hF⟩ := ltt_some hF
  refine lv_topi (fun zx6 ezx6 => ?_)
  obtain rfl : x6 = zx6 := ex6.trans ezx6.symm
  refine lv_istore_n (lv' := [(3, .int x6), (0, .ref (ad a)), (1, .int p0), (2, .int p1)]) hx hb dX4_farApart_17 rfl hl (by decide) rfl (fun ls hl => ?_)
  refine lv_aload_n hx hb dX4_farApart_18 rfl (lv_at hl 1 rfl) ?_
  refine va_get (D := D) (ci := 4) (v := va_re ad (M.2 a 7)) (C := RX4) (T := TX4) (N := 18) hx hb hts (by decide +kernel) hown hK hP a (wld_o ct ad G M hc hk (by decide)) rfl 7 (by decide) (hts (.fieldLink RX4 26 "VideoSuite$Picture" "move" "[I") (by decide +kernel)) (fun _ h9 => h9) rfl dX4_farApart_19 ?_
  refine lv_iconst (v := (2 : Int32)) hx hb dX4_farApart_22 (by decide) ?_
  refine lv_iload_n hx hb dX4_farApart_23 rfl (lv_at hl 2 rfl) ?_
  refine lv_imul hx hb dX4_farApart_24 ?_
  obtain ⟨x7, ex7, hF⟩ := ltt_some hF
  refine lv_topi (fun zx7 ezx7 => ?_)
  obtain rfl : x7 = zx7 := ex7.trans ezx7.symm
  refine lv_iconst (v := (1 : Int32)) hx hb dX4_farApart_25 (by decide) ?_
  refine lv_iadd hx hb dX4_farApart_26 ?_
  obtain ⟨x8, ex8, hF⟩ := ltt_some hF
  refine lv_topi (fun zx8 ezx8 => ?_)
  obtain rfl : x8 = zx8 := ex8.trans ezx8.symm
  refine W_st (st' := [.int x8, .ref (ad b2)]) (by rw [va_some ho2]) ?_
  obtain ⟨hvc, hF⟩ := chk_some hF
  refine va_iald hx hb hK hP b2 1 (wld_i ct ad G M hc2 hk2) rfl hvc dX4_farApart_27 ?_
  obtain ⟨x9, ex9, hF⟩ := ltt_some hF
  refine lv_topi (fun zx9 ezx9 => ?_)
  obtain rfl : x9 = zx9 := ex9.trans ezx9.symm
  refine lv_aload_n hx hb dX4_farApart_28 rfl (lv_at hl 1 rfl) ?_
  refine va_get (D := D) (ci := 4) (v := va_re ad (M.2 a 7)) (C := RX4) (T := TX4) (N := 18) hx hb hts (by decide +kernel) hown hK hP a (wld_o ct ad G M hc hk (by decide)) rfl 7 (by decide) (hts (.fieldLink RX4 26 "VideoSuite$Picture" "move" "[I") (by decide +kernel)) (fun _ h9 => h9) rfl dX4_farApart_29 ?_
  refine lv_iconst (v := (2 : Int32)) hx hb dX4_farApart_32 (by decide) ?_
  refine lv_iload_n hx hb dX4_farApart_33 rfl (lv_at hl 3 rfl) ?_
  refine lv_imul hx hb dX4_farApart_34 ?_
  obtain ⟨x10, ex10, hF⟩ := ltt_some hF
  refine lv_topi (fun zx10 ezx10 => ?_)
  obtain rfl : x10 = zx10 := ex10.trans ezx10.symm
  refine lv_iconst (v := (1 : Int32)) hx hb dX4_farApart_35 (by decide) ?_
  refine lv_iadd hx hb dX4_farApart_36 ?_
  obtain ⟨x11, ex11, hF⟩ := ltt_some hF
  refine lv_topi (fun zx11 ezx11 => ?_)
  obtain rfl : x11 = zx11 := ex11.trans ezx11.symm
  refine W_st (st' := [.int x11, .ref (ad b2), .int x9]) (by rw [va_some ho2]) ?_
  obtain ⟨hvc, hF⟩ := chk_some hF
  refine va_iald hx hb hK hP b2 1 (wld_i ct ad G M hc2 hk2) rfl hvc dX4_farApart_37 ?_
  obtain ⟨x12, ex12, hF⟩ := ltt_some hF
  refine lv_topi (fun zx12 ezx12 => ?_)
  obtain rfl : x12 = zx12 := ex12.trans ezx12.symm
  refine lv_isub hx hb dX4_farApart_38 ?_
  obtain ⟨x13, ex13, hF⟩ := ltt_some hF
  refine lv_topi (fun zx13 ezx13 => ?_)
  obtain rfl : x13 = zx13 := ex13.trans ezx13.symm
  refine lv_istore (lv' := [(4, .int x13), (3, .int x6), (0, .ref (ad a)), (1, .int p0), (2, .int p1)]) hx hb dX4_farApart_39 hl (by decide) rfl (fun ls hl => ?_)
  refine lv_iload_n hx hb dX4_farApart_41 rfl (lv_at hl 1 rfl) ?_
  refine lv_iconst (v := (4 : Int32)) hx hb dX4_farApart_42 (by decide) ?_
  obtain ⟨y14, hy14, hF⟩ := bnd_some hF
  have J14 : ∀ (H : Heap) (locs : List Loc) (ls : Array Slot), va_P D classes (wld ct ad G M) H → va_D A (wld ct ad G M) → va_S A s.heap H locs → lv_has ls 5 [(4, .int x13), (3, .int x6), (0, .ref (ad a)), (1, .int p0), (2, .int p1)] → W p l e (headSpec wsX4_farApart ({ frames := 0, cells := 0, slots := 0, locals := 0 })).room s m ([.ref (ad a), .int p0, .int p1] : List Value).toArray below meth c H locs 0 0 (MQ below (va_Qi (fun (q : Int32) (_ : Unit) => q = y.2) (fun _ t => kE D ct ad G A y.1 t) A) ([.ref (ad a), .int p0, .int p1] : List Value).toArray s 0 0 A) (F0 m 70 ls [.int y14]) := by
    intro H locs ls hP hD hS hl
    obtain ⟨hz9, hF⟩ := chk_some hF
    obtain rfl := Option.some.inj hF
    exact W.zret (v := y14) (ty := .boolean) hx hb hr (nar_z hz9).1 (fun t ht hW => ⟨⟨_, (), rfl, rfl, ⟨by rw [ht]; exact hP, va_K.moved hW.alike hK, hD⟩⟩, hS.F ht⟩) hS.2.2 dX4_farApart_70
  clear hF
  have hF := hy14
  clear hy14
  refine lv_icmp_ge (tgt := 65) hx hb dX4_farApart_43 (by decide) (fun c15 => ?_) (fun c15 => ?_)
  · rw [if_pos c15] at hF
    refine lv_iconst (v := (1 : Int32)) hx hb dX4_farApart_65 (by decide) ?_
    refine lv_goto (tgt := 70) hx hb dX4_farApart_66 (by decide) ?_
    obtain rfl := Option.some.inj hF
    exact J14 _ _ _ hP hD hS (lv_sub hl [0, 1, 2, 3, 4] rfl)
  · rw [if_neg c15] at hF
    refine lv_iload_n hx hb dX4_farApart_46 rfl (lv_at hl 1 rfl) ?_
    refine lv_bipush (v := (-4 : Int32)) hx hb dX4_farApart_47 (by decide) ?_
    obtain ⟨y16, hy16, hF⟩ := bnd_some hF
    have J16 : ∀ (H : Heap) (locs : List Loc) (ls : Array Slot), va_P D classes (wld ct ad G M) H → va_D A (wld ct ad G M) → va_S A s.heap H locs → lv_has ls 5 [(4, .int x13), (3, .int x6), (0, .ref (ad a)), (1, .int p0), (2, .int p1)] → W p l e (headSpec wsX4_farApart ({ frames := 0, cells := 0, slots := 0, locals := 0 })).room s m ([.ref (ad a), .int p0, .int p1] : List Value).toArray below meth c H locs 0 0 (MQ below (va_Qi (fun (q : Int32) (_ : Unit) => q = y.2) (fun _ t => kE D ct ad G A y.1 t) A) ([.ref (ad a), .int p0, .int p1] : List Value).toArray s 0 0 A) (F0 m 70 ls [.int y16]) := by
      intro H locs ls hP hD hS hl
      obtain rfl := Option.some.inj hF
      exact J14 _ _ _ hP hD hS (lv_sub hl [0, 1, 2, 3, 4] rfl)
    clear hF
    have hF := hy16
    clear hy16
    refine lv_icmp_le (tgt := 65) hx hb dX4_farApart_49 (by decide) (fun c17 => ?_) (fun c17 => ?_)
    · rw [if_pos c17] at hF
      refine lv_iconst (v := (1 : Int32)) hx hb dX4_farApart_65 (by decide) ?_
      refine lv_goto (tgt := 70) hx hb dX4_farApart_66 (by decide) ?_
      obtain rfl := Option.some.inj hF
      exact J16 _ _ _ hP hD hS (lv_sub hl [0, 1, 2, 3, 4] rfl)
    · rw [if_neg c17] at hF
      refine lv_iload hx hb dX4_farApart_52 (lv_at hl 0 rfl) ?_
      refine lv_iconst (v := (4 : Int32)) hx hb dX4_farApart_54 (by decide) ?_
      obtain ⟨y18, hy18, hF⟩ := bnd_some hF
      have J18 : ∀ (H : Heap) (locs : List Loc) (ls : Array Slot), va_P D classes (wld ct ad G M) H → va_D A (wld ct ad G M) → va_S A s.heap H locs → lv_has ls 5 [(4, .int x13), (3, .int x6), (0, .ref (ad a)), (1, .int p0), (2, .int p1)] → W p l e (headSpec wsX4_farApart ({ frames := 0, cells := 0, slots := 0, locals := 0 })).room s m ([.ref (ad a), .int p0, .int p1] : List Value).toArray below meth c H locs 0 0 (MQ below (va_Qi (fun (q : Int32) (_ : Unit) => q = y.2) (fun _ t => kE D ct ad G A y.1 t) A) ([.ref (ad a), .int p0, .int p1] : List Value).toArray s 0 0 A) (F0 m 70 ls [.int y18]) := by
        intro H locs ls hP hD hS hl
        obtain rfl := Option.some.inj hF
        exact J16 _ _ _ hP hD hS (lv_sub hl [0, 1, 2, 3, 4] rfl)
      clear hF
      have hF := hy18
      clear hy18
      refine lv_icmp_ge (tgt := 65) hx hb dX4_farApart_55 (by decide) (fun c19 => ?_) (fun c19 => ?_)
      · rw [if_pos c19] at hF
        refine lv_iconst (v := (1 : Int32)) hx hb dX4_farApart_65 (by decide) ?_
        refine lv_goto (tgt := 70) hx hb dX4_farApart_66 (by decide) ?_
        obtain rfl := Option.some.inj hF
        exact J18 _ _ _ hP hD hS (lv_sub hl [0, 1, 2, 3, 4] rfl)
      · rw [if_neg c19] at hF
        refine lv_iload hx hb dX4_farApart_58 (lv_at hl 0 rfl) ?_
        refine lv_bipush (v := (-4 : Int32)) hx hb dX4_farApart_60 (by decide) ?_
        obtain ⟨y20, hy20, hF⟩ := bnd_some hF
        have J20 : ∀ (H : Heap) (locs : List Loc) (ls : Array Slot), va_P D classes (wld ct ad G M) H → va_D A (wld ct ad G M) → va_S A s.heap H locs → lv_has ls 5 [(4, .int x13), (3, .int x6), (0, .ref (ad a)), (1, .int p0), (2, .int p1)] → W p l e (headSpec wsX4_farApart ({ frames := 0, cells := 0, slots := 0, locals := 0 })).room s m ([.ref (ad a), .int p0, .int p1] : List Value).toArray below meth c H locs 0 0 (MQ below (va_Qi (fun (q : Int32) (_ : Unit) => q = y.2) (fun _ t => kE D ct ad G A y.1 t) A) ([.ref (ad a), .int p0, .int p1] : List Value).toArray s 0 0 A) (F0 m 70 ls [.int y20]) := by
          intro H locs ls hP hD hS hl
          obtain rfl := Option.some.inj hF
          exact J18 _ _ _ hP hD hS (lv_sub hl [0, 1, 2, 3, 4] rfl)
        clear hF
        have hF := hy20
        clear hy20
        refine lv_icmp_gt (tgt := 69) hx hb dX4_farApart_62 (by decide) (fun c21 => ?_) (fun c21 => ?_)
        · rw [if_pos c21] at hF
          refine lv_iconst (v := (0 : Int32)) hx hb dX4_farApart_69 (by decide) ?_
          obtain rfl := Option.some.inj hF
          exact J20 _ _ _ hP hD hS (lv_sub hl [0, 1, 2, 3, 4] rfl)
        · rw [if_neg c21] at hF
          refine lv_iconst (v := (1 : Int32)) hx hb dX4_farApart_65 (by decide) ?_
          refine lv_goto (tgt := 70) hx hb dX4_farApart_66 (by decide) ?_
          obtain rfl := Option.some.inj hF
          exact J20 _ _ _ hP hD hS (lv_sub hl [0, 1, 2, 3, 4] rfl)
theorem dX4_high_0 : decode cX4_high 0 = .ok (.iload_n 1, 1) := by decide +kernel
theorem dX4_high_1 : decode cX4_high 1 = .ok (.ifCond .ne 13, 3) := by decide +kernel
theorem dX4_high_4 : decode cX4_high 4 = .ok (.bipush 16, 2) := by decide +kernel
theorem dX4_high_6 : decode cX4_high 6 = .ok (.aload_n 0, 1) := by decide +kernel
theorem dX4_high_7 : decode cX4_high 7 = .ok (.getfield 36, 3) := by decide +kernel
theorem dX4_high_10 : decode cX4_high 10 = .ok (.imul, 1) := by decide +kernel
theorem dX4_high_11 : decode cX4_high 11 = .ok (.goto 10, 3) := by decide +kernel
theorem dX4_high_14 : decode cX4_high 14 = .ok (.bipush 8, 2) := by decide +kernel
theorem dX4_high_16 : decode cX4_high 16 = .ok (.aload_n 0, 1) := by decide +kernel
theorem dX4_high_17 : decode cX4_high 17 = .ok (.getfield 36, 3) := by decide +kernel
theorem dX4_high_20 : decode cX4_high 20 = .ok (.imul, 1) := by decide +kernel
theorem dX4_high_21 : decode cX4_high 21 = .ok (.ireturn, 1) := by decide +kernel
def FX4_high (G : GG) (M : DD) (a : Nat) (p0 : Int32) : Option (DD × Int32) :=
  bnd (if p0 = ((0 : Int32)) then (ltt (M.1 a 2) fun x5 =>
  ltt ((((16 : Int32)) * x5)) fun x6 =>
  some (x6)) else
  (ltt (M.1 a 2) fun x3 =>
  ltt ((((8 : Int32)) * x3)) fun x4 =>
  some (x4))) fun (y1 : Int32) =>
  some (M, y1)
set_option maxHeartbeats 4000000 in
set_option maxRecDepth 100000 in
theorem kX4_high (l : Launch) (D : va_G) (ct : CT) (ad : Nat → Nat) (Z : Nat → Nat) (G : GG) (M : DD) (sz : Nat) (a : Nat) (p0 : Int32) (y : DD × Int32) (hc : a < G.1) (hk : G.2.1 a = 4) (hF : FX4_high G M a p0 = some y) : Met l yX4_high wsX4_high ({ frames := 0, cells := 0, slots := 0, locals := 0 }) (va_Pc [.ref (ad a), .int p0] (kB D ct ad Z G M sz)) (va_Qi (fun (q : Int32) (_ : Unit) => q = y.2) (fun _ t => kE D ct ad G (wA ad G sz) y.1 t) (wA ad G sz)) 0 0 (wA ad G sz) := by
  refine Met.ofW (cc := cX4_high) (maxL := 2) (ret := (some .int)) (by decide) rfl ?_
  intro p e s m args below meth c s₁ B hml hv
  obtain ⟨rfl, hsz, hP, hK, hD0, hZ, hN⟩ := hv
  have hx := B.exec
  have hb := B.bytes
  have hr := B.returns
  have hts := atoms_spec (ws := wsX4_high) B.pre
  have hown : s.vm.findClass RX4 = some m.cls := findClass_of_methodNamed B.named
  have hlocks := B.notSynchronized
  subst hsz
  have hD := wD_self (sz := s.heap.size) hD0
  have hA9 : ∀ q, s.heap.size ≤ q → wA ad G s.heap.size q := fun q h => Or.inr h
  generalize hAe : wA ad G s.heap.size = A at hD hA9 hZ ⊢
  have hS : va_S A s.heap s.heap [] := va_S.rf
  have hl := lv_entry ([.ref (ad a), .int p0]) (n := 2) (Nat.le_of_ble_eq_true rfl)
  rw [lg_entry_eq]
  generalize (lg_sl ([.ref (ad a), .int p0]) ++ List.replicate (2 - (lg_sl ([.ref (ad a), .int p0])).length) Slot.unset).toArray = ls at hl ⊢
  have hl : lv_has ls 2 [(0, .ref (ad a)), (1, .int p0)] := hl
  unfold FX4_high at hF
  refine lv_iload_n hx hb dX4_high_0 rfl (lv_at hl 1 rfl) ?_
  obtain ⟨y1, hy1, hF⟩ := bnd_some hF
  have J1 : ∀ (H : Heap) (locs : List Loc) (ls : Array Slot), va_P D classes (wld ct ad G M) H → va_D A (wld ct ad G M) → va_S A s.heap H locs → lv_has ls 2 [(0, .ref (ad a)), (1, .int p0)] → W p l e (headSpec wsX4_high ({ frames := 0, cells := 0, slots := 0, locals := 0 })).room s m ([.ref (ad a), .int p0] : List Value).toArray below meth c H locs 0 0 (MQ below (va_Qi (fun (q : Int32) (_ : Unit) => q = y.2) (fun _ t => kE D ct ad G A y.1 t) A) ([.ref (ad a), .int p0] : List Value).toArray s 0 0 A) (F0 m 21 ls [.int y1]) := by
    intro H locs ls hP hD hS hl
    obtain rfl := Option.some.inj hF
    exact W.iret (v := y1) hx hb hr (fun t ht hW => ⟨⟨_, (), rfl, rfl, ⟨by rw [ht]; exact hP, va_K.moved hW.alike hK, hD⟩⟩, hS.F ht⟩) hS.2.2 dX4_high_21
  clear hF
  have hF := hy1
  clear hy1
  refine lv_if_ne (tgt := 14) hx hb dX4_high_1 (by decide) (fun c2 => ?_) (fun c2 => ?_)
  · rw [if_neg c2] at hF
    refine lv_bipush (v := (8 : Int32)) hx hb dX4_high_14 (by decide) ?_
    refine lv_aload_n hx hb dX4_high_16 rfl (lv_at hl 0 rfl) ?_
    refine va_get (D := D) (ci := 4) (v := .int (M.1 a 2)) (C := RX4) (T := TX4) (N := 18) hx hb hts (by decide +kernel) hown hK hP a (wld_o ct ad G M hc hk (by decide)) rfl 2 (by decide) (hts (.fieldLink RX4 36 "VideoSuite$Picture" "height" "I") (by decide +kernel)) (fun _ h9 => h9) rfl dX4_high_17 ?_
    obtain ⟨x3, ex3, hF⟩ := ltt_some hF
    refine lv_topi (fun zx3 ezx3 => ?_)
    obtain rfl : x3 = zx3 := ex3.trans ezx3.symm
    refine lv_imul hx hb dX4_high_20 ?_
    obtain ⟨x4, ex4, hF⟩ := ltt_some hF
    refine lv_topi (fun zx4 ezx4 => ?_)
    obtain rfl : x4 = zx4 := ex4.trans ezx4.symm
    obtain rfl := Option.some.inj hF
    exact J1 _ _ _ hP hD hS (lv_sub hl [0, 1] rfl)
  · rw [if_pos c2] at hF
    refine lv_bipush (v := (16 : Int32)) hx hb dX4_high_4 (by decide) ?_
    refine lv_aload_n hx hb dX4_high_6 rfl (lv_at hl 0 rfl) ?_
    refine va_get (D := D) (ci := 4) (v := .int (M.1 a 2)) (C := RX4) (T := TX4) (N := 18) hx hb hts (by decide +kernel) hown hK hP a (wld_o ct ad G M hc hk (by decide)) rfl 2 (by decide) (hts (.fieldLink RX4 36 "VideoSuite$Picture" "height" "I") (by decide +kernel)) (fun _ h9 => h9) rfl dX4_high_7 ?_
    obtain ⟨x5, ex5, hF⟩ := ltt_some hF
    refine lv_topi (fun zx5 ezx5 => ?_)
    obtain rfl : x5 = zx5 := ex5.trans ezx5.symm
    refine lv_imul hx hb dX4_high_10 ?_
    obtain ⟨x6, ex6, hF⟩ := ltt_some hF
    refine lv_topi (fun zx6 ezx6 => ?_)
    obtain rfl : x6 = zx6 := ex6.trans ezx6.symm
    refine lv_goto (tgt := 21) hx hb dX4_high_11 (by decide) ?_
    obtain rfl := Option.some.inj hF
    exact J1 _ _ _ hP hD hS (lv_sub hl [0, 1] rfl)
theorem dX4_listOf_0 : decode cX4_listOf 0 = .ok (.aload_n 0, 1) := by decide +kernel
theorem dX4_listOf_1 : decode cX4_listOf 1 = .ok (.getfield 20, 3) := by decide +kernel
theorem dX4_listOf_4 : decode cX4_listOf 4 = .ok (.iload_n 1, 1) := by decide +kernel
theorem dX4_listOf_5 : decode cX4_listOf 5 = .ok (.iaload, 1) := by decide +kernel
theorem dX4_listOf_6 : decode cX4_listOf 6 = .ok (.ifCond .lt 7, 3) := by decide +kernel
theorem dX4_listOf_9 : decode cX4_listOf 9 = .ok (.iconst 0, 1) := by decide +kernel
theorem dX4_listOf_10 : decode cX4_listOf 10 = .ok (.goto 21, 3) := by decide +kernel
theorem dX4_listOf_13 : decode cX4_listOf 13 = .ok (.aload_n 0, 1) := by decide +kernel
theorem dX4_listOf_14 : decode cX4_listOf 14 = .ok (.getfield 20, 3) := by decide +kernel
theorem dX4_listOf_17 : decode cX4_listOf 17 = .ok (.sipush 512, 3) := by decide +kernel
theorem dX4_listOf_20 : decode cX4_listOf 20 = .ok (.iload_n 1, 1) := by decide +kernel
theorem dX4_listOf_21 : decode cX4_listOf 21 = .ok (.iadd, 1) := by decide +kernel
theorem dX4_listOf_22 : decode cX4_listOf 22 = .ok (.iaload, 1) := by decide +kernel
theorem dX4_listOf_23 : decode cX4_listOf 23 = .ok (.ifCond .lt 7, 3) := by decide +kernel
theorem dX4_listOf_26 : decode cX4_listOf 26 = .ok (.iconst 1, 1) := by decide +kernel
theorem dX4_listOf_27 : decode cX4_listOf 27 = .ok (.goto 4, 3) := by decide +kernel
theorem dX4_listOf_30 : decode cX4_listOf 30 = .ok (.iconst (-1), 1) := by decide +kernel
theorem dX4_listOf_31 : decode cX4_listOf 31 = .ok (.ireturn, 1) := by decide +kernel
def FX4_listOf (G : GG) (M : DD) (a : Nat) (p0 : Int32) : Option (DD × Int32) :=
  dr G 13 ((M.2 a 5)) fun b1 =>
  chk (¬ (p0 < 0 ∨ G.2.2 b1 ≤ p0.toNatClampNeg)) <|
  ltt (M.1 b1 p0.toNatClampNeg) fun x2 =>
  bnd (if x2 < ((0 : Int32)) then (ltt ((((512 : Int32)) + p0)) fun x5 =>
  chk (¬ (x5 < 0 ∨ G.2.2 b1 ≤ x5.toNatClampNeg)) <|
  ltt (M.1 b1 x5.toNatClampNeg) fun x6 =>
  bnd (if x6 < ((0 : Int32)) then (some ((-1 : Int32))) else
  (some ((1 : Int32)))) fun (y7 : Int32) =>
  some (y7)) else
  (some ((0 : Int32)))) fun (y3 : Int32) =>
  some (M, y3)
set_option maxHeartbeats 4000000 in
set_option maxRecDepth 100000 in
theorem kX4_listOf (l : Launch) (D : va_G) (ct : CT) (ad : Nat → Nat) (Z : Nat → Nat) (G : GG) (M : DD) (sz : Nat) (a : Nat) (p0 : Int32) (y : DD × Int32) (hc : a < G.1) (hk : G.2.1 a = 4) (hF : FX4_listOf G M a p0 = some y) : Met l yX4_listOf wsX4_listOf ({ frames := 0, cells := 0, slots := 0, locals := 0 }) (va_Pc [.ref (ad a), .int p0] (kB D ct ad Z G M sz)) (va_Qi (fun (q : Int32) (_ : Unit) => q = y.2) (fun _ t => kE D ct ad G (wA ad G sz) y.1 t) (wA ad G sz)) 0 0 (wA ad G sz) := by
  refine Met.ofW (cc := cX4_listOf) (maxL := 2) (ret := (some .int)) (by decide) rfl ?_
  intro p e s m args below meth c s₁ B hml hv
  obtain ⟨rfl, hsz, hP, hK, hD0, hZ, hN⟩ := hv
  have hx := B.exec
  have hb := B.bytes
  have hr := B.returns
  have hts := atoms_spec (ws := wsX4_listOf) B.pre
  have hown : s.vm.findClass RX4 = some m.cls := findClass_of_methodNamed B.named
  have hlocks := B.notSynchronized
  subst hsz
  have hD := wD_self (sz := s.heap.size) hD0
  have hA9 : ∀ q, s.heap.size ≤ q → wA ad G s.heap.size q := fun q h => Or.inr h
  generalize hAe : wA ad G s.heap.size = A at hD hA9 hZ ⊢
  have hS : va_S A s.heap s.heap [] := va_S.rf
  have hl := lv_entry ([.ref (ad a), .int p0]) (n := 2) (Nat.le_of_ble_eq_true rfl)
  rw [lg_entry_eq]
  generalize (lg_sl ([.ref (ad a), .int p0]) ++ List.replicate (2 - (lg_sl ([.ref (ad a), .int p0])).length) Slot.unset).toArray = ls at hl ⊢
  have hl : lv_has ls 2 [(0, .ref (ad a)), (1, .int p0)] := hl
  unfold FX4_listOf at hF
  refine lv_aload_n hx hb dX4_listOf_0 rfl (lv_at hl 0 rfl) ?_
  refine va_get (D := D) (ci := 4) (v := va_re ad (M.2 a 5)) (C := RX4) (T := TX4) (N := 18) hx hb hts (by decide +kernel) hown hK hP a (wld_o ct ad G M hc hk (by decide)) rfl 5 (by decide) (hts (.fieldLink RX4 20 "VideoSuite$Picture" "reference" "[I") (by decide +kernel)) (fun _ h9 => h9) rfl dX4_listOf_1 ?_
  refine lv_iload_n hx hb dX4_listOf_4 rfl (lv_at hl 1 rfl) ?_
  obtain ⟨b1, ho1, hc1, hk1, hF⟩ := dr_some hF
  refine W_st (st' := [.int p0, .ref (ad b1)]) (by rw [va_some ho1]) ?_
  obtain ⟨hvc, hF⟩ := chk_some hF
  refine va_iald hx hb hK hP b1 1 (wld_i ct ad G M hc1 hk1) rfl hvc dX4_listOf_5 ?_
  obtain ⟨x2, ex2, hF⟩ := ltt_some hF
  refine lv_topi (fun zx2 ezx2 => ?_)
  obtain rfl : x2 = zx2 := ex2.trans ezx2.symm
  obtain ⟨y3, hy3, hF⟩ := bnd_some hF
  have J3 : ∀ (H : Heap) (locs : List Loc) (ls : Array Slot), va_P D classes (wld ct ad G M) H → va_D A (wld ct ad G M) → va_S A s.heap H locs → lv_has ls 2 [(0, .ref (ad a)), (1, .int p0)] → W p l e (headSpec wsX4_listOf ({ frames := 0, cells := 0, slots := 0, locals := 0 })).room s m ([.ref (ad a), .int p0] : List Value).toArray below meth c H locs 0 0 (MQ below (va_Qi (fun (q : Int32) (_ : Unit) => q = y.2) (fun _ t => kE D ct ad G A y.1 t) A) ([.ref (ad a), .int p0] : List Value).toArray s 0 0 A) (F0 m 31 ls [.int y3]) := by
    intro H locs ls hP hD hS hl
    obtain rfl := Option.some.inj hF
    exact W.iret (v := y3) hx hb hr (fun t ht hW => ⟨⟨_, (), rfl, rfl, ⟨by rw [ht]; exact hP, va_K.moved hW.alike hK, hD⟩⟩, hS.F ht⟩) hS.2.2 dX4_listOf_31
  clear hF
  have hF := hy3
  clear hy3
  refine lv_if_lt (tgt := 13) hx hb dX4_listOf_6 (by decide) (fun c4 => ?_) (fun c4 => ?_)
  · rw [if_pos c4] at hF
    refine lv_aload_n hx hb dX4_listOf_13 rfl (lv_at hl 0 rfl) ?_
    refine va_get (D := D) (ci := 4) (v := va_re ad (M.2 a 5)) (C := RX4) (T := TX4) (N := 18) hx hb hts (by decide +kernel) hown hK hP a (wld_o ct ad G M hc hk (by decide)) rfl 5 (by decide) (hts (.fieldLink RX4 20 "VideoSuite$Picture" "reference" "[I") (by decide +kernel)) (fun _ h9 => h9) rfl dX4_listOf_14 ?_
    refine lv_sipush (v := (512 : Int32)) hx hb dX4_listOf_17 (by decide) ?_
    refine lv_iload_n hx hb dX4_listOf_20 rfl (lv_at hl 1 rfl) ?_
    refine lv_iadd hx hb dX4_listOf_21 ?_
    obtain ⟨x5, ex5, hF⟩ := ltt_some hF
    refine lv_topi (fun zx5 ezx5 => ?_)
    obtain rfl : x5 = zx5 := ex5.trans ezx5.symm
    refine W_st (st' := [.int x5, .ref (ad b1)]) (by rw [va_some ho1]) ?_
    obtain ⟨hvc, hF⟩ := chk_some hF
    refine va_iald hx hb hK hP b1 1 (wld_i ct ad G M hc1 hk1) rfl hvc dX4_listOf_22 ?_
    obtain ⟨x6, ex6, hF⟩ := ltt_some hF
    refine lv_topi (fun zx6 ezx6 => ?_)
    obtain rfl : x6 = zx6 := ex6.trans ezx6.symm
    obtain ⟨y7, hy7, hF⟩ := bnd_some hF
    have J7 : ∀ (H : Heap) (locs : List Loc) (ls : Array Slot), va_P D classes (wld ct ad G M) H → va_D A (wld ct ad G M) → va_S A s.heap H locs → lv_has ls 2 [(0, .ref (ad a)), (1, .int p0)] → W p l e (headSpec wsX4_listOf ({ frames := 0, cells := 0, slots := 0, locals := 0 })).room s m ([.ref (ad a), .int p0] : List Value).toArray below meth c H locs 0 0 (MQ below (va_Qi (fun (q : Int32) (_ : Unit) => q = y.2) (fun _ t => kE D ct ad G A y.1 t) A) ([.ref (ad a), .int p0] : List Value).toArray s 0 0 A) (F0 m 31 ls [.int y7]) := by
      intro H locs ls hP hD hS hl
      obtain rfl := Option.some.inj hF
      exact J3 _ _ _ hP hD hS (lv_sub hl [0, 1] rfl)
    clear hF
    have hF := hy7
    clear hy7
    refine lv_if_lt (tgt := 30) hx hb dX4_listOf_23 (by decide) (fun c8 => ?_) (fun c8 => ?_)
    · rw [if_pos c8] at hF
      refine lv_iconst (v := (-1 : Int32)) hx hb dX4_listOf_30 (by decide) ?_
      obtain rfl := Option.some.inj hF
      exact J7 _ _ _ hP hD hS (lv_sub hl [0, 1] rfl)
    · rw [if_neg c8] at hF
      refine lv_iconst (v := (1 : Int32)) hx hb dX4_listOf_26 (by decide) ?_
      refine lv_goto (tgt := 31) hx hb dX4_listOf_27 (by decide) ?_
      obtain rfl := Option.some.inj hF
      exact J7 _ _ _ hP hD hS (lv_sub hl [0, 1] rfl)
  · rw [if_neg c4] at hF
    refine lv_iconst (v := (0 : Int32)) hx hb dX4_listOf_9 (by decide) ?_
    refine lv_goto (tgt := 31) hx hb dX4_listOf_10 (by decide) ?_
    obtain rfl := Option.some.inj hF
    exact J3 _ _ _ hP hD hS (lv_sub hl [0, 1] rfl)
theorem ggX4_movesAlike_X4_at : GoodIn wsX4_movesAlike wsX4_at := goodIn_r _ [6] (by decide +kernel) (by decide +kernel)
set_option maxRecDepth 20000 in
theorem gX4_movesAlike_X4_at : GoodIn wsX4_movesAlike (va_wsS RX4 93 yX4_at wsX4_at) := goodIn_app (goodIn_of _ (by decide +kernel)) ggX4_movesAlike_X4_at
theorem dX4_movesAlike_0 : decode cX4_movesAlike 0 = .ok (.iconst 0, 1) := by decide +kernel
theorem dX4_movesAlike_1 : decode cX4_movesAlike 1 = .ok (.istore_n 3, 1) := by decide +kernel
theorem dX4_movesAlike_2 : decode cX4_movesAlike 2 = .ok (.iload_n 3, 1) := by decide +kernel
theorem dX4_movesAlike_3 : decode cX4_movesAlike 3 = .ok (.iconst 2, 1) := by decide +kernel
theorem dX4_movesAlike_4 : decode cX4_movesAlike 4 = .ok (.if_icmp .ge 88, 3) := by decide +kernel
theorem dX4_movesAlike_7 : decode cX4_movesAlike 7 = .ok (.iload_n 3, 1) := by decide +kernel
theorem dX4_movesAlike_8 : decode cX4_movesAlike 8 = .ok (.iload_n 1, 1) := by decide +kernel
theorem dX4_movesAlike_9 : decode cX4_movesAlike 9 = .ok (.invokestatic 93, 3) := by decide +kernel
theorem dX4_movesAlike_12 : decode cX4_movesAlike 12 = .ok (.istore 4, 2) := by decide +kernel
theorem dX4_movesAlike_14 : decode cX4_movesAlike 14 = .ok (.iload_n 3, 1) := by decide +kernel
theorem dX4_movesAlike_15 : decode cX4_movesAlike 15 = .ok (.iload_n 2, 1) := by decide +kernel
theorem dX4_movesAlike_16 : decode cX4_movesAlike 16 = .ok (.invokestatic 93, 3) := by decide +kernel
theorem dX4_movesAlike_19 : decode cX4_movesAlike 19 = .ok (.istore 5, 2) := by decide +kernel
theorem dX4_movesAlike_21 : decode cX4_movesAlike 21 = .ok (.aload_n 0, 1) := by decide +kernel
theorem dX4_movesAlike_22 : decode cX4_movesAlike 22 = .ok (.getfield 20, 3) := by decide +kernel
theorem dX4_movesAlike_25 : decode cX4_movesAlike 25 = .ok (.iload 4, 2) := by decide +kernel
theorem dX4_movesAlike_27 : decode cX4_movesAlike 27 = .ok (.iaload, 1) := by decide +kernel
theorem dX4_movesAlike_28 : decode cX4_movesAlike 28 = .ok (.aload_n 0, 1) := by decide +kernel
theorem dX4_movesAlike_29 : decode cX4_movesAlike 29 = .ok (.getfield 20, 3) := by decide +kernel
theorem dX4_movesAlike_32 : decode cX4_movesAlike 32 = .ok (.iload 5, 2) := by decide +kernel
theorem dX4_movesAlike_34 : decode cX4_movesAlike 34 = .ok (.iaload, 1) := by decide +kernel
theorem dX4_movesAlike_35 : decode cX4_movesAlike 35 = .ok (.if_icmp .ne 49, 3) := by decide +kernel
theorem dX4_movesAlike_38 : decode cX4_movesAlike 38 = .ok (.aload_n 0, 1) := by decide +kernel
theorem dX4_movesAlike_39 : decode cX4_movesAlike 39 = .ok (.getfield 26, 3) := by decide +kernel
theorem dX4_movesAlike_42 : decode cX4_movesAlike 42 = .ok (.iconst 2, 1) := by decide +kernel
theorem dX4_movesAlike_43 : decode cX4_movesAlike 43 = .ok (.iload 4, 2) := by decide +kernel
theorem dX4_movesAlike_45 : decode cX4_movesAlike 45 = .ok (.imul, 1) := by decide +kernel
theorem dX4_movesAlike_46 : decode cX4_movesAlike 46 = .ok (.iaload, 1) := by decide +kernel
theorem dX4_movesAlike_47 : decode cX4_movesAlike 47 = .ok (.aload_n 0, 1) := by decide +kernel
theorem dX4_movesAlike_48 : decode cX4_movesAlike 48 = .ok (.getfield 26, 3) := by decide +kernel
theorem dX4_movesAlike_51 : decode cX4_movesAlike 51 = .ok (.iconst 2, 1) := by decide +kernel
theorem dX4_movesAlike_52 : decode cX4_movesAlike 52 = .ok (.iload 5, 2) := by decide +kernel
theorem dX4_movesAlike_54 : decode cX4_movesAlike 54 = .ok (.imul, 1) := by decide +kernel
theorem dX4_movesAlike_55 : decode cX4_movesAlike 55 = .ok (.iaload, 1) := by decide +kernel
theorem dX4_movesAlike_56 : decode cX4_movesAlike 56 = .ok (.if_icmp .ne 28, 3) := by decide +kernel
theorem dX4_movesAlike_59 : decode cX4_movesAlike 59 = .ok (.aload_n 0, 1) := by decide +kernel
theorem dX4_movesAlike_60 : decode cX4_movesAlike 60 = .ok (.getfield 26, 3) := by decide +kernel
theorem dX4_movesAlike_63 : decode cX4_movesAlike 63 = .ok (.iconst 2, 1) := by decide +kernel
theorem dX4_movesAlike_64 : decode cX4_movesAlike 64 = .ok (.iload 4, 2) := by decide +kernel
theorem dX4_movesAlike_66 : decode cX4_movesAlike 66 = .ok (.imul, 1) := by decide +kernel
theorem dX4_movesAlike_67 : decode cX4_movesAlike 67 = .ok (.iconst 1, 1) := by decide +kernel
theorem dX4_movesAlike_68 : decode cX4_movesAlike 68 = .ok (.iadd, 1) := by decide +kernel
theorem dX4_movesAlike_69 : decode cX4_movesAlike 69 = .ok (.iaload, 1) := by decide +kernel
theorem dX4_movesAlike_70 : decode cX4_movesAlike 70 = .ok (.aload_n 0, 1) := by decide +kernel
theorem dX4_movesAlike_71 : decode cX4_movesAlike 71 = .ok (.getfield 26, 3) := by decide +kernel
theorem dX4_movesAlike_74 : decode cX4_movesAlike 74 = .ok (.iconst 2, 1) := by decide +kernel
theorem dX4_movesAlike_75 : decode cX4_movesAlike 75 = .ok (.iload 5, 2) := by decide +kernel
theorem dX4_movesAlike_77 : decode cX4_movesAlike 77 = .ok (.imul, 1) := by decide +kernel
theorem dX4_movesAlike_78 : decode cX4_movesAlike 78 = .ok (.iconst 1, 1) := by decide +kernel
theorem dX4_movesAlike_79 : decode cX4_movesAlike 79 = .ok (.iadd, 1) := by decide +kernel
theorem dX4_movesAlike_80 : decode cX4_movesAlike 80 = .ok (.iaload, 1) := by decide +kernel
theorem dX4_movesAlike_81 : decode cX4_movesAlike 81 = .ok (.if_icmp .eq 5, 3) := by decide +kernel
theorem dX4_movesAlike_84 : decode cX4_movesAlike 84 = .ok (.iconst 0, 1) := by decide +kernel
theorem dX4_movesAlike_85 : decode cX4_movesAlike 85 = .ok (.ireturn, 1) := by decide +kernel
theorem dX4_movesAlike_86 : decode cX4_movesAlike 86 = .ok (.iinc 3 1, 3) := by decide +kernel
theorem dX4_movesAlike_89 : decode cX4_movesAlike 89 = .ok (.goto (-87), 3) := by decide +kernel
theorem dX4_movesAlike_92 : decode cX4_movesAlike 92 = .ok (.iconst 1, 1) := by decide +kernel
theorem dX4_movesAlike_93 : decode cX4_movesAlike 93 = .ok (.ireturn, 1) := by decide +kernel
def FX4_movesAlike (G : GG) (M : DD) (a : Nat) (p0 : Int32) (p1 : Int32) : Option (DD × Int32) :=
  bnd (itr (fun (s2 : Int32 × DD) => ((if ((2 : Int32)) ≤ s2.1 then (some (.inr (.inl (s2.1, s2.2)))) else
  (bnd (FX4_at G s2.2 s2.1 p0) fun y6 =>
  bnd (FX4_at G y6.1 s2.1 p1) fun y7 =>
  dr G 13 ((y7.1.2 a 5)) fun b8 =>
  chk (¬ (y6.2 < 0 ∨ G.2.2 b8 ≤ y6.2.toNatClampNeg)) <|
  ltt (y7.1.1 b8 y6.2.toNatClampNeg) fun x9 =>
  chk (¬ (y7.2 < 0 ∨ G.2.2 b8 ≤ y7.2.toNatClampNeg)) <|
  ltt (y7.1.1 b8 y7.2.toNatClampNeg) fun x10 =>
  if x9 = x10 then (ltt ((((2 : Int32)) * y6.2)) fun x12 =>
  dr G 13 ((y7.1.2 a 7)) fun b13 =>
  chk (¬ (x12 < 0 ∨ G.2.2 b13 ≤ x12.toNatClampNeg)) <|
  ltt (y7.1.1 b13 x12.toNatClampNeg) fun x14 =>
  ltt ((((2 : Int32)) * y7.2)) fun x15 =>
  chk (¬ (x15 < 0 ∨ G.2.2 b13 ≤ x15.toNatClampNeg)) <|
  ltt (y7.1.1 b13 x15.toNatClampNeg) fun x16 =>
  if x14 = x16 then (ltt ((((2 : Int32)) * y6.2)) fun x18 =>
  ltt ((x18 + ((1 : Int32)))) fun x19 =>
  chk (¬ (x19 < 0 ∨ G.2.2 b13 ≤ x19.toNatClampNeg)) <|
  ltt (y7.1.1 b13 x19.toNatClampNeg) fun x20 =>
  ltt ((((2 : Int32)) * y7.2)) fun x21 =>
  ltt ((x21 + ((1 : Int32)))) fun x22 =>
  chk (¬ (x22 < 0 ∨ G.2.2 b13 ≤ x22.toNatClampNeg)) <|
  ltt (y7.1.1 b13 x22.toNatClampNeg) fun x23 =>
  if x20 = x23 then (ltt (s2.1 + (1 : Int32)) fun x25 =>
  some (.inl (x25, y7.1))) else
  (chk (((0 : Int32)) = 0 ∨ ((0 : Int32)) = 1) <|
  some (.inr (.inr (y7.1, (0 : Int32)))))) else
  (chk (((0 : Int32)) = 0 ∨ ((0 : Int32)) = 1) <|
  some (.inr (.inr (y7.1, (0 : Int32)))))) else
  (chk (((0 : Int32)) = 0 ∨ ((0 : Int32)) = 1) <|
  some (.inr (.inr (y7.1, (0 : Int32))))))) : Option ((Int32 × DD) ⊕ ((Int32 × DD) ⊕ (DD × Int32))))) 1000000 ((0 : Int32), M)) fun (y1 : (Int32 × DD) ⊕ (DD × Int32)) =>
  sel y1 (fun (z1k : Int32 × DD) =>
  chk (((1 : Int32)) = 0 ∨ ((1 : Int32)) = 1) <|
  some (z1k.2, (1 : Int32))) fun r9 => some r9
set_option maxHeartbeats 4000000 in
set_option maxRecDepth 100000 in
theorem kX4_movesAlike (l : Launch) (D : va_G) (ct : CT) (ad : Nat → Nat) (Z : Nat → Nat) (G : GG) (M : DD) (sz : Nat) (a : Nat) (p0 : Int32) (p1 : Int32) (y : DD × Int32) (hc : a < G.1) (hk : G.2.1 a = 4) (hF : FX4_movesAlike G M a p0 p1 = some y) : Met l yX4_movesAlike wsX4_movesAlike ({ frames := 1, cells := 0, slots := 0, locals := 21 }) (va_Pc [.ref (ad a), .int p0, .int p1] (kB D ct ad Z G M sz)) (va_Qi (fun (q : Int32) (_ : Unit) => q = y.2) (fun _ t => kE D ct ad G (wA ad G sz) y.1 t) (wA ad G sz)) 0 0 (wA ad G sz) := by
  refine Met.ofW (cc := cX4_movesAlike) (maxL := 6) (ret := (some .boolean)) (by decide) rfl ?_
  intro p e s m args below meth c s₁ B hml hv
  obtain ⟨rfl, hsz, hP, hK, hD0, hZ, hN⟩ := hv
  have hx := B.exec
  have hb := B.bytes
  have hr := B.returns
  have hts := atoms_spec (ws := wsX4_movesAlike) B.pre
  have hown : s.vm.findClass RX4 = some m.cls := findClass_of_methodNamed B.named
  have hlocks := B.notSynchronized
  subst hsz
  have hD := wD_self (sz := s.heap.size) hD0
  have hA9 : ∀ q, s.heap.size ≤ q → wA ad G s.heap.size q := fun q h => Or.inr h
  generalize hAe : wA ad G s.heap.size = A at hD hA9 hZ ⊢
  have hS : va_S A s.heap s.heap [] := va_S.rf
  have hl := lv_entry ([.ref (ad a), .int p0, .int p1]) (n := 6) (Nat.le_of_ble_eq_true rfl)
  rw [lg_entry_eq]
  generalize (lg_sl ([.ref (ad a), .int p0, .int p1]) ++ List.replicate (6 - (lg_sl ([.ref (ad a), .int p0, .int p1])).length) Slot.unset).toArray = ls at hl ⊢
  have hl : lv_has ls 6 [(0, .ref (ad a)), (1, .int p0), (2, .int p1)] := hl
  unfold FX4_movesAlike at hF
  refine lv_iconst (v := (0 : Int32)) hx hb dX4_movesAlike_0 (by decide) ?_
  refine lv_istore_n (lv' := [(3, .int (0 : Int32)), (0, .ref (ad a)), (1, .int p0), (2, .int p1)]) hx hb dX4_movesAlike_1 rfl hl (by decide) rfl (fun ls hl => ?_)
  obtain ⟨y1, hy1, hF⟩ := bnd_some hF
  have K1 : ∀ z1k : Int32 × DD, y1 = .inl z1k → ∀ (H : Heap) (locs : List Loc) (ls : Array Slot), va_P D classes (wld ct ad G z1k.2) H → va_D A (wld ct ad G z1k.2) → va_S A s.heap H locs → lv_has ls 6 [(3, .int z1k.1), (0, .ref (ad a)), (1, .int p0), (2, .int p1)] → W p l e (headSpec wsX4_movesAlike ({ frames := 1, cells := 0, slots := 0, locals := 21 })).room s m ([.ref (ad a), .int p0, .int p1] : List Value).toArray below meth c H locs 0 0 (MQ below (va_Qi (fun (q : Int32) (_ : Unit) => q = y.2) (fun _ t => kE D ct ad G A y.1 t) A) ([.ref (ad a), .int p0, .int p1] : List Value).toArray s 0 0 A) (F0 m 92 ls []) := by
    intro z1k hz1 H locs ls hP hD hS hl
    have hF := sel_inl (hz1 ▸ hF)
    refine lv_iconst (v := (1 : Int32)) hx hb dX4_movesAlike_92 (by decide) ?_
    obtain ⟨hz9, hF⟩ := chk_some hF
    obtain rfl := Option.some.inj hF
    exact W.zret (v := (1 : Int32)) (ty := .boolean) hx hb hr (nar_z hz9).1 (fun t ht hW => ⟨⟨_, (), rfl, rfl, ⟨by rw [ht]; exact hP, va_K.moved hW.alike hK, hD⟩⟩, hS.F ht⟩) hS.2.2 dX4_movesAlike_93
  have hR1 := hF
  clear hF
  refine itr_rule (fun (s2 : Int32 × DD) => ∀ (H : Heap) (locs : List Loc) (ls : Array Slot), va_P D classes (wld ct ad G s2.2) H → va_D A (wld ct ad G s2.2) → va_S A s.heap H locs → lv_has ls 6 [(3, .int s2.1), (0, .ref (ad a)), (1, .int p0), (2, .int p1)] → W p l e (headSpec wsX4_movesAlike ({ frames := 1, cells := 0, slots := 0, locals := 21 })).room s m ([.ref (ad a), .int p0, .int p1] : List Value).toArray below meth c H locs 0 0 (MQ below (va_Qi (fun (q : Int32) (_ : Unit) => q = y.2) (fun _ t => kE D ct ad G A y.1 t) A) ([.ref (ad a), .int p0, .int p1] : List Value).toArray s 0 0 A) (F0 m 2 ls [])) ?_ _ _ hy1 _ _ _ hP hD hS (lv_sub hl [0, 1, 2, 3] rfl)
  rintro s2 ⟨z4, hF, hwz4⟩ H locs ls hP hD hS hl
  try dsimp only at hF
  refine lv_iload_n hx hb dX4_movesAlike_2 rfl (lv_at hl 0 rfl) ?_
  refine lv_iconst (v := (2 : Int32)) hx hb dX4_movesAlike_3 (by decide) ?_
  refine lv_icmp_ge (tgt := 92) hx hb dX4_movesAlike_4 (by decide) (fun c5 => ?_) (fun c5 => ?_)
  · rw [if_pos c5] at hF
    obtain rfl := Option.some.inj hF
    exact K1 _ hwz4.symm _ _ _ hP hD hS (lv_sub hl [0, 1, 2, 3] rfl)
  · rw [if_neg c5] at hF
    refine lv_iload_n hx hb dX4_movesAlike_7 rfl (lv_at hl 0 rfl) ?_
    refine lv_iload_n hx hb dX4_movesAlike_8 rfl (lv_at hl 2 rfl) ?_
    obtain ⟨y6, hy6, hF⟩ := bnd_some hF
    have hf9 := wA_in hD hA9 hS
    refine va_calli (va_runS (As := [.int s2.1, .int p0]) (rest := []) ⟨hx, hb, hml, hown, hts⟩ (kX4_at l D ct ad Z G s2.2 H.size s2.1 p0 y6 hy6) (va_cwS 2 hts gX4_movesAlike_X4_at rfl rfl rfl (by decide +kernel) ⟨Nat.le_of_ble_eq_true rfl, Nat.le_of_ble_eq_true rfl⟩) ⟨fun a U g mk q => by obtain ⟨q0, q1, qP, qK, qD, qZ, qN⟩ := q; exact ⟨q0, q1, qP, va_K.moved (u := U) (U := U.calling g mk a) (Vm.Alike.refl U.vm) qK, qD, sF.moved (u := U) (U := U.calling g mk a) (Vm.Alike.refl U.vm) qZ, nF.same rfl qN⟩, fun U hU hW => ⟨rfl, by rw [hU], by rw [hU]; exact hP, va_K.moved hW.alike hK, hD.weaken (fun _ _ _ _ => trivial), by rw [hU]; exact ((hZ.kept hS.2.1).narrow hf9).moved hW.alike, hN.warm hW⟩⟩ rfl rfl hl.1 rfl (lv_room (Nat.le_of_ble_eq_true rfl)) dX4_movesAlike_9 ⟨(Nat.zero_le _), (Nat.zero_le _)⟩) hS (fun q _ h => hf9 q h) hf9 (fun r u t H locs ht hvm hw hB hz1 hk1 hS => ?_)
    obtain ⟨hP, hK9, hD9⟩ := hB
    rw [ht] at hP
    try dsimp only at hw
    subst hw
    have hD := hD9.weaken (fun _ q _ h => hf9 q.1 h)
    refine lv_istore (lv' := [(4, .int y6.2), (3, .int s2.1), (0, .ref (ad a)), (1, .int p0), (2, .int p1)]) hx hb dX4_movesAlike_12 hl (by decide) rfl (fun ls hl => ?_)
    refine lv_iload_n hx hb dX4_movesAlike_14 rfl (lv_at hl 1 rfl) ?_
    refine lv_iload_n hx hb dX4_movesAlike_15 rfl (lv_at hl 4 rfl) ?_
    obtain ⟨y7, hy7, hF⟩ := bnd_some hF
    have hf9 := wA_in hD hA9 hS
    refine va_calli (va_runS (As := [.int s2.1, .int p1]) (rest := []) ⟨hx, hb, hml, hown, hts⟩ (kX4_at l D ct ad Z G y6.1 H.size s2.1 p1 y7 hy7) (va_cwS 2 hts gX4_movesAlike_X4_at rfl rfl rfl (by decide +kernel) ⟨Nat.le_of_ble_eq_true rfl, Nat.le_of_ble_eq_true rfl⟩) ⟨fun a U g mk q => by obtain ⟨q0, q1, qP, qK, qD, qZ, qN⟩ := q; exact ⟨q0, q1, qP, va_K.moved (u := U) (U := U.calling g mk a) (Vm.Alike.refl U.vm) qK, qD, sF.moved (u := U) (U := U.calling g mk a) (Vm.Alike.refl U.vm) qZ, nF.same rfl qN⟩, fun U hU hW => ⟨rfl, by rw [hU], by rw [hU]; exact hP, va_K.moved hW.alike hK, hD.weaken (fun _ _ _ _ => trivial), by rw [hU]; exact ((hZ.kept hS.2.1).narrow hf9).moved hW.alike, hN.warm hW⟩⟩ rfl rfl hl.1 rfl (lv_room (Nat.le_of_ble_eq_true rfl)) dX4_movesAlike_16 ⟨(Nat.zero_le _), (Nat.zero_le _)⟩) hS (fun q _ h => hf9 q h) hf9 (fun r u t H locs ht hvm hw hB hz1 hk1 hS => ?_)
    obtain ⟨hP, hK9, hD9⟩ := hB
    rw [ht] at hP
    try dsimp only at hw
    subst hw
    have hD := hD9.weaken (fun _ q _ h => hf9 q.1 h)
    refine lv_istore (lv' := [(5, .int y7.2), (4, .int y6.2), (3, .int s2.1), (0, .ref (ad a)), (1, .int p0), (2, .int p1)]) hx hb dX4_movesAlike_19 hl (by decide) rfl (fun ls hl => ?_)
    refine lv_aload_n hx hb dX4_movesAlike_21 rfl (lv_at hl 3 rfl) ?_
    refine va_get (D := D) (ci := 4) (v := va_re ad (y7.1.2 a 5)) (C := RX4) (T := TX4) (N := 18) hx hb hts (by decide +kernel) hown hK hP a (wld_o ct ad G y7.1 hc hk (by decide)) rfl 5 (by decide) (hts (.fieldLink RX4 20 "VideoSuite$Picture" "reference" "[I") (by decide +kernel)) (fun _ h9 => h9) rfl dX4_movesAlike_22 ?_
    refine lv_iload hx hb dX4_movesAlike_25 (lv_at hl 1 rfl) ?_
    obtain ⟨b8, ho8, hc8, hk8, hF⟩ := dr_some hF
    refine W_st (st' := [.int y6.2, .ref (ad b8)]) (by rw [va_some ho8]) ?_
    obtain ⟨hvc, hF⟩ := chk_some hF
    refine va_iald hx hb hK hP b8 1 (wld_i ct ad G y7.1 hc8 hk8) rfl hvc dX4_movesAlike_27 ?_
    obtain ⟨x9, ex9, hF⟩ := ltt_some hF
    refine lv_topi (fun zx9 ezx9 => ?_)
    obtain rfl : x9 = zx9 := ex9.trans ezx9.symm
    refine lv_aload_n hx hb dX4_movesAlike_28 rfl (lv_at hl 3 rfl) ?_
    refine va_get (D := D) (ci := 4) (v := va_re ad (y7.1.2 a 5)) (C := RX4) (T := TX4) (N := 18) hx hb hts (by decide +kernel) hown hK hP a (wld_o ct ad G y7.1 hc hk (by decide)) rfl 5 (by decide) (hts (.fieldLink RX4 20 "VideoSuite$Picture" "reference" "[I") (by decide +kernel)) (fun _ h9 => h9) rfl dX4_movesAlike_29 ?_
    refine lv_iload hx hb dX4_movesAlike_32 (lv_at hl 0 rfl) ?_
    refine W_st (st' := [.int y7.2, .ref (ad b8), .int x9]) (by rw [va_some ho8]) ?_
    obtain ⟨hvc, hF⟩ := chk_some hF
    refine va_iald hx hb hK hP b8 1 (wld_i ct ad G y7.1 hc8 hk8) rfl hvc dX4_movesAlike_34 ?_
    obtain ⟨x10, ex10, hF⟩ := ltt_some hF
    refine lv_topi (fun zx10 ezx10 => ?_)
    obtain rfl : x10 = zx10 := ex10.trans ezx10.symm
    refine lv_icmp_ne (tgt := 84) hx hb dX4_movesAlike_35 (by decide) (fun c11 => ?_) (fun c11 => ?_)
    · rw [if_neg c11] at hF
      refine lv_iconst (v := (0 : Int32)) hx hb dX4_movesAlike_84 (by decide) ?_
      obtain ⟨hz9, hF⟩ := chk_some hF
      obtain rfl := Option.some.inj hF
      have hF := sel_inr (hwz4 ▸ hR1)
      obtain rfl := Option.some.inj hF
      exact W.zret (v := (0 : Int32)) (ty := .boolean) hx hb hr (nar_z hz9).1 (fun t ht hW => ⟨⟨_, (), rfl, rfl, ⟨by rw [ht]; exact hP, va_K.moved hW.alike hK, hD⟩⟩, hS.F ht⟩) hS.2.2 dX4_movesAlike_85
    · rw [if_pos c11] at hF
      refine lv_aload_n hx hb dX4_movesAlike_38 rfl (lv_at hl 3 rfl) ?_
      refine va_get (D := D) (ci := 4) (v := va_re ad (y7.1.2 a 7)) (C := RX4) (T := TX4) (N := 18) hx hb hts (by decide +kernel) hown hK hP a (wld_o ct ad G y7.1 hc hk (by decide)) rfl 7 (by decide) (hts (.fieldLink RX4 26 "VideoSuite$Picture" "move" "[I") (by decide +kernel)) (fun _ h9 => h9) rfl dX4_movesAlike_39 ?_
      refine lv_iconst (v := (2 : Int32)) hx hb dX4_movesAlike_42 (by decide) ?_
      refine lv_iload hx hb dX4_movesAlike_43 (lv_at hl 1 rfl) ?_
      refine lv_imul hx hb dX4_movesAlike_45 ?_
      obtain ⟨x12, ex12, hF⟩ := ltt_some hF
      refine lv_topi (fun zx12 ezx12 => ?_)
      obtain rfl : x12 = zx12 := ex12.trans ezx12.symm
      obtain ⟨b13, ho13, hc13, hk13, hF⟩ := dr_some hF
      refine W_st (st' := [.int x12, .ref (ad b13)]) (by rw [va_some ho13]) ?_
      obtain ⟨hvc, hF⟩ := chk_some hF
      refine va_iald hx hb hK hP b13 1 (wld_i ct ad G y7.1 hc13 hk13) rfl hvc dX4_movesAlike_46 ?_
      obtain ⟨x14, ex14, hF⟩ := ltt_some hF
      refine lv_topi (fun zx14 ezx14 => ?_)
      obtain rfl : x14 = zx14 := ex14.trans ezx14.symm
      refine lv_aload_n hx hb dX4_movesAlike_47 rfl (lv_at hl 3 rfl) ?_
      refine va_get (D := D) (ci := 4) (v := va_re ad (y7.1.2 a 7)) (C := RX4) (T := TX4) (N := 18) hx hb hts (by decide +kernel) hown hK hP a (wld_o ct ad G y7.1 hc hk (by decide)) rfl 7 (by decide) (hts (.fieldLink RX4 26 "VideoSuite$Picture" "move" "[I") (by decide +kernel)) (fun _ h9 => h9) rfl dX4_movesAlike_48 ?_
      refine lv_iconst (v := (2 : Int32)) hx hb dX4_movesAlike_51 (by decide) ?_
      refine lv_iload hx hb dX4_movesAlike_52 (lv_at hl 0 rfl) ?_
      refine lv_imul hx hb dX4_movesAlike_54 ?_
      obtain ⟨x15, ex15, hF⟩ := ltt_some hF
      refine lv_topi (fun zx15 ezx15 => ?_)
      obtain rfl : x15 = zx15 := ex15.trans ezx15.symm
      refine W_st (st' := [.int x15, .ref (ad b13), .int x14]) (by rw [va_some ho13]) ?_
      obtain ⟨hvc, hF⟩ := chk_some hF
      refine va_iald hx hb hK hP b13 1 (wld_i ct ad G y7.1 hc13 hk13) rfl hvc dX4_movesAlike_55 ?_
      obtain ⟨x16, ex16, hF⟩ := ltt_some hF
      refine lv_topi (fun zx16 ezx16 => ?_)
      obtain rfl : x16 = zx16 := ex16.trans ezx16.symm
      refine lv_icmp_ne (tgt := 84) hx hb dX4_movesAlike_56 (by decide) (fun c17 => ?_) (fun c17 => ?_)
      · rw [if_neg c17] at hF
        refine lv_iconst (v := (0 : Int32)) hx hb dX4_movesAlike_84 (by decide) ?_
        obtain ⟨hz9, hF⟩ := chk_some hF
        obtain rfl := Option.some.inj hF
        have hF := sel_inr (hwz4 ▸ hR1)
        obtain rfl := Option.some.inj hF
        exact W.zret (v := (0 : Int32)) (ty := .boolean) hx hb hr (nar_z hz9).1 (fun t ht hW => ⟨⟨_, (), rfl, rfl, ⟨by rw [ht]; exact hP, va_K.moved hW.alike hK, hD⟩⟩, hS.F ht⟩) hS.2.2 dX4_movesAlike_85
      · rw [if_pos c17] at hF
        refine lv_aload_n hx hb dX4_movesAlike_59 rfl (lv_at hl 3 rfl) ?_
        refine va_get (D := D) (ci := 4) (v := va_re ad (y7.1.2 a 7)) (C := RX4) (T := TX4) (N := 18) hx hb hts (by decide +kernel) hown hK hP a (wld_o ct ad G y7.1 hc hk (by decide)) rfl 7 (by decide) (hts (.fieldLink RX4 26 "VideoSuite$Picture" "move" "[I") (by decide +kernel)) (fun _ h9 => h9) rfl dX4_movesAlike_60 ?_
        refine lv_iconst (v := (2 : Int32)) hx hb dX4_movesAlike_63 (by decide) ?_
        refine lv_iload hx hb dX4_movesAlike_64 (lv_at hl 1 rfl) ?_
        refine lv_imul hx hb dX4_movesAlike_66 ?_
        obtain ⟨x18, ex18, hF⟩ := ltt_some hF
        refine lv_topi (fun zx18 ezx18 => ?_)
        obtain rfl : x18 = zx18 := ex18.trans ezx18.symm
        refine lv_iconst (v := (1 : Int32)) hx hb dX4_movesAlike_67 (by decide) ?_
        refine lv_iadd hx hb dX4_movesAlike_68 ?_
        obtain ⟨x19, ex19, hF⟩ := ltt_some hF
        refine lv_topi (fun zx19 ezx19 => ?_)
        obtain rfl : x19 = zx19 := ex19.trans ezx19.symm
        refine W_st (st' := [.int x19, .ref (ad b13)]) (by rw [va_some ho13]) ?_
        obtain ⟨hvc, hF⟩ := chk_some hF
        refine va_iald hx hb hK hP b13 1 (wld_i ct ad G y7.1 hc13 hk13) rfl hvc dX4_movesAlike_69 ?_
        obtain ⟨x20, ex20, hF⟩ := ltt_some hF
        refine lv_topi (fun zx20 ezx20 => ?_)
        obtain rfl : x20 = zx20 := ex20.trans ezx20.symm
        refine lv_aload_n hx hb dX4_movesAlike_70 rfl (lv_at hl 3 rfl) ?_
        refine va_get (D := D) (ci := 4) (v := va_re ad (y7.1.2 a 7)) (C := RX4) (T := TX4) (N := 18) hx hb hts (by decide +kernel) hown hK hP a (wld_o ct ad G y7.1 hc hk (by decide)) rfl 7 (by decide) (hts (.fieldLink RX4 26 "VideoSuite$Picture" "move" "[I") (by decide +kernel)) (fun _ h9 => h9) rfl dX4_movesAlike_71 ?_
        refine lv_iconst (v := (2 : Int32)) hx hb dX4_movesAlike_74 (by decide) ?_
        refine lv_iload hx hb dX4_movesAlike_75 (lv_at hl 0 rfl) ?_
        refine lv_imul hx hb dX4_movesAlike_77 ?_
        obtain ⟨x21, ex21, hF⟩ := ltt_some hF
        refine lv_topi (fun zx21 ezx21 => ?_)
        obtain rfl : x21 = zx21 := ex21.trans ezx21.symm
        refine lv_iconst (v := (1 : Int32)) hx hb dX4_movesAlike_78 (by decide) ?_
        refine lv_iadd hx hb dX4_movesAlike_79 ?_
        obtain ⟨x22, ex22, hF⟩ := ltt_some hF
        refine lv_topi (fun zx22 ezx22 => ?_)
        obtain rfl : x22 = zx22 := ex22.trans ezx22.symm
        refine W_st (st' := [.int x22, .ref (ad b13), .int x20]) (by rw [va_some ho13]) ?_
        obtain ⟨hvc, hF⟩ := chk_some hF
        refine va_iald hx hb hK hP b13 1 (wld_i ct ad G y7.1 hc13 hk13) rfl hvc dX4_movesAlike_80 ?_
        obtain ⟨x23, ex23, hF⟩ := ltt_some hF
        refine lv_topi (fun zx23 ezx23 => ?_)
        obtain rfl : x23 = zx23 := ex23.trans ezx23.symm
        refine lv_icmp_eq (tgt := 86) hx hb dX4_movesAlike_81 (by decide) (fun c24 => ?_) (fun c24 => ?_)
        · rw [if_pos c24] at hF
          obtain ⟨x25, ex25, hF⟩ := ltt_some hF
          refine lv_iinc (v := x25) (lv' := [(3, .int x25), (5, .int y7.2), (4, .int y6.2), (0, .ref (ad a)), (1, .int p0), (2, .int p1)]) hx hb dX4_movesAlike_86 hl (k := 2) rfl (by rw [ex25]; rfl) (by decide) rfl (fun ls hl => ?_)
          refine lv_goto (tgt := 2) hx hb dX4_movesAlike_89 (by decide) ?_
          obtain rfl := Option.some.inj hF
          exact hwz4 _ _ _ hP hD hS (lv_sub hl [0, 3, 4, 5] rfl)
        · rw [if_neg c24] at hF
          refine lv_iconst (v := (0 : Int32)) hx hb dX4_movesAlike_84 (by decide) ?_
          obtain ⟨hz9, hF⟩ := chk_some hF
          obtain rfl := Option.some.inj hF
          have hF := sel_inr (hwz4 ▸ hR1)
          obtain rfl := Option.some.inj hF
          exact W.zret (v := (0 : Int32)) (ty := .boolean) hx hb hr (nar_z hz9).1 (fun t ht hW => ⟨⟨_, (), rfl, rfl, ⟨by rw [ht]; exact hP, va_K.moved hW.alike hK, hD⟩⟩, hS.F ht⟩) hS.2.2 dX4_movesAlike_85
theorem ggX4_movesApart_X4_farApart : GoodIn wsX4_movesApart wsX4_farApart := goodIn_r _ [6, 7, 8, 9, 10, 11, 12, 13, 14, 15, 16, 17, 18, 19, 20, 21, 22, 23, 24, 25] (by decide +kernel) (by decide +kernel)
set_option maxRecDepth 20000 in
theorem gX4_movesApart_X4_farApart : GoodIn wsX4_movesApart (wsV RX4 97 RX4 yX4_farApart wsX4_farApart) := goodIn_app (goodIn_of _ (by decide +kernel)) ggX4_movesApart_X4_farApart
theorem dX4_movesApart_0 : decode cX4_movesApart 0 = .ok (.aload_n 0, 1) := by decide +kernel
theorem dX4_movesApart_1 : decode cX4_movesApart 1 = .ok (.getfield 23, 3) := by decide +kernel
theorem dX4_movesApart_4 : decode cX4_movesApart 4 = .ok (.iload_n 1, 1) := by decide +kernel
theorem dX4_movesApart_5 : decode cX4_movesApart 5 = .ok (.iaload, 1) := by decide +kernel
theorem dX4_movesApart_6 : decode cX4_movesApart 6 = .ok (.istore_n 3, 1) := by decide +kernel
theorem dX4_movesApart_7 : decode cX4_movesApart 7 = .ok (.aload_n 0, 1) := by decide +kernel
theorem dX4_movesApart_8 : decode cX4_movesApart 8 = .ok (.getfield 23, 3) := by decide +kernel
theorem dX4_movesApart_11 : decode cX4_movesApart 11 = .ok (.sipush 512, 3) := by decide +kernel
theorem dX4_movesApart_14 : decode cX4_movesApart 14 = .ok (.iload_n 1, 1) := by decide +kernel
theorem dX4_movesApart_15 : decode cX4_movesApart 15 = .ok (.iadd, 1) := by decide +kernel
theorem dX4_movesApart_16 : decode cX4_movesApart 16 = .ok (.iaload, 1) := by decide +kernel
theorem dX4_movesApart_17 : decode cX4_movesApart 17 = .ok (.istore 4, 2) := by decide +kernel
theorem dX4_movesApart_19 : decode cX4_movesApart 19 = .ok (.aload_n 0, 1) := by decide +kernel
theorem dX4_movesApart_20 : decode cX4_movesApart 20 = .ok (.getfield 23, 3) := by decide +kernel
theorem dX4_movesApart_23 : decode cX4_movesApart 23 = .ok (.iload_n 2, 1) := by decide +kernel
theorem dX4_movesApart_24 : decode cX4_movesApart 24 = .ok (.iaload, 1) := by decide +kernel
theorem dX4_movesApart_25 : decode cX4_movesApart 25 = .ok (.istore 5, 2) := by decide +kernel
theorem dX4_movesApart_27 : decode cX4_movesApart 27 = .ok (.aload_n 0, 1) := by decide +kernel
theorem dX4_movesApart_28 : decode cX4_movesApart 28 = .ok (.getfield 23, 3) := by decide +kernel
theorem dX4_movesApart_31 : decode cX4_movesApart 31 = .ok (.sipush 512, 3) := by decide +kernel
theorem dX4_movesApart_34 : decode cX4_movesApart 34 = .ok (.iload_n 2, 1) := by decide +kernel
theorem dX4_movesApart_35 : decode cX4_movesApart 35 = .ok (.iadd, 1) := by decide +kernel
theorem dX4_movesApart_36 : decode cX4_movesApart 36 = .ok (.iaload, 1) := by decide +kernel
theorem dX4_movesApart_37 : decode cX4_movesApart 37 = .ok (.istore 6, 2) := by decide +kernel
theorem dX4_movesApart_39 : decode cX4_movesApart 39 = .ok (.iload_n 3, 1) := by decide +kernel
theorem dX4_movesApart_40 : decode cX4_movesApart 40 = .ok (.iload 5, 2) := by decide +kernel
theorem dX4_movesApart_42 : decode cX4_movesApart 42 = .ok (.if_icmp .ne 14, 3) := by decide +kernel
theorem dX4_movesApart_45 : decode cX4_movesApart 45 = .ok (.iload 4, 2) := by decide +kernel
theorem dX4_movesApart_47 : decode cX4_movesApart 47 = .ok (.iload 6, 2) := by decide +kernel
theorem dX4_movesApart_49 : decode cX4_movesApart 49 = .ok (.if_icmp .ne 7, 3) := by decide +kernel
theorem dX4_movesApart_52 : decode cX4_movesApart 52 = .ok (.iconst 1, 1) := by decide +kernel
theorem dX4_movesApart_53 : decode cX4_movesApart 53 = .ok (.goto 4, 3) := by decide +kernel
theorem dX4_movesApart_56 : decode cX4_movesApart 56 = .ok (.iconst 0, 1) := by decide +kernel
theorem dX4_movesApart_57 : decode cX4_movesApart 57 = .ok (.istore 7, 2) := by decide +kernel
theorem dX4_movesApart_59 : decode cX4_movesApart 59 = .ok (.iload_n 3, 1) := by decide +kernel
theorem dX4_movesApart_60 : decode cX4_movesApart 60 = .ok (.iload 6, 2) := by decide +kernel
theorem dX4_movesApart_62 : decode cX4_movesApart 62 = .ok (.if_icmp .ne 14, 3) := by decide +kernel
theorem dX4_movesApart_65 : decode cX4_movesApart 65 = .ok (.iload 4, 2) := by decide +kernel
theorem dX4_movesApart_67 : decode cX4_movesApart 67 = .ok (.iload 5, 2) := by decide +kernel
theorem dX4_movesApart_69 : decode cX4_movesApart 69 = .ok (.if_icmp .ne 7, 3) := by decide +kernel
theorem dX4_movesApart_72 : decode cX4_movesApart 72 = .ok (.iconst 1, 1) := by decide +kernel
theorem dX4_movesApart_73 : decode cX4_movesApart 73 = .ok (.goto 4, 3) := by decide +kernel
theorem dX4_movesApart_76 : decode cX4_movesApart 76 = .ok (.iconst 0, 1) := by decide +kernel
theorem dX4_movesApart_77 : decode cX4_movesApart 77 = .ok (.istore 8, 2) := by decide +kernel
theorem dX4_movesApart_79 : decode cX4_movesApart 79 = .ok (.iload_n 3, 1) := by decide +kernel
theorem dX4_movesApart_80 : decode cX4_movesApart 80 = .ok (.ifCond .eq 12, 3) := by decide +kernel
theorem dX4_movesApart_83 : decode cX4_movesApart 83 = .ok (.aload_n 0, 1) := by decide +kernel
theorem dX4_movesApart_84 : decode cX4_movesApart 84 = .ok (.iload_n 1, 1) := by decide +kernel
theorem dX4_movesApart_85 : decode cX4_movesApart 85 = .ok (.iload_n 2, 1) := by decide +kernel
theorem dX4_movesApart_86 : decode cX4_movesApart 86 = .ok (.invokevirtual 97, 3) := by decide +kernel
theorem dX4_movesApart_89 : decode cX4_movesApart 89 = .ok (.ifCond .ne 25, 3) := by decide +kernel
theorem dX4_movesApart_92 : decode cX4_movesApart 92 = .ok (.iload 4, 2) := by decide +kernel
theorem dX4_movesApart_94 : decode cX4_movesApart 94 = .ok (.ifCond .eq 24, 3) := by decide +kernel
theorem dX4_movesApart_97 : decode cX4_movesApart 97 = .ok (.aload_n 0, 1) := by decide +kernel
theorem dX4_movesApart_98 : decode cX4_movesApart 98 = .ok (.sipush 512, 3) := by decide +kernel
theorem dX4_movesApart_101 : decode cX4_movesApart 101 = .ok (.iload_n 1, 1) := by decide +kernel
theorem dX4_movesApart_102 : decode cX4_movesApart 102 = .ok (.iadd, 1) := by decide +kernel
theorem dX4_movesApart_103 : decode cX4_movesApart 103 = .ok (.sipush 512, 3) := by decide +kernel
theorem dX4_movesApart_106 : decode cX4_movesApart 106 = .ok (.iload_n 2, 1) := by decide +kernel
theorem dX4_movesApart_107 : decode cX4_movesApart 107 = .ok (.iadd, 1) := by decide +kernel
theorem dX4_movesApart_108 : decode cX4_movesApart 108 = .ok (.invokevirtual 97, 3) := by decide +kernel
theorem dX4_movesApart_111 : decode cX4_movesApart 111 = .ok (.ifCond .eq 7, 3) := by decide +kernel
theorem dX4_movesApart_114 : decode cX4_movesApart 114 = .ok (.iconst 1, 1) := by decide +kernel
theorem dX4_movesApart_115 : decode cX4_movesApart 115 = .ok (.goto 4, 3) := by decide +kernel
theorem dX4_movesApart_118 : decode cX4_movesApart 118 = .ok (.iconst 0, 1) := by decide +kernel
theorem dX4_movesApart_119 : decode cX4_movesApart 119 = .ok (.istore 9, 2) := by decide +kernel
theorem dX4_movesApart_121 : decode cX4_movesApart 121 = .ok (.iload_n 3, 1) := by decide +kernel
theorem dX4_movesApart_122 : decode cX4_movesApart 122 = .ok (.ifCond .eq 16, 3) := by decide +kernel
theorem dX4_movesApart_125 : decode cX4_movesApart 125 = .ok (.aload_n 0, 1) := by decide +kernel
theorem dX4_movesApart_126 : decode cX4_movesApart 126 = .ok (.iload_n 1, 1) := by decide +kernel
theorem dX4_movesApart_127 : decode cX4_movesApart 127 = .ok (.sipush 512, 3) := by decide +kernel
theorem dX4_movesApart_130 : decode cX4_movesApart 130 = .ok (.iload_n 2, 1) := by decide +kernel
theorem dX4_movesApart_131 : decode cX4_movesApart 131 = .ok (.iadd, 1) := by decide +kernel
theorem dX4_movesApart_132 : decode cX4_movesApart 132 = .ok (.invokevirtual 97, 3) := by decide +kernel
theorem dX4_movesApart_135 : decode cX4_movesApart 135 = .ok (.ifCond .ne 21, 3) := by decide +kernel
theorem dX4_movesApart_138 : decode cX4_movesApart 138 = .ok (.iload 4, 2) := by decide +kernel
theorem dX4_movesApart_140 : decode cX4_movesApart 140 = .ok (.ifCond .eq 20, 3) := by decide +kernel
theorem dX4_movesApart_143 : decode cX4_movesApart 143 = .ok (.aload_n 0, 1) := by decide +kernel
theorem dX4_movesApart_144 : decode cX4_movesApart 144 = .ok (.sipush 512, 3) := by decide +kernel
theorem dX4_movesApart_147 : decode cX4_movesApart 147 = .ok (.iload_n 1, 1) := by decide +kernel
theorem dX4_movesApart_148 : decode cX4_movesApart 148 = .ok (.iadd, 1) := by decide +kernel
theorem dX4_movesApart_149 : decode cX4_movesApart 149 = .ok (.iload_n 2, 1) := by decide +kernel
theorem dX4_movesApart_150 : decode cX4_movesApart 150 = .ok (.invokevirtual 97, 3) := by decide +kernel
theorem dX4_movesApart_153 : decode cX4_movesApart 153 = .ok (.ifCond .eq 7, 3) := by decide +kernel
theorem dX4_movesApart_156 : decode cX4_movesApart 156 = .ok (.iconst 1, 1) := by decide +kernel
theorem dX4_movesApart_157 : decode cX4_movesApart 157 = .ok (.goto 4, 3) := by decide +kernel
theorem dX4_movesApart_160 : decode cX4_movesApart 160 = .ok (.iconst 0, 1) := by decide +kernel
theorem dX4_movesApart_161 : decode cX4_movesApart 161 = .ok (.istore 10, 2) := by decide +kernel
theorem dX4_movesApart_163 : decode cX4_movesApart 163 = .ok (.iload 7, 2) := by decide +kernel
theorem dX4_movesApart_165 : decode cX4_movesApart 165 = .ok (.ifCond .eq 8, 3) := by decide +kernel
theorem dX4_movesApart_168 : decode cX4_movesApart 168 = .ok (.iload 9, 2) := by decide +kernel
theorem dX4_movesApart_170 : decode cX4_movesApart 170 = .ok (.ifCond .eq 17, 3) := by decide +kernel
theorem dX4_movesApart_173 : decode cX4_movesApart 173 = .ok (.iload 8, 2) := by decide +kernel
theorem dX4_movesApart_175 : decode cX4_movesApart 175 = .ok (.ifCond .eq 8, 3) := by decide +kernel
theorem dX4_movesApart_178 : decode cX4_movesApart 178 = .ok (.iload 10, 2) := by decide +kernel
theorem dX4_movesApart_180 : decode cX4_movesApart 180 = .ok (.ifCond .eq 7, 3) := by decide +kernel
theorem dX4_movesApart_183 : decode cX4_movesApart 183 = .ok (.iconst 1, 1) := by decide +kernel
theorem dX4_movesApart_184 : decode cX4_movesApart 184 = .ok (.goto 4, 3) := by decide +kernel
theorem dX4_movesApart_187 : decode cX4_movesApart 187 = .ok (.iconst 0, 1) := by decide +kernel
theorem dX4_movesApart_188 : decode cX4_movesApart 188 = .ok (.ireturn, 1) := by decide +kernel
def FX4_movesApart (G : GG) (M : DD) (a : Nat) (p0 : Int32) (p1 : Int32) : Option (DD × Int32) :=
  dr G 13 ((M.2 a 6)) fun b1 =>
  chk (¬ (p0 < 0 ∨ G.2.2 b1 ≤ p0.toNatClampNeg)) <|
  ltt (M.1 b1 p0.toNatClampNeg) fun x2 =>
  ltt ((((512 : Int32)) + p0)) fun x3 =>
  chk (¬ (x3 < 0 ∨ G.2.2 b1 ≤ x3.toNatClampNeg)) <|
  ltt (M.1 b1 x3.toNatClampNeg) fun x4 =>
  chk (¬ (p1 < 0 ∨ G.2.2 b1 ≤ p1.toNatClampNeg)) <|
  ltt (M.1 b1 p1.toNatClampNeg) fun x5 =>
  ltt ((((512 : Int32)) + p1)) fun x6 =>
  chk (¬ (x6 < 0 ∨ G.2.2 b1 ≤ x6.toNatClampNeg)) <|
  ltt (M.1 b1 x6.toNatClampNeg) fun x7 =>
  bnd (if x2 = x5 then (bnd (if x4 = x7 then (some ((1 : Int32))) else
  (some ((0 : Int32)))) fun (y63 : Int32) =>
  some (y63)) else
  (some ((0 : Int32)))) fun (y8 : Int32) =>
  bnd (if x2 = x7 then (bnd (if x4 = x5 then (some ((1 : Int32))) else
  (some ((0 : Int32)))) fun (y60 : Int32) =>
  some (y60)) else
  (some ((0 : Int32)))) fun (y9 : Int32) =>
  bnd (if x2 = ((0 : Int32)) then (bnd (if x4 = ((0 : Int32)) then (some ((0 : Int32), M)) else
  (ltt ((((512 : Int32)) + p0)) fun x44 =>
  ltt ((((512 : Int32)) + p1)) fun x45 =>
  bnd (FX4_farApart G M a x44 x45) fun y46 =>
  bnd (if y46.2 = ((0 : Int32)) then (some ((0 : Int32))) else
  (some ((1 : Int32)))) fun (y47 : Int32) =>
  some (y47, y46.1))) fun (y42 : Int32 × DD) =>
  some (y42.1, y42.2)) else
  (bnd (FX4_farApart G M a p0 p1) fun y49 =>
  bnd (if y49.2 = ((0 : Int32)) then (bnd (if x4 = ((0 : Int32)) then (some ((0 : Int32), y49.1)) else
  (ltt ((((512 : Int32)) + p0)) fun x54 =>
  ltt ((((512 : Int32)) + p1)) fun x55 =>
  bnd (FX4_farApart G y49.1 a x54 x55) fun y56 =>
  bnd (if y56.2 = ((0 : Int32)) then (some ((0 : Int32))) else
  (some ((1 : Int32)))) fun (y57 : Int32) =>
  some (y57, y56.1))) fun (y52 : Int32 × DD) =>
  some (y52.1, y52.2)) else
  (some ((1 : Int32), y49.1))) fun (y50 : Int32 × DD) =>
  some (y50.1, y50.2))) fun (y10 : Int32 × DD) =>
  bnd (if x2 = ((0 : Int32)) then (bnd (if x4 = ((0 : Int32)) then (some ((0 : Int32), y10.2)) else
  (ltt ((((512 : Int32)) + p0)) fun x27 =>
  bnd (FX4_farApart G y10.2 a x27 p1) fun y28 =>
  bnd (if y28.2 = ((0 : Int32)) then (some ((0 : Int32))) else
  (some ((1 : Int32)))) fun (y29 : Int32) =>
  some (y29, y28.1))) fun (y25 : Int32 × DD) =>
  some (y25.1, y25.2)) else
  (ltt ((((512 : Int32)) + p1)) fun x31 =>
  bnd (FX4_farApart G y10.2 a p0 x31) fun y32 =>
  bnd (if y32.2 = ((0 : Int32)) then (bnd (if x4 = ((0 : Int32)) then (some ((0 : Int32), y32.1)) else
  (ltt ((((512 : Int32)) + p0)) fun x37 =>
  bnd (FX4_farApart G y32.1 a x37 p1) fun y38 =>
  bnd (if y38.2 = ((0 : Int32)) then (some ((0 : Int32))) else
  (some ((1 : Int32)))) fun (y39 : Int32) =>
  some (y39, y38.1))) fun (y35 : Int32 × DD) =>
  some (y35.1, y35.2)) else
  (some ((1 : Int32), y32.1))) fun (y33 : Int32 × DD) =>
  some (y33.1, y33.2))) fun (y11 : Int32 × DD) =>
  bnd (if y8 = ((0 : Int32)) then (bnd (if y9 = ((0 : Int32)) then (some ((1 : Int32))) else
  (bnd (if y11.1 = ((0 : Int32)) then (some ((0 : Int32))) else
  (some ((1 : Int32)))) fun (y16 : Int32) =>
  some (y16))) fun (y14 : Int32) =>
  some (y14)) else
  (bnd (if y10.1 = ((0 : Int32)) then (some ((0 : Int32))) else
  (bnd (if y9 = ((0 : Int32)) then (some ((1 : Int32))) else
  (bnd (if y11.1 = ((0 : Int32)) then (some ((0 : Int32))) else
  (some ((1 : Int32)))) fun (y22 : Int32) =>
  some (y22))) fun (y20 : Int32) =>
  some (y20))) fun (y18 : Int32) =>
  some (y18))) fun (y12 : Int32) =>
  chk (y12 = 0 ∨ y12 = 1) <|
  some (y11.2, y12)
set_option maxHeartbeats 4000000 in
set_option maxRecDepth 100000 in
theorem kX4_movesApart (l : Launch) (D : va_G) (ct : CT) (ad : Nat → Nat) (Z : Nat → Nat) (G : GG) (M : DD) (sz : Nat) (a : Nat) (p0 : Int32) (p1 : Int32) (y : DD × Int32) (hc : a < G.1) (hk : G.2.1 a = 4) (hF : FX4_movesApart G M a p0 p1 = some y) : Met l yX4_movesApart wsX4_movesApart ({ frames := 1, cells := 0, slots := 0, locals := 24 }) (va_Pc [.ref (ad a), .int p0, .int p1] (kB D ct ad Z G M sz)) (va_Qi (fun (q : Int32) (_ : Unit) => q = y.2) (fun _ t => kE D ct ad G (wA ad G sz) y.1 t) (wA ad G sz)) 0 0 (wA ad G sz) := by
  refine Met.ofW (cc := cX4_movesApart) (maxL := 11) (ret := (some .boolean)) (by decide) rfl ?_
  intro p e s m args below meth c s₁ B hml hv
  obtain ⟨rfl, hsz, hP, hK, hD0, hZ, hN⟩ := hv
  have hx := B.exec
  have hb := B.bytes
  have hr := B.returns
  have hts := atoms_spec (ws := wsX4_movesApart) B.pre
  have hown : s.vm.findClass RX4 = some m.cls := findClass_of_methodNamed B.named
  have hlocks := B.notSynchronized
  subst hsz
  have hD := wD_self (sz := s.heap.size) hD0
  have hA9 : ∀ q, s.heap.size ≤ q → wA ad G s.heap.size q := fun q h => Or.inr h
  generalize hAe : wA ad G s.heap.size = A at hD hA9 hZ ⊢
  have hS : va_S A s.heap s.heap [] := va_S.rf
  have hl := lv_entry ([.ref (ad a), .int p0, .int p1]) (n := 11) (Nat.le_of_ble_eq_true rfl)
  rw [lg_entry_eq]
  generalize (lg_sl ([.ref (ad a), .int p0, .int p1]) ++ List.replicate (11 - (lg_sl ([.ref (ad a), .int p0, .int p1])).length) Slot.unset).toArray = ls at hl ⊢
  have hl : lv_has ls 11 [(0, .ref (ad a)), (1, .int p0), (2, .int p1)] := hl
  unfold FX4_movesApart at hF
  refine lv_aload_n hx hb dX4_movesApart_0 rfl (lv_at hl 0 rfl) ?_
  refine va_get (D := D) (ci := 4) (v := va_re ad (M.2 a 6)) (C := RX4) (T := TX4) (N := 18) hx hb hts (by decide +kernel) hown hK hP a (wld_o ct ad G M hc hk (by decide)) rfl 6 (by decide) (hts (.fieldLink RX4 23 "VideoSuite$Picture" "referenceId" "[I") (by decide +kernel)) (fun _ h9 => h9) rfl dX4_movesApart_1 ?_
  refine lv_iload_n hx hb dX4_movesApart_4 rfl (lv_at hl 1 rfl) ?_
  obtain ⟨b1, ho1, hc1, hk1, hF⟩ := dr_some hF
  refine W_st (st' := [.int p0, .ref (ad b1)]) (by rw [va_some ho1]) ?_
  obtain ⟨hvc, hF⟩ := chk_some hF
  refine va_iald hx hb hK hP b1 1 (wld_i ct ad G M hc1 hk1) rfl hvc dX4_movesApart_5 ?_
  obtain ⟨x2, ex2, hF⟩ := ltt_some hF
  refine lv_topi (fun zx2 ezx2 => ?_)
  obtain rfl : x2 = zx2 := ex2.trans ezx2.symm
  refine lv_istore_n (lv' := [(3, .int x2), (0, .ref (ad a)), (1, .int p0), (2, .int p1)]) hx hb dX4_movesApart_6 rfl hl (by decide) rfl (fun ls hl => ?_)
  refine lv_aload_n hx hb dX4_movesApart_7 rfl (lv_at hl 1 rfl) ?_
  refine va_get (D := D) (ci := 4) (v := va_re ad (M.2 a 6)) (C := RX4) (T := TX4) (N := 18) hx hb hts (by decide +kernel) hown hK hP a (wld_o ct ad G M hc hk (by decide)) rfl 6 (by decide) (hts (.fieldLink RX4 23 "VideoSuite$Picture" "referenceId" "[I") (by decide +kernel)) (fun _ h9 => h9) rfl dX4_movesApart_8 ?_
  refine lv_sipush (v := (512 : Int32)) hx hb dX4_movesApart_11 (by decide) ?_
  refine lv_iload_n hx hb dX4_movesApart_14 rfl (lv_at hl 2 rfl) ?_
  refine lv_iadd hx hb dX4_movesApart_15 ?_
  obtain ⟨x3, ex3, hF⟩ := ltt_some hF
  refine lv_topi (fun zx3 ezx3 => ?_)
  obtain rfl : x3 = zx3 := ex3.trans ezx3.symm
  refine W_st (st' := [.int x3, .ref (ad b1)]) (by rw [va_some ho1]) ?_
  obtain ⟨hvc, hF⟩ := chk_some hF
  refine va_iald hx hb hK hP b1 1 (wld_i ct ad G M hc1 hk1) rfl hvc dX4_movesApart_16 ?_
  obtain ⟨x4, ex4, hF⟩ := ltt_some hF
  refine lv_topi (fun zx4 ezx4 => ?_)
  obtain rfl : x4 = zx4 := ex4.trans ezx4.symm
  refine lv_istore (lv' := [(4, .int x4), (3, .int x2), (0, .ref (ad a)), (1, .int p0), (2, .int p1)]) hx hb dX4_movesApart_17 hl (by decide) rfl (fun ls hl => ?_)
  refine lv_aload_n hx hb dX4_movesApart_19 rfl (lv_at hl 2 rfl) ?_
  refine va_get (D := D) (ci := 4) (v := va_re ad (M.2 a 6)) (C := RX4) (T := TX4) (N := 18) hx hb hts (by decide +kernel) hown hK hP a (wld_o ct ad G M hc hk (by decide)) rfl 6 (by decide) (hts (.fieldLink RX4 23 "VideoSuite$Picture" "referenceId" "[I") (by decide +kernel)) (fun _ h9 => h9) rfl dX4_movesApart_20 ?_
  refine lv_iload_n hx hb dX4_movesApart_23 rfl (lv_at hl 4 rfl) ?_
  refine W_st (st' := [.int p1, .ref (ad b1)]) (by rw [va_some ho1]) ?_
  obtain ⟨hvc, hF⟩ := chk_some hF
  refine va_iald hx hb hK hP b1 1 (wld_i ct ad G M hc1 hk1) rfl hvc dX4_movesApart_24 ?_
  obtain ⟨x5, ex5, hF⟩ := ltt_some hF
  refine lv_topi (fun zx5 ezx5 => ?_)
  obtain rfl : x5 = zx5 := ex5.trans ezx5.symm
  refine lv_istore (lv' := [(5, .int x5), (4, .int x4), (3, .int x2), (0, .ref (ad a)), (1, .int p0), (2, .int p1)]) hx hb dX4_movesApart_25 hl (by decide) rfl (fun ls hl => ?_)
  refine lv_aload_n hx hb dX4_movesApart_27 rfl (lv_at hl 3 rfl) ?_
  refine va_get (D := D) (ci := 4) (v := va_re ad (M.2 a 6)) (C := RX4) (T := TX4) (N := 18) hx hb hts (by decide +kernel) hown hK hP a (wld_o ct ad G M hc hk (by decide)) rfl 6 (by decide) (hts (.fieldLink RX4 23 "VideoSuite$Picture" "referenceId" "[I") (by decide +kernel)) (fun _ h9 => h9) rfl dX4_movesApart_28 ?_
  refine lv_sipush (v := (512 : Int32)) hx hb dX4_movesApart_31 (by decide) ?_
  refine lv_iload_n hx hb dX4_movesApart_34 rfl (lv_at hl 5 rfl) ?_
  refine lv_iadd hx hb dX4_movesApart_35 ?_
  obtain ⟨x6, ex6, hF⟩ := ltt_some hF
  refine lv_topi (fun zx6 ezx6 => ?_)
  obtain rfl : x6 = zx6 := ex6.trans ezx6.symm
  refine W_st (st' := [.int x6, .ref (ad b1)]) (by rw [va_some ho1]) ?_
  obtain ⟨hvc, hF⟩ := chk_some hF
  refine va_iald hx hb hK hP b1 1 (wld_i ct ad G M hc1 hk1) rfl hvc dX4_movesApart_36 ?_
  obtain ⟨x7, ex7, hF⟩ := ltt_some hF
  refine lv_topi (fun zx7 ezx7 => ?_)
  obtain rfl : x7 = zx7 := ex7.trans ezx7.symm
  refine lv_istore (lv' := [(6, .int x7), (5, .int x5), (4, .int x4), (3, .int x2), (0, .ref (ad a)), (1, .int p0), (2, .int p1)]) hx hb dX4_movesApart_37 hl (by decide) rfl (fun ls hl => ?_)
  refine lv_iload_n hx hb dX4_movesApart_39 rfl (lv_at hl 3 rfl) ?_
  refine lv_iload hx hb dX4_movesApart_40 (lv_at hl 1 rfl) ?_
  obtain ⟨y8, hy8, hF⟩ := bnd_some hF
  have J8 : ∀ (H : Heap) (locs : List Loc) (ls : Array Slot), va_P D classes (wld ct ad G M) H → va_D A (wld ct ad G M) → va_S A s.heap H locs → lv_has ls 11 [(6, .int x7), (5, .int x5), (4, .int x4), (3, .int x2), (0, .ref (ad a)), (1, .int p0), (2, .int p1)] → W p l e (headSpec wsX4_movesApart ({ frames := 1, cells := 0, slots := 0, locals := 24 })).room s m ([.ref (ad a), .int p0, .int p1] : List Value).toArray below meth c H locs 0 0 (MQ below (va_Qi (fun (q : Int32) (_ : Unit) => q = y.2) (fun _ t => kE D ct ad G A y.1 t) A) ([.ref (ad a), .int p0, .int p1] : List Value).toArray s 0 0 A) (F0 m 57 ls [.int y8]) := by
    intro H locs ls hP hD hS hl
    refine lv_istore (lv' := [(7, .int y8), (6, .int x7), (5, .int x5), (4, .int x4), (3, .int x2), (0, .ref (ad a)), (1, .int p0), (2, .int p1)]) hx hb dX4_movesApart_57 hl (by decide) rfl (fun ls hl => ?_)
    refine lv_iload_n hx hb dX4_movesApart_59 rfl (lv_at hl 4 rfl) ?_
    refine lv_iload hx hb dX4_movesApart_60 (lv_at hl 1 rfl) ?_
    obtain ⟨y9, hy9, hF⟩ := bnd_some hF
    have J9 : ∀ (H : Heap) (locs : List Loc) (ls : Array Slot), va_P D classes (wld ct ad G M) H → va_D A (wld ct ad G M) → va_S A s.heap H locs → lv_has ls 11 [(7, .int y8), (6, .int x7), (5, .int x5), (4, .int x4), (3, .int x2), (0, .ref (ad a)), (1, .int p0), (2, .int p1)] → W p l e (headSpec wsX4_movesApart ({ frames := 1, cells := 0, slots := 0, locals := 24 })).room s m ([.ref (ad a), .int p0, .int p1] : List Value).toArray below meth c H locs 0 0 (MQ below (va_Qi (fun (q : Int32) (_ : Unit) => q = y.2) (fun _ t => kE D ct ad G A y.1 t) A) ([.ref (ad a), .int p0, .int p1] : List Value).toArray s 0 0 A) (F0 m 77 ls [.int y9]) := by
      intro H locs ls hP hD hS hl
      refine lv_istore (lv' := [(8, .int y9), (7, .int y8), (6, .int x7), (5, .int x5), (4, .int x4), (3, .int x2), (0, .ref (ad a)), (1, .int p0), (2, .int p1)]) hx hb dX4_movesApart_77 hl (by decide) rfl (fun ls hl => ?_)
      refine lv_iload_n hx hb dX4_movesApart_79 rfl (lv_at hl 5 rfl) ?_
      obtain ⟨y10, hy10, hF⟩ := bnd_some hF
      have J10 : ∀ (H : Heap) (locs : List Loc) (ls : Array Slot), va_P D classes (wld ct ad G y10.2) H → va_D A (wld ct ad G y10.2) → va_S A s.heap H locs → lv_has ls 11 [(8, .int y9), (7, .int y8), (6, .int x7), (5, .int x5), (4, .int x4), (3, .int x2), (0, .ref (ad a)), (1, .int p0), (2, .int p1)] → W p l e (headSpec wsX4_movesApart ({ frames := 1, cells := 0, slots := 0, locals := 24 })).room s m ([.ref (ad a), .int p0, .int p1] : List Value).toArray below meth c H locs 0 0 (MQ below (va_Qi (fun (q : Int32) (_ : Unit) => q = y.2) (fun _ t => kE D ct ad G A y.1 t) A) ([.ref (ad a), .int p0, .int p1] : List Value).toArray s 0 0 A) (F0 m 119 ls [.int y10.1]) := by
        intro H locs ls hP hD hS hl
        refine lv_istore (lv' := [(9, .int y10.1), (8, .int y9), (7, .int y8), (6, .int x7), (5, .int x5), (4, .int x4), (3, .int x2), (0, .ref (ad a)), (1, .int p0), (2, .int p1)]) hx hb dX4_movesApart_119 hl (by decide) rfl (fun ls hl => ?_)
        refine lv_iload_n hx hb dX4_movesApart_121 rfl (lv_at hl 6 rfl) ?_
        obtain ⟨y11, hy11, hF⟩ := bnd_some hF
        have J11 : ∀ (H : Heap) (locs : List Loc) (ls : Array Slot), va_P D classes (wld ct ad G y11.2) H → va_D A (wld ct ad G y11.2) → va_S A s.heap H locs → lv_has ls 11 [(9, .int y10.1), (8, .int y9), (7, .int y8), (6, .int x7), (5, .int x5), (4, .int x4), (3, .int x2), (0, .ref (ad a)), (1, .int p0), (2, .int p1)] → W p l e (headSpec wsX4_movesApart ({ frames := 1, cells := 0, slots := 0, locals := 24 })).room s m ([.ref (ad a), .int p0, .int p1] : List Value).toArray below meth c H locs 0 0 (MQ below (va_Qi (fun (q : Int32) (_ : Unit) => q = y.2) (fun _ t => kE D ct ad G A y.1 t) A) ([.ref (ad a), .int p0, .int p1] : List Value).toArray s 0 0 A) (F0 m 161 ls [.int y11.1]) := by
          intro H locs ls hP hD hS hl
          refine lv_istore (lv' := [(10, .int y11.1), (9, .int y10.1), (8, .int y9), (7, .int y8), (6, .int x7), (5, .int x5), (4, .int x4), (3, .int x2), (0, .ref (ad a)), (1, .int p0), (2, .int p1)]) hx hb dX4_movesApart_161 hl (by decide) rfl (fun ls hl => ?_)
          refine lv_iload hx hb dX4_movesApart_163 (lv_at hl 3 rfl) ?_
          obtain ⟨y12, hy12, hF⟩ := bnd_some hF
          have J12 : ∀ (H : Heap) (locs : List Loc) (ls : Array Slot), va_P D classes (wld ct ad G y11.2) H → va_D A (wld ct ad G y11.2) → va_S A s.heap H locs → lv_has ls 11 [(10, .int y11.1), (9, .int y10.1), (8, .int y9), (7, .int y8), (6, .int x7), (5, .int x5), (4, .int x4), (3, .int x2), (0, .ref (ad a)), (1, .int p0), (2, .int p1)] → W p l e (headSpec wsX4_movesApart ({ frames := 1, cells := 0, slots := 0, locals := 24 })).room s m ([.ref (ad a), .int p0, .int p1] : List Value).toArray below meth c H locs 0 0 (MQ below (va_Qi (fun (q : Int32) (_ : Unit) => q = y.2) (fun _ t => kE D ct ad G A y.1 t) A) ([.ref (ad a), .int p0, .int p1] : List Value).toArray s 0 0 A) (F0 m 188 ls [.int y12]) := by
            intro H locs ls hP hD hS hl
            obtain ⟨hz9, hF⟩ := chk_some hF
            obtain rfl := Option.some.inj hF
            exact W.zret (v := y12) (ty := .boolean) hx hb hr (nar_z hz9).1 (fun t ht hW => ⟨⟨_, (), rfl, rfl, ⟨by rw [ht]; exact hP, va_K.moved hW.alike hK, hD⟩⟩, hS.F ht⟩) hS.2.2 dX4_movesApart_188
          clear hF
          have hF := hy12
          clear hy12
          refine lv_if_eq (tgt := 173) hx hb dX4_movesApart_165 (by decide) (fun c13 => ?_) (fun c13 => ?_)
          · rw [if_pos c13] at hF
            refine lv_iload hx hb dX4_movesApart_173 (lv_at hl 2 rfl) ?_
            obtain ⟨y14, hy14, hF⟩ := bnd_some hF
            have J14 : ∀ (H : Heap) (locs : List Loc) (ls : Array Slot), va_P D classes (wld ct ad G y11.2) H → va_D A (wld ct ad G y11.2) → va_S A s.heap H locs → lv_has ls 11 [(10, .int y11.1), (9, .int y10.1), (8, .int y9), (7, .int y8), (6, .int x7), (5, .int x5), (4, .int x4), (3, .int x2), (0, .ref (ad a)), (1, .int p0), (2, .int p1)] → W p l e (headSpec wsX4_movesApart ({ frames := 1, cells := 0, slots := 0, locals := 24 })).room s m ([.ref (ad a), .int p0, .int p1] : List Value).toArray below meth c H locs 0 0 (MQ below (va_Qi (fun (q : Int32) (_ : Unit) => q = y.2) (fun _ t => kE D ct ad G A y.1 t) A) ([.ref (ad a), .int p0, .int p1] : List Value).toArray s 0 0 A) (F0 m 188 ls [.int y14]) := by
              intro H locs ls hP hD hS hl
              obtain rfl := Option.some.inj hF
              exact J12 _ _ _ hP hD hS (lv_sub hl [0, 1, 2, 3, 4, 5, 6, 7, 8, 9, 10] rfl)
            clear hF
            have hF := hy14
            clear hy14
            refine lv_if_eq (tgt := 183) hx hb dX4_movesApart_175 (by decide) (fun c15 => ?_) (fun c15 => ?_)
            · rw [if_pos c15] at hF
              refine lv_iconst (v := (1 : Int32)) hx hb dX4_movesApart_183 (by decide) ?_
              refine lv_goto (tgt := 188) hx hb dX4_movesApart_184 (by decide) ?_
              obtain rfl := Option.some.inj hF
              exact J14 _ _ _ hP hD hS (lv_sub hl [0, 1, 2, 3, 4, 5, 6, 7, 8, 9, 10] rfl)
            · rw [if_neg c15] at hF
              refine lv_iload hx hb dX4_movesApart_178 (lv_at hl 0 rfl) ?_
              obtain ⟨y16, hy16, hF⟩ := bnd_some hF
              have J16 : ∀ (H : Heap) (locs : List Loc) (ls : Array Slot), va_P D classes (wld ct ad G y11.2) H → va_D A (wld ct ad G y11.2) → va_S A s.heap H locs → lv_has ls 11 [(10, .int y11.1), (9, .int y10.1), (8, .int y9), (7, .int y8), (6, .int x7), (5, .int x5), (4, .int x4), (3, .int x2), (0, .ref (ad a)), (1, .int p0), (2, .int p1)] → W p l e (headSpec wsX4_movesApart ({ frames := 1, cells := 0, slots := 0, locals := 24 })).room s m ([.ref (ad a), .int p0, .int p1] : List Value).toArray below meth c H locs 0 0 (MQ below (va_Qi (fun (q : Int32) (_ : Unit) => q = y.2) (fun _ t => kE D ct ad G A y.1 t) A) ([.ref (ad a), .int p0, .int p1] : List Value).toArray s 0 0 A) (F0 m 188 ls [.int y16]) := by
                intro H locs ls hP hD hS hl
                obtain rfl := Option.some.inj hF
                exact J14 _ _ _ hP hD hS (lv_sub hl [0, 1, 2, 3, 4, 5, 6, 7, 8, 9, 10] rfl)
              clear hF
              have hF := hy16
              clear hy16
              refine lv_if_eq (tgt := 187) hx hb dX4_movesApart_180 (by decide) (fun c17 => ?_) (fun c17 => ?_)
              · rw [if_pos c17] at hF
                refine lv_iconst (v := (0 : Int32)) hx hb dX4_movesApart_187 (by decide) ?_
                obtain rfl := Option.some.inj hF
                exact J16 _ _ _ hP hD hS (lv_sub hl [0, 1, 2, 3, 4, 5, 6, 7, 8, 9, 10] rfl)
              · rw [if_neg c17] at hF
                refine lv_iconst (v := (1 : Int32)) hx hb dX4_movesApart_183 (by decide) ?_
                refine lv_goto (tgt := 188) hx hb dX4_movesApart_184 (by decide) ?_
                obtain rfl := Option.some.inj hF
                exact J16 _ _ _ hP hD hS (lv_sub hl [0, 1, 2, 3, 4, 5, 6, 7, 8, 9, 10] rfl)
          · rw [if_neg c13] at hF
            refine lv_iload hx hb dX4_movesApart_168 (lv_at hl 1 rfl) ?_
            obtain ⟨y18, hy18, hF⟩ := bnd_some hF
            have J18 : ∀ (H : Heap) (locs : List Loc) (ls : Array Slot), va_P D classes (wld ct ad G y11.2) H → va_D A (wld ct ad G y11.2) → va_S A s.heap H locs → lv_has ls 11 [(10, .int y11.1), (9, .int y10.1), (8, .int y9), (7, .int y8), (6, .int x7), (5, .int x5), (4, .int x4), (3, .int x2), (0, .ref (ad a)), (1, .int p0), (2, .int p1)] → W p l e (headSpec wsX4_movesApart ({ frames := 1, cells := 0, slots := 0, locals := 24 })).room s m ([.ref (ad a), .int p0, .int p1] : List Value).toArray below meth c H locs 0 0 (MQ below (va_Qi (fun (q : Int32) (_ : Unit) => q = y.2) (fun _ t => kE D ct ad G A y.1 t) A) ([.ref (ad a), .int p0, .int p1] : List Value).toArray s 0 0 A) (F0 m 188 ls [.int y18]) := by
              intro H locs ls hP hD hS hl
              obtain rfl := Option.some.inj hF
              exact J12 _ _ _ hP hD hS (lv_sub hl [0, 1, 2, 3, 4, 5, 6, 7, 8, 9, 10] rfl)
            clear hF
            have hF := hy18
            clear hy18
            refine lv_if_eq (tgt := 187) hx hb dX4_movesApart_170 (by decide) (fun c19 => ?_) (fun c19 => ?_)
            · rw [if_pos c19] at hF
              refine lv_iconst (v := (0 : Int32)) hx hb dX4_movesApart_187 (by decide) ?_
              obtain rfl := Option.some.inj hF
              exact J18 _ _ _ hP hD hS (lv_sub hl [0, 1, 2, 3, 4, 5, 6, 7, 8, 9, 10] rfl)
            · rw [if_neg c19] at hF
              refine lv_iload hx hb dX4_movesApart_173 (lv_at hl 2 rfl) ?_
              obtain ⟨y20, hy20, hF⟩ := bnd_some hF
              have J20 : ∀ (H : Heap) (locs : List Loc) (ls : Array Slot), va_P D classes (wld ct ad G y11.2) H → va_D A (wld ct ad G y11.2) → va_S A s.heap H locs → lv_has ls 11 [(10, .int y11.1), (9, .int y10.1), (8, .int y9), (7, .int y8), (6, .int x7), (5, .int x5), (4, .int x4), (3, .int x2), (0, .ref (ad a)), (1, .int p0), (2, .int p1)] → W p l e (headSpec wsX4_movesApart ({ frames := 1, cells := 0, slots := 0, locals := 24 })).room s m ([.ref (ad a), .int p0, .int p1] : List Value).toArray below meth c H locs 0 0 (MQ below (va_Qi (fun (q : Int32) (_ : Unit) => q = y.2) (fun _ t => kE D ct ad G A y.1 t) A) ([.ref (ad a), .int p0, .int p1] : List Value).toArray s 0 0 A) (F0 m 188 ls [.int y20]) := by
                intro H locs ls hP hD hS hl
                obtain rfl := Option.some.inj hF
                exact J18 _ _ _ hP hD hS (lv_sub hl [0, 1, 2, 3, 4, 5, 6, 7, 8, 9, 10] rfl)
              clear hF
              have hF := hy20
              clear hy20
              refine lv_if_eq (tgt := 183) hx hb dX4_movesApart_175 (by decide) (fun c21 => ?_) (fun c21 => ?_)
              · rw [if_pos c21] at hF
                refine lv_iconst (v := (1 : Int32)) hx hb dX4_movesApart_183 (by decide) ?_
                refine lv_goto (tgt := 188) hx hb dX4_movesApart_184 (by decide) ?_
                obtain rfl := Option.some.inj hF
                exact J20 _ _ _ hP hD hS (lv_sub hl [0, 1, 2, 3, 4, 5, 6, 7, 8, 9, 10] rfl)
              · rw [if_neg c21] at hF
                refine lv_iload hx hb dX4_movesApart_178 (lv_at hl 0 rfl) ?_
                obtain ⟨y22, hy22, hF⟩ := bnd_some hF
                have J22 : ∀ (H : Heap) (locs : List Loc) (ls : Array Slot), va_P D classes (wld ct ad G y11.2) H → va_D A (wld ct ad G y11.2) → va_S A s.heap H locs → lv_has ls 11 [(10, .int y11.1), (9, .int y10.1), (8, .int y9), (7, .int y8), (6, .int x7), (5, .int x5), (4, .int x4), (3, .int x2), (0, .ref (ad a)), (1, .int p0), (2, .int p1)] → W p l e (headSpec wsX4_movesApart ({ frames := 1, cells := 0, slots := 0, locals := 24 })).room s m ([.ref (ad a), .int p0, .int p1] : List Value).toArray below meth c H locs 0 0 (MQ below (va_Qi (fun (q : Int32) (_ : Unit) => q = y.2) (fun _ t => kE D ct ad G A y.1 t) A) ([.ref (ad a), .int p0, .int p1] : List Value).toArray s 0 0 A) (F0 m 188 ls [.int y22]) := by
                  intro H locs ls hP hD hS hl
                  obtain rfl := Option.some.inj hF
                  exact J20 _ _ _ hP hD hS (lv_sub hl [0, 1, 2, 3, 4, 5, 6, 7, 8, 9, 10] rfl)
                clear hF
                have hF := hy22
                clear hy22
                refine lv_if_eq (tgt := 187) hx hb dX4_movesApart_180 (by decide) (fun c23 => ?_) (fun c23 => ?_)
                · rw [if_pos c23] at hF
                  refine lv_iconst (v := (0 : Int32)) hx hb dX4_movesApart_187 (by decide) ?_
                  obtain rfl := Option.some.inj hF
                  exact J22 _ _ _ hP hD hS (lv_sub hl [0, 1, 2, 3, 4, 5, 6, 7, 8, 9, 10] rfl)
                · rw [if_neg c23] at hF
                  refine lv_iconst (v := (1 : Int32)) hx hb dX4_movesApart_183 (by decide) ?_
                  refine lv_goto (tgt := 188) hx hb dX4_movesApart_184 (by decide) ?_
                  obtain rfl := Option.some.inj hF
                  exact J22 _ _ _ hP hD hS (lv_sub hl [0, 1, 2, 3, 4, 5, 6, 7, 8, 9, 10] rfl)
        clear hF
        have hF := hy11
        clear hy11
        refine lv_if_eq (tgt := 138) hx hb dX4_movesApart_122 (by decide) (fun c24 => ?_) (fun c24 => ?_)
        · rw [if_pos c24] at hF
          refine lv_iload hx hb dX4_movesApart_138 (lv_at hl 5 rfl) ?_
          obtain ⟨y25, hy25, hF⟩ := bnd_some hF
          have J25 : ∀ (H : Heap) (locs : List Loc) (ls : Array Slot), va_P D classes (wld ct ad G y25.2) H → va_D A (wld ct ad G y25.2) → va_S A s.heap H locs → lv_has ls 11 [(9, .int y10.1), (8, .int y9), (7, .int y8), (6, .int x7), (5, .int x5), (4, .int x4), (3, .int x2), (0, .ref (ad a)), (1, .int p0), (2, .int p1)] → W p l e (headSpec wsX4_movesApart ({ frames := 1, cells := 0, slots := 0, locals := 24 })).room s m ([.ref (ad a), .int p0, .int p1] : List Value).toArray below meth c H locs 0 0 (MQ below (va_Qi (fun (q : Int32) (_ : Unit) => q = y.2) (fun _ t => kE D ct ad G A y.1 t) A) ([.ref (ad a), .int p0, .int p1] : List Value).toArray s 0 0 A) (F0 m 161 ls [.int y25.1]) := by
            intro H locs ls hP hD hS hl
            obtain rfl := Option.some.inj hF
            exact J11 _ _ _ hP hD hS (lv_sub hl [0, 1, 2, 3, 4, 5, 6, 7, 8, 9] rfl)
          clear hF
          have hF := hy25
          clear hy25
          refine lv_if_eq (tgt := 160) hx hb dX4_movesApart_140 (by decide) (fun c26 => ?_) (fun c26 => ?_)
          · rw [if_pos c26] at hF
            refine lv_iconst (v := (0 : Int32)) hx hb dX4_movesApart_160 (by decide) ?_
            obtain rfl := Option.some.inj hF
            exact J25 _ _ _ hP hD hS (lv_sub hl [0, 1, 2, 3, 4, 5, 6, 7, 8, 9] rfl)
          · rw [if_neg c26] at hF
            refine lv_aload_n hx hb dX4_movesApart_143 rfl (lv_at hl 7 rfl) ?_
            refine lv_sipush (v := (512 : Int32)) hx hb dX4_movesApart_144 (by decide) ?_
            refine lv_iload_n hx hb dX4_movesApart_147 rfl (lv_at hl 8 rfl) ?_
            refine lv_iadd hx hb dX4_movesApart_148 ?_
            obtain ⟨x27, ex27, hF⟩ := ltt_some hF
            refine lv_topi (fun zx27 ezx27 => ?_)
            obtain rfl : x27 = zx27 := ex27.trans ezx27.symm
            refine lv_iload_n hx hb dX4_movesApart_149 rfl (lv_at hl 9 rfl) ?_
            obtain ⟨y28, hy28, hF⟩ := bnd_some hF
            have hf9 := wA_in hD hA9 hS
            refine va_calli (va_runV (As := [.int x27, .int p1]) (rest := []) ⟨hx, hb, hml, hown, hts⟩ (kX4_farApart l D ct ad Z G y10.2 H.size a x27 p1 y28 hc hk hy28) (cwV 2 hts gX4_movesApart_X4_farApart rfl rfl rfl (by decide +kernel) ⟨Nat.le_of_ble_eq_true rfl, Nat.le_of_ble_eq_true rfl⟩) ⟨fun a U g mk q => by obtain ⟨q0, q1, qP, qK, qD, qZ, qN⟩ := q; exact ⟨q0, q1, qP, va_K.moved (u := U) (U := U.calling g mk a) (Vm.Alike.refl U.vm) qK, qD, sF.moved (u := U) (U := U.calling g mk a) (Vm.Alike.refl U.vm) qZ, nF.same rfl qN⟩, va_recv hK hP (ci := 4) (q0 := a) rfl (wld_o ct ad G y10.2 hc hk (by decide)), fun U hU hW => ⟨rfl, by rw [hU], by rw [hU]; exact hP, va_K.moved hW.alike hK, hD.weaken (fun _ _ _ _ => trivial), by rw [hU]; exact ((hZ.kept hS.2.1).narrow hf9).moved hW.alike, hN.warm hW⟩⟩ rfl rfl hl.1 rfl (lv_room (Nat.le_of_ble_eq_true rfl)) dX4_movesApart_150 ⟨(Nat.zero_le _), (Nat.zero_le _)⟩) hS (fun q _ h => hf9 q h) hf9 (fun r u t H locs ht hvm hw hB hz1 hk1 hS => ?_)
            obtain ⟨hP, hK9, hD9⟩ := hB
            rw [ht] at hP
            try dsimp only at hw
            subst hw
            have hD := hD9.weaken (fun _ q _ h => hf9 q.1 h)
            obtain ⟨y29, hy29, hF⟩ := bnd_some hF
            have J29 : ∀ (H : Heap) (locs : List Loc) (ls : Array Slot), va_P D classes (wld ct ad G y28.1) H → va_D A (wld ct ad G y28.1) → va_S A s.heap H locs → lv_has ls 11 [(9, .int y10.1), (8, .int y9), (7, .int y8), (6, .int x7), (5, .int x5), (4, .int x4), (3, .int x2), (0, .ref (ad a)), (1, .int p0), (2, .int p1)] → W p l e (headSpec wsX4_movesApart ({ frames := 1, cells := 0, slots := 0, locals := 24 })).room s m ([.ref (ad a), .int p0, .int p1] : List Value).toArray below meth c H locs 0 0 (MQ below (va_Qi (fun (q : Int32) (_ : Unit) => q = y.2) (fun _ t => kE D ct ad G A y.1 t) A) ([.ref (ad a), .int p0, .int p1] : List Value).toArray s 0 0 A) (F0 m 161 ls [.int y29]) := by
              intro H locs ls hP hD hS hl
              obtain rfl := Option.some.inj hF
              exact J25 _ _ _ hP hD hS (lv_sub hl [0, 1, 2, 3, 4, 5, 6, 7, 8, 9] rfl)
            clear hF
            have hF := hy29
            clear hy29
            refine lv_if_eq (tgt := 160) hx hb dX4_movesApart_153 (by decide) (fun c30 => ?_) (fun c30 => ?_)
            · rw [if_pos c30] at hF
              refine lv_iconst (v := (0 : Int32)) hx hb dX4_movesApart_160 (by decide) ?_
              obtain rfl := Option.some.inj hF
              exact J29 _ _ _ hP hD hS (lv_sub hl [0, 1, 2, 3, 4, 5, 6, 7, 8, 9] rfl)
            · rw [if_neg c30] at hF
              refine lv_iconst (v := (1 : Int32)) hx hb dX4_movesApart_156 (by decide) ?_
              refine lv_goto (tgt := 161) hx hb dX4_movesApart_157 (by decide) ?_
              obtain rfl := Option.some.inj hF
              exact J29 _ _ _ hP hD hS (lv_sub hl [0, 1, 2, 3, 4, 5, 6, 7, 8, 9] rfl)
        · rw [if_neg c24] at hF
          refine lv_aload_n hx hb dX4_movesApart_125 rfl (lv_at hl 7 rfl) ?_
          refine lv_iload_n hx hb dX4_movesApart_126 rfl (lv_at hl 8 rfl) ?_
          refine lv_sipush (v := (512 : Int32)) hx hb dX4_movesApart_127 (by decide) ?_
          refine lv_iload_n hx hb dX4_movesApart_130 rfl (lv_at hl 9 rfl) ?_
          refine lv_iadd hx hb dX4_movesApart_131 ?_
          obtain ⟨x31, ex31, hF⟩ := ltt_some hF
          refine lv_topi (fun zx31 ezx31 => ?_)
          obtain rfl : x31 = zx31 := ex31.trans ezx31.symm
          obtain ⟨y32, hy32, hF⟩ := bnd_some hF
          have hf9 := wA_in hD hA9 hS
          refine va_calli (va_runV (As := [.int p0, .int x31]) (rest := []) ⟨hx, hb, hml, hown, hts⟩ (kX4_farApart l D ct ad Z G y10.2 H.size a p0 x31 y32 hc hk hy32) (cwV 2 hts gX4_movesApart_X4_farApart rfl rfl rfl (by decide +kernel) ⟨Nat.le_of_ble_eq_true rfl, Nat.le_of_ble_eq_true rfl⟩) ⟨fun a U g mk q => by obtain ⟨q0, q1, qP, qK, qD, qZ, qN⟩ := q; exact ⟨q0, q1, qP, va_K.moved (u := U) (U := U.calling g mk a) (Vm.Alike.refl U.vm) qK, qD, sF.moved (u := U) (U := U.calling g mk a) (Vm.Alike.refl U.vm) qZ, nF.same rfl qN⟩, va_recv hK hP (ci := 4) (q0 := a) rfl (wld_o ct ad G y10.2 hc hk (by decide)), fun U hU hW => ⟨rfl, by rw [hU], by rw [hU]; exact hP, va_K.moved hW.alike hK, hD.weaken (fun _ _ _ _ => trivial), by rw [hU]; exact ((hZ.kept hS.2.1).narrow hf9).moved hW.alike, hN.warm hW⟩⟩ rfl rfl hl.1 rfl (lv_room (Nat.le_of_ble_eq_true rfl)) dX4_movesApart_132 ⟨(Nat.zero_le _), (Nat.zero_le _)⟩) hS (fun q _ h => hf9 q h) hf9 (fun r u t H locs ht hvm hw hB hz1 hk1 hS => ?_)
          obtain ⟨hP, hK9, hD9⟩ := hB
          rw [ht] at hP
          try dsimp only at hw
          subst hw
          have hD := hD9.weaken (fun _ q _ h => hf9 q.1 h)
          obtain ⟨y33, hy33, hF⟩ := bnd_some hF
          have J33 : ∀ (H : Heap) (locs : List Loc) (ls : Array Slot), va_P D classes (wld ct ad G y33.2) H → va_D A (wld ct ad G y33.2) → va_S A s.heap H locs → lv_has ls 11 [(9, .int y10.1), (8, .int y9), (7, .int y8), (6, .int x7), (5, .int x5), (4, .int x4), (3, .int x2), (0, .ref (ad a)), (1, .int p0), (2, .int p1)] → W p l e (headSpec wsX4_movesApart ({ frames := 1, cells := 0, slots := 0, locals := 24 })).room s m ([.ref (ad a), .int p0, .int p1] : List Value).toArray below meth c H locs 0 0 (MQ below (va_Qi (fun (q : Int32) (_ : Unit) => q = y.2) (fun _ t => kE D ct ad G A y.1 t) A) ([.ref (ad a), .int p0, .int p1] : List Value).toArray s 0 0 A) (F0 m 161 ls [.int y33.1]) := by
            intro H locs ls hP hD hS hl
            obtain rfl := Option.some.inj hF
            exact J11 _ _ _ hP hD hS (lv_sub hl [0, 1, 2, 3, 4, 5, 6, 7, 8, 9] rfl)
          clear hF
          have hF := hy33
          clear hy33
          refine lv_if_ne (tgt := 156) hx hb dX4_movesApart_135 (by decide) (fun c34 => ?_) (fun c34 => ?_)
          · rw [if_neg c34] at hF
            refine lv_iconst (v := (1 : Int32)) hx hb dX4_movesApart_156 (by decide) ?_
            refine lv_goto (tgt := 161) hx hb dX4_movesApart_157 (by decide) ?_
            obtain rfl := Option.some.inj hF
            exact J33 _ _ _ hP hD hS (lv_sub hl [0, 1, 2, 3, 4, 5, 6, 7, 8, 9] rfl)
          · rw [if_pos c34] at hF
            refine lv_iload hx hb dX4_movesApart_138 (lv_at hl 5 rfl) ?_
            obtain ⟨y35, hy35, hF⟩ := bnd_some hF
            have J35 : ∀ (H : Heap) (locs : List Loc) (ls : Array Slot), va_P D classes (wld ct ad G y35.2) H → va_D A (wld ct ad G y35.2) → va_S A s.heap H locs → lv_has ls 11 [(9, .int y10.1), (8, .int y9), (7, .int y8), (6, .int x7), (5, .int x5), (4, .int x4), (3, .int x2), (0, .ref (ad a)), (1, .int p0), (2, .int p1)] → W p l e (headSpec wsX4_movesApart ({ frames := 1, cells := 0, slots := 0, locals := 24 })).room s m ([.ref (ad a), .int p0, .int p1] : List Value).toArray below meth c H locs 0 0 (MQ below (va_Qi (fun (q : Int32) (_ : Unit) => q = y.2) (fun _ t => kE D ct ad G A y.1 t) A) ([.ref (ad a), .int p0, .int p1] : List Value).toArray s 0 0 A) (F0 m 161 ls [.int y35.1]) := by
              intro H locs ls hP hD hS hl
              obtain rfl := Option.some.inj hF
              exact J33 _ _ _ hP hD hS (lv_sub hl [0, 1, 2, 3, 4, 5, 6, 7, 8, 9] rfl)
            clear hF
            have hF := hy35
            clear hy35
            refine lv_if_eq (tgt := 160) hx hb dX4_movesApart_140 (by decide) (fun c36 => ?_) (fun c36 => ?_)
            · rw [if_pos c36] at hF
              refine lv_iconst (v := (0 : Int32)) hx hb dX4_movesApart_160 (by decide) ?_
              obtain rfl := Option.some.inj hF
              exact J35 _ _ _ hP hD hS (lv_sub hl [0, 1, 2, 3, 4, 5, 6, 7, 8, 9] rfl)
            · rw [if_neg c36] at hF
              refine lv_aload_n hx hb dX4_movesApart_143 rfl (lv_at hl 7 rfl) ?_
              refine lv_sipush (v := (512 : Int32)) hx hb dX4_movesApart_144 (by decide) ?_
              refine lv_iload_n hx hb dX4_movesApart_147 rfl (lv_at hl 8 rfl) ?_
              refine lv_iadd hx hb dX4_movesApart_148 ?_
              obtain ⟨x37, ex37, hF⟩ := ltt_some hF
              refine lv_topi (fun zx37 ezx37 => ?_)
              obtain rfl : x37 = zx37 := ex37.trans ezx37.symm
              refine lv_iload_n hx hb dX4_movesApart_149 rfl (lv_at hl 9 rfl) ?_
              obtain ⟨y38, hy38, hF⟩ := bnd_some hF
              have hf9 := wA_in hD hA9 hS
              refine va_calli (va_runV (As := [.int x37, .int p1]) (rest := []) ⟨hx, hb, hml, hown, hts⟩ (kX4_farApart l D ct ad Z G y32.1 H.size a x37 p1 y38 hc hk hy38) (cwV 2 hts gX4_movesApart_X4_farApart rfl rfl rfl (by decide +kernel) ⟨Nat.le_of_ble_eq_true rfl, Nat.le_of_ble_eq_true rfl⟩) ⟨fun a U g mk q => by obtain ⟨q0, q1, qP, qK, qD, qZ, qN⟩ := q; exact ⟨q0, q1, qP, va_K.moved (u := U) (U := U.calling g mk a) (Vm.Alike.refl U.vm) qK, qD, sF.moved (u := U) (U := U.calling g mk a) (Vm.Alike.refl U.vm) qZ, nF.same rfl qN⟩, va_recv hK hP (ci := 4) (q0 := a) rfl (wld_o ct ad G y32.1 hc hk (by decide)), fun U hU hW => ⟨rfl, by rw [hU], by rw [hU]; exact hP, va_K.moved hW.alike hK, hD.weaken (fun _ _ _ _ => trivial), by rw [hU]; exact ((hZ.kept hS.2.1).narrow hf9).moved hW.alike, hN.warm hW⟩⟩ rfl rfl hl.1 rfl (lv_room (Nat.le_of_ble_eq_true rfl)) dX4_movesApart_150 ⟨(Nat.zero_le _), (Nat.zero_le _)⟩) hS (fun q _ h => hf9 q h) hf9 (fun r u t H locs ht hvm hw hB hz1 hk1 hS => ?_)
              obtain ⟨hP, hK9, hD9⟩ := hB
              rw [ht] at hP
              try dsimp only at hw
              subst hw
              have hD := hD9.weaken (fun _ q _ h => hf9 q.1 h)
              obtain ⟨y39, hy39, hF⟩ := bnd_some hF
              have J39 : ∀ (H : Heap) (locs : List Loc) (ls : Array Slot), va_P D classes (wld ct ad G y38.1) H → va_D A (wld ct ad G y38.1) → va_S A s.heap H locs → lv_has ls 11 [(9, .int y10.1), (8, .int y9), (7, .int y8), (6, .int x7), (5, .int x5), (4, .int x4), (3, .int x2), (0, .ref (ad a)), (1, .int p0), (2, .int p1)] → W p l e (headSpec wsX4_movesApart ({ frames := 1, cells := 0, slots := 0, locals := 24 })).room s m ([.ref (ad a), .int p0, .int p1] : List Value).toArray below meth c H locs 0 0 (MQ below (va_Qi (fun (q : Int32) (_ : Unit) => q = y.2) (fun _ t => kE D ct ad G A y.1 t) A) ([.ref (ad a), .int p0, .int p1] : List Value).toArray s 0 0 A) (F0 m 161 ls [.int y39]) := by
                intro H locs ls hP hD hS hl
                obtain rfl := Option.some.inj hF
                exact J35 _ _ _ hP hD hS (lv_sub hl [0, 1, 2, 3, 4, 5, 6, 7, 8, 9] rfl)
              clear hF
              have hF := hy39
              clear hy39
              refine lv_if_eq (tgt := 160) hx hb dX4_movesApart_153 (by decide) (fun c40 => ?_) (fun c40 => ?_)
              · rw [if_pos c40] at hF
                refine lv_iconst (v := (0 : Int32)) hx hb dX4_movesApart_160 (by decide) ?_
                obtain rfl := Option.some.inj hF
                exact J39 _ _ _ hP hD hS (lv_sub hl [0, 1, 2, 3, 4, 5, 6, 7, 8, 9] rfl)
              · rw [if_neg c40] at hF
                refine lv_iconst (v := (1 : Int32)) hx hb dX4_movesApart_156 (by decide) ?_
                refine lv_goto (tgt := 161) hx hb dX4_movesApart_157 (by decide) ?_
                obtain rfl := Option.some.inj hF
                exact J39 _ _ _ hP hD hS (lv_sub hl [0, 1, 2, 3, 4, 5, 6, 7, 8, 9] rfl)
      clear hF
      have hF := hy10
      clear hy10
      refine lv_if_eq (tgt := 92) hx hb dX4_movesApart_80 (by decide) (fun c41 => ?_) (fun c41 => ?_)
      · rw [if_pos c41] at hF
        refine lv_iload hx hb dX4_movesApart_92 (lv_at hl 4 rfl) ?_
        obtain ⟨y42, hy42, hF⟩ := bnd_some hF
        have J42 : ∀ (H : Heap) (locs : List Loc) (ls : Array Slot), va_P D classes (wld ct ad G y42.2) H → va_D A (wld ct ad G y42.2) → va_S A s.heap H locs → lv_has ls 11 [(8, .int y9), (7, .int y8), (6, .int x7), (5, .int x5), (4, .int x4), (3, .int x2), (0, .ref (ad a)), (1, .int p0), (2, .int p1)] → W p l e (headSpec wsX4_movesApart ({ frames := 1, cells := 0, slots := 0, locals := 24 })).room s m ([.ref (ad a), .int p0, .int p1] : List Value).toArray below meth c H locs 0 0 (MQ below (va_Qi (fun (q : Int32) (_ : Unit) => q = y.2) (fun _ t => kE D ct ad G A y.1 t) A) ([.ref (ad a), .int p0, .int p1] : List Value).toArray s 0 0 A) (F0 m 119 ls [.int y42.1]) := by
          intro H locs ls hP hD hS hl
          obtain rfl := Option.some.inj hF
          exact J10 _ _ _ hP hD hS (lv_sub hl [0, 1, 2, 3, 4, 5, 6, 7, 8] rfl)
        clear hF
        have hF := hy42
        clear hy42
        refine lv_if_eq (tgt := 118) hx hb dX4_movesApart_94 (by decide) (fun c43 => ?_) (fun c43 => ?_)
        · rw [if_pos c43] at hF
          refine lv_iconst (v := (0 : Int32)) hx hb dX4_movesApart_118 (by decide) ?_
          obtain rfl := Option.some.inj hF
          exact J42 _ _ _ hP hD hS (lv_sub hl [0, 1, 2, 3, 4, 5, 6, 7, 8] rfl)
        · rw [if_neg c43] at hF
          refine lv_aload_n hx hb dX4_movesApart_97 rfl (lv_at hl 6 rfl) ?_
          refine lv_sipush (v := (512 : Int32)) hx hb dX4_movesApart_98 (by decide) ?_
          refine lv_iload_n hx hb dX4_movesApart_101 rfl (lv_at hl 7 rfl) ?_
          refine lv_iadd hx hb dX4_movesApart_102 ?_
          obtain ⟨x44, ex44, hF⟩ := ltt_some hF
          refine lv_topi (fun zx44 ezx44 => ?_)
          obtain rfl : x44 = zx44 := ex44.trans ezx44.symm
          refine lv_sipush (v := (512 : Int32)) hx hb dX4_movesApart_103 (by decide) ?_
          refine lv_iload_n hx hb dX4_movesApart_106 rfl (lv_at hl 8 rfl) ?_
          refine lv_iadd hx hb dX4_movesApart_107 ?_
          obtain ⟨x45, ex45, hF⟩ := ltt_some hF
          refine lv_topi (fun zx45 ezx45 => ?_)
          obtain rfl : x45 = zx45 := ex45.trans ezx45.symm
          obtain ⟨y46, hy46, hF⟩ := bnd_some hF
          have hf9 := wA_in hD hA9 hS
          refine va_calli (va_runV (As := [.int x44, .int x45]) (rest := []) ⟨hx, hb, hml, hown, hts⟩ (kX4_farApart l D ct ad Z G M H.size a x44 x45 y46 hc hk hy46) (cwV 2 hts gX4_movesApart_X4_farApart rfl rfl rfl (by decide +kernel) ⟨Nat.le_of_ble_eq_true rfl, Nat.le_of_ble_eq_true rfl⟩) ⟨fun a U g mk q => by obtain ⟨q0, q1, qP, qK, qD, qZ, qN⟩ := q; exact ⟨q0, q1, qP, va_K.moved (u := U) (U := U.calling g mk a) (Vm.Alike.refl U.vm) qK, qD, sF.moved (u := U) (U := U.calling g mk a) (Vm.Alike.refl U.vm) qZ, nF.same rfl qN⟩, va_recv hK hP (ci := 4) (q0 := a) rfl (wld_o ct ad G M hc hk (by decide)), fun U hU hW => ⟨rfl, by rw [hU], by rw [hU]; exact hP, va_K.moved hW.alike hK, hD.weaken (fun _ _ _ _ => trivial), by rw [hU]; exact ((hZ.kept hS.2.1).narrow hf9).moved hW.alike, hN.warm hW⟩⟩ rfl rfl hl.1 rfl (lv_room (Nat.le_of_ble_eq_true rfl)) dX4_movesApart_108 ⟨(Nat.zero_le _), (Nat.zero_le _)⟩) hS (fun q _ h => hf9 q h) hf9 (fun r u t H locs ht hvm hw hB hz1 hk1 hS => ?_)
          obtain ⟨hP, hK9, hD9⟩ := hB
          rw [ht] at hP
          try dsimp only at hw
          subst hw
          have hD := hD9.weaken (fun _ q _ h => hf9 q.1 h)
          obtain ⟨y47, hy47, hF⟩ := bnd_some hF
          have J47 : ∀ (H : Heap) (locs : List Loc) (ls : Array Slot), va_P D classes (wld ct ad G y46.1) H → va_D A (wld ct ad G y46.1) → va_S A s.heap H locs → lv_has ls 11 [(8, .int y9), (7, .int y8), (6, .int x7), (5, .int x5), (4, .int x4), (3, .int x2), (0, .ref (ad a)), (1, .int p0), (2, .int p1)] → W p l e (headSpec wsX4_movesApart ({ frames := 1, cells := 0, slots := 0, locals := 24 })).room s m ([.ref (ad a), .int p0, .int p1] : List Value).toArray below meth c H locs 0 0 (MQ below (va_Qi (fun (q : Int32) (_ : Unit) => q = y.2) (fun _ t => kE D ct ad G A y.1 t) A) ([.ref (ad a), .int p0, .int p1] : List Value).toArray s 0 0 A) (F0 m 119 ls [.int y47]) := by
            intro H locs ls hP hD hS hl
            obtain rfl := Option.some.inj hF
            exact J42 _ _ _ hP hD hS (lv_sub hl [0, 1, 2, 3, 4, 5, 6, 7, 8] rfl)
          clear hF
          have hF := hy47
          clear hy47
          refine lv_if_eq (tgt := 118) hx hb dX4_movesApart_111 (by decide) (fun c48 => ?_) (fun c48 => ?_)
          · rw [if_pos c48] at hF
            refine lv_iconst (v := (0 : Int32)) hx hb dX4_movesApart_118 (by decide) ?_
            obtain rfl := Option.some.inj hF
            exact J47 _ _ _ hP hD hS (lv_sub hl [0, 1, 2, 3, 4, 5, 6, 7, 8] rfl)
          · rw [if_neg c48] at hF
            refine lv_iconst (v := (1 : Int32)) hx hb dX4_movesApart_114 (by decide) ?_
            refine lv_goto (tgt := 119) hx hb dX4_movesApart_115 (by decide) ?_
            obtain rfl := Option.some.inj hF
            exact J47 _ _ _ hP hD hS (lv_sub hl [0, 1, 2, 3, 4, 5, 6, 7, 8] rfl)
      · rw [if_neg c41] at hF
        refine lv_aload_n hx hb dX4_movesApart_83 rfl (lv_at hl 6 rfl) ?_
        refine lv_iload_n hx hb dX4_movesApart_84 rfl (lv_at hl 7 rfl) ?_
        refine lv_iload_n hx hb dX4_movesApart_85 rfl (lv_at hl 8 rfl) ?_
        obtain ⟨y49, hy49, hF⟩ := bnd_some hF
        have hf9 := wA_in hD hA9 hS
        refine va_calli (va_runV (As := [.int p0, .int p1]) (rest := []) ⟨hx, hb, hml, hown, hts⟩ (kX4_farApart l D ct ad Z G M H.size a p0 p1 y49 hc hk hy49) (cwV 2 hts gX4_movesApart_X4_farApart rfl rfl rfl (by decide +kernel) ⟨Nat.le_of_ble_eq_true rfl, Nat.le_of_ble_eq_true rfl⟩) ⟨fun a U g mk q => by obtain ⟨q0, q1, qP, qK, qD, qZ, qN⟩ := q; exact ⟨q0, q1, qP, va_K.moved (u := U) (U := U.calling g mk a) (Vm.Alike.refl U.vm) qK, qD, sF.moved (u := U) (U := U.calling g mk a) (Vm.Alike.refl U.vm) qZ, nF.same rfl qN⟩, va_recv hK hP (ci := 4) (q0 := a) rfl (wld_o ct ad G M hc hk (by decide)), fun U hU hW => ⟨rfl, by rw [hU], by rw [hU]; exact hP, va_K.moved hW.alike hK, hD.weaken (fun _ _ _ _ => trivial), by rw [hU]; exact ((hZ.kept hS.2.1).narrow hf9).moved hW.alike, hN.warm hW⟩⟩ rfl rfl hl.1 rfl (lv_room (Nat.le_of_ble_eq_true rfl)) dX4_movesApart_86 ⟨(Nat.zero_le _), (Nat.zero_le _)⟩) hS (fun q _ h => hf9 q h) hf9 (fun r u t H locs ht hvm hw hB hz1 hk1 hS => ?_)
        obtain ⟨hP, hK9, hD9⟩ := hB
        rw [ht] at hP
        try dsimp only at hw
        subst hw
        have hD := hD9.weaken (fun _ q _ h => hf9 q.1 h)
        obtain ⟨y50, hy50, hF⟩ := bnd_some hF
        have J50 : ∀ (H : Heap) (locs : List Loc) (ls : Array Slot), va_P D classes (wld ct ad G y50.2) H → va_D A (wld ct ad G y50.2) → va_S A s.heap H locs → lv_has ls 11 [(8, .int y9), (7, .int y8), (6, .int x7), (5, .int x5), (4, .int x4), (3, .int x2), (0, .ref (ad a)), (1, .int p0), (2, .int p1)] → W p l e (headSpec wsX4_movesApart ({ frames := 1, cells := 0, slots := 0, locals := 24 })).room s m ([.ref (ad a), .int p0, .int p1] : List Value).toArray below meth c H locs 0 0 (MQ below (va_Qi (fun (q : Int32) (_ : Unit) => q = y.2) (fun _ t => kE D ct ad G A y.1 t) A) ([.ref (ad a), .int p0, .int p1] : List Value).toArray s 0 0 A) (F0 m 119 ls [.int y50.1]) := by
          intro H locs ls hP hD hS hl
          obtain rfl := Option.some.inj hF
          exact J10 _ _ _ hP hD hS (lv_sub hl [0, 1, 2, 3, 4, 5, 6, 7, 8] rfl)
        clear hF
        have hF := hy50
        clear hy50
        refine lv_if_ne (tgt := 114) hx hb dX4_movesApart_89 (by decide) (fun c51 => ?_) (fun c51 => ?_)
        · rw [if_neg c51] at hF
          refine lv_iconst (v := (1 : Int32)) hx hb dX4_movesApart_114 (by decide) ?_
          refine lv_goto (tgt := 119) hx hb dX4_movesApart_115 (by decide) ?_
          obtain rfl := Option.some.inj hF
          exact J50 _ _ _ hP hD hS (lv_sub hl [0, 1, 2, 3, 4, 5, 6, 7, 8] rfl)
        · rw [if_pos c51] at hF
          refine lv_iload hx hb dX4_movesApart_92 (lv_at hl 4 rfl) ?_
          obtain ⟨y52, hy52, hF⟩ := bnd_some hF
          have J52 : ∀ (H : Heap) (locs : List Loc) (ls : Array Slot), va_P D classes (wld ct ad G y52.2) H → va_D A (wld ct ad G y52.2) → va_S A s.heap H locs → lv_has ls 11 [(8, .int y9), (7, .int y8), (6, .int x7), (5, .int x5), (4, .int x4), (3, .int x2), (0, .ref (ad a)), (1, .int p0), (2, .int p1)] → W p l e (headSpec wsX4_movesApart ({ frames := 1, cells := 0, slots := 0, locals := 24 })).room s m ([.ref (ad a), .int p0, .int p1] : List Value).toArray below meth c H locs 0 0 (MQ below (va_Qi (fun (q : Int32) (_ : Unit) => q = y.2) (fun _ t => kE D ct ad G A y.1 t) A) ([.ref (ad a), .int p0, .int p1] : List Value).toArray s 0 0 A) (F0 m 119 ls [.int y52.1]) := by
            intro H locs ls hP hD hS hl
            obtain rfl := Option.some.inj hF
            exact J50 _ _ _ hP hD hS (lv_sub hl [0, 1, 2, 3, 4, 5, 6, 7, 8] rfl)
          clear hF
          have hF := hy52
          clear hy52
          refine lv_if_eq (tgt := 118) hx hb dX4_movesApart_94 (by decide) (fun c53 => ?_) (fun c53 => ?_)
          · rw [if_pos c53] at hF
            refine lv_iconst (v := (0 : Int32)) hx hb dX4_movesApart_118 (by decide) ?_
            obtain rfl := Option.some.inj hF
            exact J52 _ _ _ hP hD hS (lv_sub hl [0, 1, 2, 3, 4, 5, 6, 7, 8] rfl)
          · rw [if_neg c53] at hF
            refine lv_aload_n hx hb dX4_movesApart_97 rfl (lv_at hl 6 rfl) ?_
            refine lv_sipush (v := (512 : Int32)) hx hb dX4_movesApart_98 (by decide) ?_
            refine lv_iload_n hx hb dX4_movesApart_101 rfl (lv_at hl 7 rfl) ?_
            refine lv_iadd hx hb dX4_movesApart_102 ?_
            obtain ⟨x54, ex54, hF⟩ := ltt_some hF
            refine lv_topi (fun zx54 ezx54 => ?_)
            obtain rfl : x54 = zx54 := ex54.trans ezx54.symm
            refine lv_sipush (v := (512 : Int32)) hx hb dX4_movesApart_103 (by decide) ?_
            refine lv_iload_n hx hb dX4_movesApart_106 rfl (lv_at hl 8 rfl) ?_
            refine lv_iadd hx hb dX4_movesApart_107 ?_
            obtain ⟨x55, ex55, hF⟩ := ltt_some hF
            refine lv_topi (fun zx55 ezx55 => ?_)
            obtain rfl : x55 = zx55 := ex55.trans ezx55.symm
            obtain ⟨y56, hy56, hF⟩ := bnd_some hF
            have hf9 := wA_in hD hA9 hS
            refine va_calli (va_runV (As := [.int x54, .int x55]) (rest := []) ⟨hx, hb, hml, hown, hts⟩ (kX4_farApart l D ct ad Z G y49.1 H.size a x54 x55 y56 hc hk hy56) (cwV 2 hts gX4_movesApart_X4_farApart rfl rfl rfl (by decide +kernel) ⟨Nat.le_of_ble_eq_true rfl, Nat.le_of_ble_eq_true rfl⟩) ⟨fun a U g mk q => by obtain ⟨q0, q1, qP, qK, qD, qZ, qN⟩ := q; exact ⟨q0, q1, qP, va_K.moved (u := U) (U := U.calling g mk a) (Vm.Alike.refl U.vm) qK, qD, sF.moved (u := U) (U := U.calling g mk a) (Vm.Alike.refl U.vm) qZ, nF.same rfl qN⟩, va_recv hK hP (ci := 4) (q0 := a) rfl (wld_o ct ad G y49.1 hc hk (by decide)), fun U hU hW => ⟨rfl, by rw [hU], by rw [hU]; exact hP, va_K.moved hW.alike hK, hD.weaken (fun _ _ _ _ => trivial), by rw [hU]; exact ((hZ.kept hS.2.1).narrow hf9).moved hW.alike, hN.warm hW⟩⟩ rfl rfl hl.1 rfl (lv_room (Nat.le_of_ble_eq_true rfl)) dX4_movesApart_108 ⟨(Nat.zero_le _), (Nat.zero_le _)⟩) hS (fun q _ h => hf9 q h) hf9 (fun r u t H locs ht hvm hw hB hz1 hk1 hS => ?_)
            obtain ⟨hP, hK9, hD9⟩ := hB
            rw [ht] at hP
            try dsimp only at hw
            subst hw
            have hD := hD9.weaken (fun _ q _ h => hf9 q.1 h)
            obtain ⟨y57, hy57, hF⟩ := bnd_some hF
            have J57 : ∀ (H : Heap) (locs : List Loc) (ls : Array Slot), va_P D classes (wld ct ad G y56.1) H → va_D A (wld ct ad G y56.1) → va_S A s.heap H locs → lv_has ls 11 [(8, .int y9), (7, .int y8), (6, .int x7), (5, .int x5), (4, .int x4), (3, .int x2), (0, .ref (ad a)), (1, .int p0), (2, .int p1)] → W p l e (headSpec wsX4_movesApart ({ frames := 1, cells := 0, slots := 0, locals := 24 })).room s m ([.ref (ad a), .int p0, .int p1] : List Value).toArray below meth c H locs 0 0 (MQ below (va_Qi (fun (q : Int32) (_ : Unit) => q = y.2) (fun _ t => kE D ct ad G A y.1 t) A) ([.ref (ad a), .int p0, .int p1] : List Value).toArray s 0 0 A) (F0 m 119 ls [.int y57]) := by
              intro H locs ls hP hD hS hl
              obtain rfl := Option.some.inj hF
              exact J52 _ _ _ hP hD hS (lv_sub hl [0, 1, 2, 3, 4, 5, 6, 7, 8] rfl)
            clear hF
            have hF := hy57
            clear hy57
            refine lv_if_eq (tgt := 118) hx hb dX4_movesApart_111 (by decide) (fun c58 => ?_) (fun c58 => ?_)
            · rw [if_pos c58] at hF
              refine lv_iconst (v := (0 : Int32)) hx hb dX4_movesApart_118 (by decide) ?_
              obtain rfl := Option.some.inj hF
              exact J57 _ _ _ hP hD hS (lv_sub hl [0, 1, 2, 3, 4, 5, 6, 7, 8] rfl)
            · rw [if_neg c58] at hF
              refine lv_iconst (v := (1 : Int32)) hx hb dX4_movesApart_114 (by decide) ?_
              refine lv_goto (tgt := 119) hx hb dX4_movesApart_115 (by decide) ?_
              obtain rfl := Option.some.inj hF
              exact J57 _ _ _ hP hD hS (lv_sub hl [0, 1, 2, 3, 4, 5, 6, 7, 8] rfl)
    clear hF
    have hF := hy9
    clear hy9
    refine lv_icmp_ne (tgt := 76) hx hb dX4_movesApart_62 (by decide) (fun c59 => ?_) (fun c59 => ?_)
    · rw [if_neg c59] at hF
      refine lv_iconst (v := (0 : Int32)) hx hb dX4_movesApart_76 (by decide) ?_
      obtain rfl := Option.some.inj hF
      exact J9 _ _ _ hP hD hS (lv_sub hl [0, 1, 2, 3, 4, 5, 6, 7] rfl)
    · rw [if_pos c59] at hF
      refine lv_iload hx hb dX4_movesApart_65 (lv_at hl 3 rfl) ?_
      refine lv_iload hx hb dX4_movesApart_67 (lv_at hl 2 rfl) ?_
      obtain ⟨y60, hy60, hF⟩ := bnd_some hF
      have J60 : ∀ (H : Heap) (locs : List Loc) (ls : Array Slot), va_P D classes (wld ct ad G M) H → va_D A (wld ct ad G M) → va_S A s.heap H locs → lv_has ls 11 [(7, .int y8), (6, .int x7), (5, .int x5), (4, .int x4), (3, .int x2), (0, .ref (ad a)), (1, .int p0), (2, .int p1)] → W p l e (headSpec wsX4_movesApart ({ frames := 1, cells := 0, slots := 0, locals := 24 })).room s m ([.ref (ad a), .int p0, .int p1] : List Value).toArray below meth c H locs 0 0 (MQ below (va_Qi (fun (q : Int32) (_ : Unit) => q = y.2) (fun _ t => kE D ct ad G A y.1 t) A) ([.ref (ad a), .int p0, .int p1] : List Value).toArray s 0 0 A) (F0 m 77 ls [.int y60]) := by
        intro H locs ls hP hD hS hl
        obtain rfl := Option.some.inj hF
        exact J9 _ _ _ hP hD hS (lv_sub hl [0, 1, 2, 3, 4, 5, 6, 7] rfl)
      clear hF
      have hF := hy60
      clear hy60
      refine lv_icmp_ne (tgt := 76) hx hb dX4_movesApart_69 (by decide) (fun c61 => ?_) (fun c61 => ?_)
      · rw [if_neg c61] at hF
        refine lv_iconst (v := (0 : Int32)) hx hb dX4_movesApart_76 (by decide) ?_
        obtain rfl := Option.some.inj hF
        exact J60 _ _ _ hP hD hS (lv_sub hl [0, 1, 2, 3, 4, 5, 6, 7] rfl)
      · rw [if_pos c61] at hF
        refine lv_iconst (v := (1 : Int32)) hx hb dX4_movesApart_72 (by decide) ?_
        refine lv_goto (tgt := 77) hx hb dX4_movesApart_73 (by decide) ?_
        obtain rfl := Option.some.inj hF
        exact J60 _ _ _ hP hD hS (lv_sub hl [0, 1, 2, 3, 4, 5, 6, 7] rfl)
  clear hF
  have hF := hy8
  clear hy8
  refine lv_icmp_ne (tgt := 56) hx hb dX4_movesApart_42 (by decide) (fun c62 => ?_) (fun c62 => ?_)
  · rw [if_neg c62] at hF
    refine lv_iconst (v := (0 : Int32)) hx hb dX4_movesApart_56 (by decide) ?_
    obtain rfl := Option.some.inj hF
    exact J8 _ _ _ hP hD hS (lv_sub hl [0, 1, 2, 3, 4, 5, 6] rfl)
  · rw [if_pos c62] at hF
    refine lv_iload hx hb dX4_movesApart_45 (lv_at hl 2 rfl) ?_
    refine lv_iload hx hb dX4_movesApart_47 (lv_at hl 0 rfl) ?_
    obtain ⟨y63, hy63, hF⟩ := bnd_some hF
    have J63 : ∀ (H : Heap) (locs : List Loc) (ls : Array Slot), va_P D classes (wld ct ad G M) H → va_D A (wld ct ad G M) → va_S A s.heap H locs → lv_has ls 11 [(6, .int x7), (5, .int x5), (4, .int x4), (3, .int x2), (0, .ref (ad a)), (1, .int p0), (2, .int p1)] → W p l e (headSpec wsX4_movesApart ({ frames := 1, cells := 0, slots := 0, locals := 24 })).room s m ([.ref (ad a), .int p0, .int p1] : List Value).toArray below meth c H locs 0 0 (MQ below (va_Qi (fun (q : Int32) (_ : Unit) => q = y.2) (fun _ t => kE D ct ad G A y.1 t) A) ([.ref (ad a), .int p0, .int p1] : List Value).toArray s 0 0 A) (F0 m 57 ls [.int y63]) := by
      intro H locs ls hP hD hS hl
      obtain rfl := Option.some.inj hF
      exact J8 _ _ _ hP hD hS (lv_sub hl [0, 1, 2, 3, 4, 5, 6] rfl)
    clear hF
    have hF := hy63
    clear hy63
    refine lv_icmp_ne (tgt := 56) hx hb dX4_movesApart_49 (by decide) (fun c64 => ?_) (fun c64 => ?_)
    · rw [if_neg c64] at hF
      refine lv_iconst (v := (0 : Int32)) hx hb dX4_movesApart_56 (by decide) ?_
      obtain rfl := Option.some.inj hF
      exact J63 _ _ _ hP hD hS (lv_sub hl [0, 1, 2, 3, 4, 5, 6] rfl)
    · rw [if_pos c64] at hF
      refine lv_iconst (v := (1 : Int32)) hx hb dX4_movesApart_52 (by decide) ?_
      refine lv_goto (tgt := 57) hx hb dX4_movesApart_53 (by decide) ?_
      obtain rfl := Option.some.inj hF
      exact J63 _ _ _ hP hD hS (lv_sub hl [0, 1, 2, 3, 4, 5, 6] rfl)
theorem dX4_wide_0 : decode cX4_wide 0 = .ok (.iload_n 1, 1) := by decide +kernel
theorem dX4_wide_1 : decode cX4_wide 1 = .ok (.ifCond .ne 13, 3) := by decide +kernel
theorem dX4_wide_4 : decode cX4_wide 4 = .ok (.bipush 16, 2) := by decide +kernel
theorem dX4_wide_6 : decode cX4_wide 6 = .ok (.aload_n 0, 1) := by decide +kernel
theorem dX4_wide_7 : decode cX4_wide 7 = .ok (.getfield 33, 3) := by decide +kernel
theorem dX4_wide_10 : decode cX4_wide 10 = .ok (.imul, 1) := by decide +kernel
theorem dX4_wide_11 : decode cX4_wide 11 = .ok (.goto 10, 3) := by decide +kernel
theorem dX4_wide_14 : decode cX4_wide 14 = .ok (.bipush 8, 2) := by decide +kernel
theorem dX4_wide_16 : decode cX4_wide 16 = .ok (.aload_n 0, 1) := by decide +kernel
theorem dX4_wide_17 : decode cX4_wide 17 = .ok (.getfield 33, 3) := by decide +kernel
theorem dX4_wide_20 : decode cX4_wide 20 = .ok (.imul, 1) := by decide +kernel
theorem dX4_wide_21 : decode cX4_wide 21 = .ok (.ireturn, 1) := by decide +kernel
def FX4_wide (G : GG) (M : DD) (a : Nat) (p0 : Int32) : Option (DD × Int32) :=
  bnd (if p0 = ((0 : Int32)) then (ltt (M.1 a 1) fun x5 =>
  ltt ((((16 : Int32)) * x5)) fun x6 =>
  some (x6)) else
  (ltt (M.1 a 1) fun x3 =>
  ltt ((((8 : Int32)) * x3)) fun x4 =>
  some (x4))) fun (y1 : Int32) =>
  some (M, y1)
set_option maxHeartbeats 4000000 in
set_option maxRecDepth 100000 in
theorem kX4_wide (l : Launch) (D : va_G) (ct : CT) (ad : Nat → Nat) (Z : Nat → Nat) (G : GG) (M : DD) (sz : Nat) (a : Nat) (p0 : Int32) (y : DD × Int32) (hc : a < G.1) (hk : G.2.1 a = 4) (hF : FX4_wide G M a p0 = some y) : Met l yX4_wide wsX4_wide ({ frames := 0, cells := 0, slots := 0, locals := 0 }) (va_Pc [.ref (ad a), .int p0] (kB D ct ad Z G M sz)) (va_Qi (fun (q : Int32) (_ : Unit) => q = y.2) (fun _ t => kE D ct ad G (wA ad G sz) y.1 t) (wA ad G sz)) 0 0 (wA ad G sz) := by
  refine Met.ofW (cc := cX4_wide) (maxL := 2) (ret := (some .int)) (by decide) rfl ?_
  intro p e s m args below meth c s₁ B hml hv
  obtain ⟨rfl, hsz, hP, hK, hD0, hZ, hN⟩ := hv
  have hx := B.exec
  have hb := B.bytes
  have hr := B.returns
  have hts := atoms_spec (ws := wsX4_wide) B.pre
  have hown : s.vm.findClass RX4 = some m.cls := findClass_of_methodNamed B.named
  have hlocks := B.notSynchronized
  subst hsz
  have hD := wD_self (sz := s.heap.size) hD0
  have hA9 : ∀ q, s.heap.size ≤ q → wA ad G s.heap.size q := fun q h => Or.inr h
  generalize hAe : wA ad G s.heap.size = A at hD hA9 hZ ⊢
  have hS : va_S A s.heap s.heap [] := va_S.rf
  have hl := lv_entry ([.ref (ad a), .int p0]) (n := 2) (Nat.le_of_ble_eq_true rfl)
  rw [lg_entry_eq]
  generalize (lg_sl ([.ref (ad a), .int p0]) ++ List.replicate (2 - (lg_sl ([.ref (ad a), .int p0])).length) Slot.unset).toArray = ls at hl ⊢
  have hl : lv_has ls 2 [(0, .ref (ad a)), (1, .int p0)] := hl
  unfold FX4_wide at hF
  refine lv_iload_n hx hb dX4_wide_0 rfl (lv_at hl 1 rfl) ?_
  obtain ⟨y1, hy1, hF⟩ := bnd_some hF
  have J1 : ∀ (H : Heap) (locs : List Loc) (ls : Array Slot), va_P D classes (wld ct ad G M) H → va_D A (wld ct ad G M) → va_S A s.heap H locs → lv_has ls 2 [(0, .ref (ad a)), (1, .int p0)] → W p l e (headSpec wsX4_wide ({ frames := 0, cells := 0, slots := 0, locals := 0 })).room s m ([.ref (ad a), .int p0] : List Value).toArray below meth c H locs 0 0 (MQ below (va_Qi (fun (q : Int32) (_ : Unit) => q = y.2) (fun _ t => kE D ct ad G A y.1 t) A) ([.ref (ad a), .int p0] : List Value).toArray s 0 0 A) (F0 m 21 ls [.int y1]) := by
    intro H locs ls hP hD hS hl
    obtain rfl := Option.some.inj hF
    exact W.iret (v := y1) hx hb hr (fun t ht hW => ⟨⟨_, (), rfl, rfl, ⟨by rw [ht]; exact hP, va_K.moved hW.alike hK, hD⟩⟩, hS.F ht⟩) hS.2.2 dX4_wide_21
  clear hF
  have hF := hy1
  clear hy1
  refine lv_if_ne (tgt := 14) hx hb dX4_wide_1 (by decide) (fun c2 => ?_) (fun c2 => ?_)
  · rw [if_neg c2] at hF
    refine lv_bipush (v := (8 : Int32)) hx hb dX4_wide_14 (by decide) ?_
    refine lv_aload_n hx hb dX4_wide_16 rfl (lv_at hl 0 rfl) ?_
    refine va_get (D := D) (ci := 4) (v := .int (M.1 a 1)) (C := RX4) (T := TX4) (N := 18) hx hb hts (by decide +kernel) hown hK hP a (wld_o ct ad G M hc hk (by decide)) rfl 1 (by decide) (hts (.fieldLink RX4 33 "VideoSuite$Picture" "width" "I") (by decide +kernel)) (fun _ h9 => h9) rfl dX4_wide_17 ?_
    obtain ⟨x3, ex3, hF⟩ := ltt_some hF
    refine lv_topi (fun zx3 ezx3 => ?_)
    obtain rfl : x3 = zx3 := ex3.trans ezx3.symm
    refine lv_imul hx hb dX4_wide_20 ?_
    obtain ⟨x4, ex4, hF⟩ := ltt_some hF
    refine lv_topi (fun zx4 ezx4 => ?_)
    obtain rfl : x4 = zx4 := ex4.trans ezx4.symm
    obtain rfl := Option.some.inj hF
    exact J1 _ _ _ hP hD hS (lv_sub hl [0, 1] rfl)
  · rw [if_pos c2] at hF
    refine lv_bipush (v := (16 : Int32)) hx hb dX4_wide_4 (by decide) ?_
    refine lv_aload_n hx hb dX4_wide_6 rfl (lv_at hl 0 rfl) ?_
    refine va_get (D := D) (ci := 4) (v := .int (M.1 a 1)) (C := RX4) (T := TX4) (N := 18) hx hb hts (by decide +kernel) hown hK hP a (wld_o ct ad G M hc hk (by decide)) rfl 1 (by decide) (hts (.fieldLink RX4 33 "VideoSuite$Picture" "width" "I") (by decide +kernel)) (fun _ h9 => h9) rfl dX4_wide_7 ?_
    obtain ⟨x5, ex5, hF⟩ := ltt_some hF
    refine lv_topi (fun zx5 ezx5 => ?_)
    obtain rfl : x5 = zx5 := ex5.trans ezx5.symm
    refine lv_imul hx hb dX4_wide_10 ?_
    obtain ⟨x6, ex6, hF⟩ := ltt_some hF
    refine lv_topi (fun zx6 ezx6 => ?_)
    obtain rfl : x6 = zx6 := ex6.trans ezx6.symm
    refine lv_goto (tgt := 21) hx hb dX4_wide_11 (by decide) ?_
    obtain rfl := Option.some.inj hF
    exact J1 _ _ _ hP hD hS (lv_sub hl [0, 1] rfl)
theorem dX5_bit_0 : decode cX5_bit 0 = .ok (.iconst 0, 1) := by decide +kernel
theorem dX5_bit_1 : decode cX5_bit 1 = .ok (.istore_n 3, 1) := by decide +kernel
theorem dX5_bit_2 : decode cX5_bit 2 = .ok (.aload_n 0, 1) := by decide +kernel
theorem dX5_bit_3 : decode cX5_bit 3 = .ok (.getfield 66, 3) := by decide +kernel
theorem dX5_bit_6 : decode cX5_bit 6 = .ok (.ifCond .eq 169, 3) := by decide +kernel
theorem dX5_bit_9 : decode cX5_bit 9 = .ok (.bipush 16, 2) := by decide +kernel
theorem dX5_bit_11 : decode cX5_bit 11 = .ok (.iload_n 1, 1) := by decide +kernel
theorem dX5_bit_12 : decode cX5_bit 12 = .ok (.imul, 1) := by decide +kernel
theorem dX5_bit_13 : decode cX5_bit 13 = .ok (.iload_n 2, 1) := by decide +kernel
theorem dX5_bit_14 : decode cX5_bit 14 = .ok (.bipush 15, 2) := by decide +kernel
theorem dX5_bit_16 : decode cX5_bit 16 = .ok (.if_icmp .ge 7, 3) := by decide +kernel
theorem dX5_bit_19 : decode cX5_bit 19 = .ok (.iload_n 2, 1) := by decide +kernel
theorem dX5_bit_20 : decode cX5_bit 20 = .ok (.goto 5, 3) := by decide +kernel
theorem dX5_bit_23 : decode cX5_bit 23 = .ok (.bipush 15, 2) := by decide +kernel
theorem dX5_bit_25 : decode cX5_bit 25 = .ok (.iadd, 1) := by decide +kernel
theorem dX5_bit_26 : decode cX5_bit 26 = .ok (.istore 4, 2) := by decide +kernel
theorem dX5_bit_28 : decode cX5_bit 28 = .ok (.aload_n 0, 1) := by decide +kernel
theorem dX5_bit_29 : decode cX5_bit 29 = .ok (.getfield 11, 3) := by decide +kernel
theorem dX5_bit_32 : decode cX5_bit 32 = .ok (.iload 4, 2) := by decide +kernel
theorem dX5_bit_34 : decode cX5_bit 34 = .ok (.iaload, 1) := by decide +kernel
theorem dX5_bit_35 : decode cX5_bit 35 = .ok (.iconst 1, 1) := by decide +kernel
theorem dX5_bit_36 : decode cX5_bit 36 = .ok (.ishr, 1) := by decide +kernel
theorem dX5_bit_37 : decode cX5_bit 37 = .ok (.istore 5, 2) := by decide +kernel
theorem dX5_bit_39 : decode cX5_bit 39 = .ok (.aload_n 0, 1) := by decide +kernel
theorem dX5_bit_40 : decode cX5_bit 40 = .ok (.getfield 11, 3) := by decide +kernel
theorem dX5_bit_43 : decode cX5_bit 43 = .ok (.iload 4, 2) := by decide +kernel
theorem dX5_bit_45 : decode cX5_bit 45 = .ok (.iaload, 1) := by decide +kernel
theorem dX5_bit_46 : decode cX5_bit 46 = .ok (.iconst 1, 1) := by decide +kernel
theorem dX5_bit_47 : decode cX5_bit 47 = .ok (.iand, 1) := by decide +kernel
theorem dX5_bit_48 : decode cX5_bit 48 = .ok (.istore 6, 2) := by decide +kernel
theorem dX5_bit_50 : decode cX5_bit 50 = .ok (.getstatic 93, 3) := by decide +kernel
theorem dX5_bit_53 : decode cX5_bit 53 = .ok (.iconst 4, 1) := by decide +kernel
theorem dX5_bit_54 : decode cX5_bit 54 = .ok (.iload 5, 2) := by decide +kernel
theorem dX5_bit_56 : decode cX5_bit 56 = .ok (.imul, 1) := by decide +kernel
theorem dX5_bit_57 : decode cX5_bit 57 = .ok (.aload_n 0, 1) := by decide +kernel
theorem dX5_bit_58 : decode cX5_bit 58 = .ok (.getfield 96, 3) := by decide +kernel
theorem dX5_bit_61 : decode cX5_bit 61 = .ok (.bipush 6, 2) := by decide +kernel
theorem dX5_bit_63 : decode cX5_bit 63 = .ok (.ishr, 1) := by decide +kernel
theorem dX5_bit_64 : decode cX5_bit 64 = .ok (.iconst 3, 1) := by decide +kernel
theorem dX5_bit_65 : decode cX5_bit 65 = .ok (.iand, 1) := by decide +kernel
theorem dX5_bit_66 : decode cX5_bit 66 = .ok (.iadd, 1) := by decide +kernel
theorem dX5_bit_67 : decode cX5_bit 67 = .ok (.iaload, 1) := by decide +kernel
theorem dX5_bit_68 : decode cX5_bit 68 = .ok (.istore 7, 2) := by decide +kernel
theorem dX5_bit_70 : decode cX5_bit 70 = .ok (.iload 6, 2) := by decide +kernel
theorem dX5_bit_72 : decode cX5_bit 72 = .ok (.istore_n 3, 1) := by decide +kernel
theorem dX5_bit_73 : decode cX5_bit 73 = .ok (.aload_n 0, 1) := by decide +kernel
theorem dX5_bit_74 : decode cX5_bit 74 = .ok (.dup, 1) := by decide +kernel
theorem dX5_bit_75 : decode cX5_bit 75 = .ok (.getfield 96, 3) := by decide +kernel
theorem dX5_bit_78 : decode cX5_bit 78 = .ok (.iload 7, 2) := by decide +kernel
theorem dX5_bit_80 : decode cX5_bit 80 = .ok (.isub, 1) := by decide +kernel
theorem dX5_bit_81 : decode cX5_bit 81 = .ok (.putfield 96, 3) := by decide +kernel
theorem dX5_bit_84 : decode cX5_bit 84 = .ok (.aload_n 0, 1) := by decide +kernel
theorem dX5_bit_85 : decode cX5_bit 85 = .ok (.getfield 99, 3) := by decide +kernel
theorem dX5_bit_88 : decode cX5_bit 88 = .ok (.aload_n 0, 1) := by decide +kernel
theorem dX5_bit_89 : decode cX5_bit 89 = .ok (.getfield 96, 3) := by decide +kernel
theorem dX5_bit_92 : decode cX5_bit 92 = .ok (.if_icmp .ge 24, 3) := by decide +kernel
theorem dX5_bit_95 : decode cX5_bit 95 = .ok (.iload 5, 2) := by decide +kernel
theorem dX5_bit_97 : decode cX5_bit 97 = .ok (.bipush 62, 2) := by decide +kernel
theorem dX5_bit_99 : decode cX5_bit 99 = .ok (.if_icmp .ge 10, 3) := by decide +kernel
theorem dX5_bit_102 : decode cX5_bit 102 = .ok (.iload 5, 2) := by decide +kernel
theorem dX5_bit_104 : decode cX5_bit 104 = .ok (.iconst 1, 1) := by decide +kernel
theorem dX5_bit_105 : decode cX5_bit 105 = .ok (.iadd, 1) := by decide +kernel
theorem dX5_bit_106 : decode cX5_bit 106 = .ok (.goto 5, 3) := by decide +kernel
theorem dX5_bit_109 : decode cX5_bit 109 = .ok (.bipush 62, 2) := by decide +kernel
theorem dX5_bit_111 : decode cX5_bit 111 = .ok (.istore 5, 2) := by decide +kernel
theorem dX5_bit_113 : decode cX5_bit 113 = .ok (.goto 48, 3) := by decide +kernel
theorem dX5_bit_116 : decode cX5_bit 116 = .ok (.iconst 1, 1) := by decide +kernel
theorem dX5_bit_117 : decode cX5_bit 117 = .ok (.iload 6, 2) := by decide +kernel
theorem dX5_bit_119 : decode cX5_bit 119 = .ok (.isub, 1) := by decide +kernel
theorem dX5_bit_120 : decode cX5_bit 120 = .ok (.istore_n 3, 1) := by decide +kernel
theorem dX5_bit_121 : decode cX5_bit 121 = .ok (.aload_n 0, 1) := by decide +kernel
theorem dX5_bit_122 : decode cX5_bit 122 = .ok (.dup, 1) := by decide +kernel
theorem dX5_bit_123 : decode cX5_bit 123 = .ok (.getfield 99, 3) := by decide +kernel
theorem dX5_bit_126 : decode cX5_bit 126 = .ok (.aload_n 0, 1) := by decide +kernel
theorem dX5_bit_127 : decode cX5_bit 127 = .ok (.getfield 96, 3) := by decide +kernel
theorem dX5_bit_130 : decode cX5_bit 130 = .ok (.isub, 1) := by decide +kernel
theorem dX5_bit_131 : decode cX5_bit 131 = .ok (.putfield 99, 3) := by decide +kernel
theorem dX5_bit_134 : decode cX5_bit 134 = .ok (.aload_n 0, 1) := by decide +kernel
theorem dX5_bit_135 : decode cX5_bit 135 = .ok (.iload 7, 2) := by decide +kernel
theorem dX5_bit_137 : decode cX5_bit 137 = .ok (.putfield 96, 3) := by decide +kernel
theorem dX5_bit_140 : decode cX5_bit 140 = .ok (.iload 5, 2) := by decide +kernel
theorem dX5_bit_142 : decode cX5_bit 142 = .ok (.ifCond .ne 7, 3) := by decide +kernel
theorem dX5_bit_145 : decode cX5_bit 145 = .ok (.iload_n 3, 1) := by decide +kernel
theorem dX5_bit_146 : decode cX5_bit 146 = .ok (.goto 5, 3) := by decide +kernel
theorem dX5_bit_149 : decode cX5_bit 149 = .ok (.iload 6, 2) := by decide +kernel
theorem dX5_bit_151 : decode cX5_bit 151 = .ok (.istore 6, 2) := by decide +kernel
theorem dX5_bit_153 : decode cX5_bit 153 = .ok (.getstatic 102, 3) := by decide +kernel
theorem dX5_bit_156 : decode cX5_bit 156 = .ok (.iload 5, 2) := by decide +kernel
theorem dX5_bit_158 : decode cX5_bit 158 = .ok (.iaload, 1) := by decide +kernel
theorem dX5_bit_159 : decode cX5_bit 159 = .ok (.istore 5, 2) := by decide +kernel
theorem dX5_bit_161 : decode cX5_bit 161 = .ok (.aload_n 0, 1) := by decide +kernel
theorem dX5_bit_162 : decode cX5_bit 162 = .ok (.getfield 11, 3) := by decide +kernel
theorem dX5_bit_165 : decode cX5_bit 165 = .ok (.iload 4, 2) := by decide +kernel
theorem dX5_bit_167 : decode cX5_bit 167 = .ok (.iload 5, 2) := by decide +kernel
theorem dX5_bit_169 : decode cX5_bit 169 = .ok (.iconst 1, 1) := by decide +kernel
theorem dX5_bit_170 : decode cX5_bit 170 = .ok (.ishl, 1) := by decide +kernel
theorem dX5_bit_171 : decode cX5_bit 171 = .ok (.iload 6, 2) := by decide +kernel
theorem dX5_bit_173 : decode cX5_bit 173 = .ok (.ior, 1) := by decide +kernel
theorem dX5_bit_174 : decode cX5_bit 174 = .ok (.iastore, 1) := by decide +kernel
theorem dX5_bit_175 : decode cX5_bit 175 = .ok (.iconst 0, 1) := by decide +kernel
theorem dX5_bit_176 : decode cX5_bit 176 = .ok (.istore 4, 2) := by decide +kernel
theorem dX5_bit_178 : decode cX5_bit 178 = .ok (.iload 4, 2) := by decide +kernel
theorem dX5_bit_180 : decode cX5_bit 180 = .ok (.bipush 9, 2) := by decide +kernel
theorem dX5_bit_182 : decode cX5_bit 182 = .ok (.if_icmp .ge 157, 3) := by decide +kernel
theorem dX5_bit_185 : decode cX5_bit 185 = .ok (.aload_n 0, 1) := by decide +kernel
theorem dX5_bit_186 : decode cX5_bit 186 = .ok (.getfield 66, 3) := by decide +kernel
theorem dX5_bit_189 : decode cX5_bit 189 = .ok (.ifCond .eq 16, 3) := by decide +kernel
theorem dX5_bit_192 : decode cX5_bit 192 = .ok (.aload_n 0, 1) := by decide +kernel
theorem dX5_bit_193 : decode cX5_bit 193 = .ok (.getfield 96, 3) := by decide +kernel
theorem dX5_bit_196 : decode cX5_bit 196 = .ok (.sipush 256, 3) := by decide +kernel
theorem dX5_bit_199 : decode cX5_bit 199 = .ok (.if_icmp .ge 140, 3) := by decide +kernel
theorem dX5_bit_202 : decode cX5_bit 202 = .ok (.goto 9, 3) := by decide +kernel
theorem dX5_bit_205 : decode cX5_bit 205 = .ok (.iload 4, 2) := by decide +kernel
theorem dX5_bit_207 : decode cX5_bit 207 = .ok (.iconst 1, 1) := by decide +kernel
theorem dX5_bit_208 : decode cX5_bit 208 = .ok (.if_icmp .ge 131, 3) := by decide +kernel
theorem dX5_bit_211 : decode cX5_bit 211 = .ok (.aload_n 0, 1) := by decide +kernel
theorem dX5_bit_212 : decode cX5_bit 212 = .ok (.getfield 57, 3) := by decide +kernel
theorem dX5_bit_215 : decode cX5_bit 215 = .ok (.aload_n 0, 1) := by decide +kernel
theorem dX5_bit_216 : decode cX5_bit 216 = .ok (.getfield 47, 3) := by decide +kernel
theorem dX5_bit_219 : decode cX5_bit 219 = .ok (.if_icmp .lt 40, 3) := by decide +kernel
theorem dX5_bit_222 : decode cX5_bit 222 = .ok (.aload_n 0, 1) := by decide +kernel
theorem dX5_bit_223 : decode cX5_bit 223 = .ok (.iconst 1, 1) := by decide +kernel
theorem dX5_bit_224 : decode cX5_bit 224 = .ok (.putfield 76, 3) := by decide +kernel
theorem dX5_bit_227 : decode cX5_bit 227 = .ok (.aload_n 0, 1) := by decide +kernel
theorem dX5_bit_228 : decode cX5_bit 228 = .ok (.aload_n 0, 1) := by decide +kernel
theorem dX5_bit_229 : decode cX5_bit 229 = .ok (.getfield 70, 3) := by decide +kernel
theorem dX5_bit_232 : decode cX5_bit 232 = .ok (.ifCond .eq 10, 3) := by decide +kernel
theorem dX5_bit_235 : decode cX5_bit 235 = .ok (.aload_n 0, 1) := by decide +kernel
theorem dX5_bit_236 : decode cX5_bit 236 = .ok (.getfield 57, 3) := by decide +kernel
theorem dX5_bit_239 : decode cX5_bit 239 = .ok (.goto 7, 3) := by decide +kernel
theorem dX5_bit_242 : decode cX5_bit 242 = .ok (.aload_n 0, 1) := by decide +kernel
theorem dX5_bit_243 : decode cX5_bit 243 = .ok (.getfield 60, 3) := by decide +kernel
theorem dX5_bit_246 : decode cX5_bit 246 = .ok (.putfield 79, 3) := by decide +kernel
theorem dX5_bit_249 : decode cX5_bit 249 = .ok (.new 82, 3) := by decide +kernel
theorem dX5_bit_252 : decode cX5_bit 252 = .ok (.dup, 1) := by decide +kernel
theorem dX5_bit_253 : decode cX5_bit 253 = .ok (.ldc 105, 2) := by decide +kernel
theorem dX5_bit_255 : decode cX5_bit 255 = .ok (.invokespecial 86, 3) := by decide +kernel
theorem dX5_bit_258 : decode cX5_bit 258 = .ok (.athrow, 1) := by decide +kernel
theorem dX5_bit_259 : decode cX5_bit 259 = .ok (.aload_n 0, 1) := by decide +kernel
theorem dX5_bit_260 : decode cX5_bit 260 = .ok (.getfield 40, 3) := by decide +kernel
theorem dX5_bit_263 : decode cX5_bit 263 = .ok (.iconst 1, 1) := by decide +kernel
theorem dX5_bit_264 : decode cX5_bit 264 = .ok (.aload_n 0, 1) := by decide +kernel
theorem dX5_bit_265 : decode cX5_bit 265 = .ok (.getfield 57, 3) := by decide +kernel
theorem dX5_bit_268 : decode cX5_bit 268 = .ok (.iconst 3, 1) := by decide +kernel
theorem dX5_bit_269 : decode cX5_bit 269 = .ok (.ishr, 1) := by decide +kernel
theorem dX5_bit_270 : decode cX5_bit 270 = .ok (.iadd, 1) := by decide +kernel
theorem dX5_bit_271 : decode cX5_bit 271 = .ok (.baload, 1) := by decide +kernel
theorem dX5_bit_272 : decode cX5_bit 272 = .ok (.bipush 7, 2) := by decide +kernel
theorem dX5_bit_274 : decode cX5_bit 274 = .ok (.aload_n 0, 1) := by decide +kernel
theorem dX5_bit_275 : decode cX5_bit 275 = .ok (.getfield 57, 3) := by decide +kernel
theorem dX5_bit_278 : decode cX5_bit 278 = .ok (.bipush 7, 2) := by decide +kernel
theorem dX5_bit_280 : decode cX5_bit 280 = .ok (.iand, 1) := by decide +kernel
theorem dX5_bit_281 : decode cX5_bit 281 = .ok (.isub, 1) := by decide +kernel
theorem dX5_bit_282 : decode cX5_bit 282 = .ok (.ishr, 1) := by decide +kernel
theorem dX5_bit_283 : decode cX5_bit 283 = .ok (.iconst 1, 1) := by decide +kernel
theorem dX5_bit_284 : decode cX5_bit 284 = .ok (.iand, 1) := by decide +kernel
theorem dX5_bit_285 : decode cX5_bit 285 = .ok (.istore 5, 2) := by decide +kernel
theorem dX5_bit_287 : decode cX5_bit 287 = .ok (.aload_n 0, 1) := by decide +kernel
theorem dX5_bit_288 : decode cX5_bit 288 = .ok (.dup, 1) := by decide +kernel
theorem dX5_bit_289 : decode cX5_bit 289 = .ok (.getfield 57, 3) := by decide +kernel
theorem dX5_bit_292 : decode cX5_bit 292 = .ok (.iconst 1, 1) := by decide +kernel
theorem dX5_bit_293 : decode cX5_bit 293 = .ok (.iadd, 1) := by decide +kernel
theorem dX5_bit_294 : decode cX5_bit 294 = .ok (.putfield 57, 3) := by decide +kernel
theorem dX5_bit_297 : decode cX5_bit 297 = .ok (.aload_n 0, 1) := by decide +kernel
theorem dX5_bit_298 : decode cX5_bit 298 = .ok (.getfield 66, 3) := by decide +kernel
theorem dX5_bit_301 : decode cX5_bit 301 = .ok (.ifCond .eq 29, 3) := by decide +kernel
theorem dX5_bit_304 : decode cX5_bit 304 = .ok (.aload_n 0, 1) := by decide +kernel
theorem dX5_bit_305 : decode cX5_bit 305 = .ok (.dup, 1) := by decide +kernel
theorem dX5_bit_306 : decode cX5_bit 306 = .ok (.getfield 96, 3) := by decide +kernel
theorem dX5_bit_309 : decode cX5_bit 309 = .ok (.iconst 1, 1) := by decide +kernel
theorem dX5_bit_310 : decode cX5_bit 310 = .ok (.ishl, 1) := by decide +kernel
theorem dX5_bit_311 : decode cX5_bit 311 = .ok (.putfield 96, 3) := by decide +kernel
theorem dX5_bit_314 : decode cX5_bit 314 = .ok (.aload_n 0, 1) := by decide +kernel
theorem dX5_bit_315 : decode cX5_bit 315 = .ok (.aload_n 0, 1) := by decide +kernel
theorem dX5_bit_316 : decode cX5_bit 316 = .ok (.getfield 99, 3) := by decide +kernel
theorem dX5_bit_319 : decode cX5_bit 319 = .ok (.iconst 1, 1) := by decide +kernel
theorem dX5_bit_320 : decode cX5_bit 320 = .ok (.ishl, 1) := by decide +kernel
theorem dX5_bit_321 : decode cX5_bit 321 = .ok (.iload 5, 2) := by decide +kernel
theorem dX5_bit_323 : decode cX5_bit 323 = .ok (.ior, 1) := by decide +kernel
theorem dX5_bit_324 : decode cX5_bit 324 = .ok (.putfield 99, 3) := by decide +kernel
theorem dX5_bit_327 : decode cX5_bit 327 = .ok (.goto 6, 3) := by decide +kernel
theorem dX5_bit_330 : decode cX5_bit 330 = .ok (.iload 5, 2) := by decide +kernel
theorem dX5_bit_332 : decode cX5_bit 332 = .ok (.istore_n 3, 1) := by decide +kernel
theorem dX5_bit_333 : decode cX5_bit 333 = .ok (.iinc 4 1, 3) := by decide +kernel
theorem dX5_bit_336 : decode cX5_bit 336 = .ok (.goto (-158), 3) := by decide +kernel
theorem dX5_bit_339 : decode cX5_bit 339 = .ok (.iload_n 3, 1) := by decide +kernel
theorem dX5_bit_340 : decode cX5_bit 340 = .ok (.ireturn, 1) := by decide +kernel
def FX5_bit (G : GG) (M : DD) (a : Nat) (p0 : Int32) (p1 : Int32) : Option (DD × Int32) :=
  ltt (M.1 a 6) fun x1 =>
  bnd (if x1 = ((0 : Int32)) then (some ((0 : Int32), M)) else
  (ltt ((((16 : Int32)) * p0)) fun x82 =>
  bnd (if ((15 : Int32)) ≤ p1 then (some ((15 : Int32))) else
  (some (p1))) fun (y83 : Int32) =>
  ltt ((x82 + y83)) fun x84 =>
  dr G 13 ((M.2 a 10)) fun b85 =>
  chk (¬ (x84 < 0 ∨ G.2.2 b85 ≤ x84.toNatClampNeg)) <|
  ltt (M.1 b85 x84.toNatClampNeg) fun x86 =>
  ltt ((x86 >>> (((1 : Int32)) &&& 31))) fun x87 =>
  chk (¬ (x84 < 0 ∨ G.2.2 b85 ≤ x84.toNatClampNeg)) <|
  ltt (M.1 b85 x84.toNatClampNeg) fun x88 =>
  ltt ((x88 &&& ((1 : Int32)))) fun x89 =>
  ltt ((((4 : Int32)) * x87)) fun x90 =>
  ltt (M.1 a 8) fun x91 =>
  ltt ((x91 >>> (((6 : Int32)) &&& 31))) fun x92 =>
  ltt ((x92 &&& ((3 : Int32)))) fun x93 =>
  ltt ((x90 + x93)) fun x94 =>
  chk (¬ (x94 < 0 ∨ 256 ≤ x94.toNatClampNeg)) <|
  ltt ((sT 8).getD x94.toNatClampNeg 0) fun x95 =>
  ltt (M.1 a 8) fun x96 =>
  ltt ((x96 - x95)) fun x97 =>
  ltt (uI M a 8 x97) fun M98 =>
  ltt (M98.1 a 9) fun x99 =>
  ltt (M98.1 a 8) fun x100 =>
  bnd (if x100 ≤ x99 then (ltt ((((1 : Int32)) - x89)) fun x107 =>
  ltt (M98.1 a 9) fun x108 =>
  ltt (M98.1 a 8) fun x109 =>
  ltt ((x108 - x109)) fun x110 =>
  ltt (uI M98 a 9 x110) fun M111 =>
  ltt (uI M111 a 8 x95) fun M112 =>
  bnd (if x87 = ((0 : Int32)) then (some (x107)) else
  (some (x89))) fun (y113 : Int32) =>
  chk (¬ (x87 < 0 ∨ 64 ≤ x87.toNatClampNeg)) <|
  ltt ((sT 7).getD x87.toNatClampNeg 0) fun x114 =>
  some (x107, x114, y113, M112)) else
  (bnd (if ((62 : Int32)) ≤ x87 then (some ((62 : Int32))) else
  (ltt ((x87 + ((1 : Int32)))) fun x118 =>
  some (x118))) fun (y116 : Int32) =>
  some (x89, y116, x89, M98))) fun (y101 : Int32 × Int32 × Int32 × DD) =>
  ltt ((y101.2.1 <<< (((1 : Int32)) &&& 31))) fun x102 =>
  ltt ((x102 ||| y101.2.2.1)) fun x103 =>
  dr G 13 ((y101.2.2.2.2 a 10)) fun b104 =>
  chk (¬ (x84 < 0 ∨ G.2.2 b104 ≤ x84.toNatClampNeg)) <|
  ltt (uI y101.2.2.2 b104 x84.toNatClampNeg x103) fun M105 =>
  some (y101.1, M105))) fun (y2 : Int32 × DD) =>
  bnd (itr (fun (s4 : Int32 × Int32 × DD) => ((if ((9 : Int32)) ≤ s4.2.1 then (some (.inr (s4.1, s4.2.1, s4.2.2))) else
  (ltt (s4.2.2.1 a 6) fun x8 =>
  if x8 = ((0 : Int32)) then (if ((1 : Int32)) ≤ s4.2.1 then (some (.inr (s4.1, s4.2.1, s4.2.2))) else
  (ltt (s4.2.2.1 a 2) fun x11 =>
  ltt (s4.2.2.1 a 1) fun x12 =>
  if x11 < x12 then (ltt (s4.2.2.1 a 2) fun x14 =>
  ltt ((x14 >>> (((3 : Int32)) &&& 31))) fun x15 =>
  ltt ((((1 : Int32)) + x15)) fun x16 =>
  dr G 12 ((s4.2.2.2 a 0)) fun b17 =>
  chk (¬ (x16 < 0 ∨ G.2.2 b17 ≤ x16.toNatClampNeg)) <|
  ltt (s4.2.2.1 b17 x16.toNatClampNeg) fun x18 =>
  ltt (s4.2.2.1 a 2) fun x19 =>
  ltt ((x19 &&& ((7 : Int32)))) fun x20 =>
  ltt ((((7 : Int32)) - x20)) fun x21 =>
  ltt ((x18 >>> (x21 &&& 31))) fun x22 =>
  ltt ((x22 &&& ((1 : Int32)))) fun x23 =>
  ltt (s4.2.2.1 a 2) fun x24 =>
  ltt ((x24 + ((1 : Int32)))) fun x25 =>
  ltt (uI s4.2.2 a 2 x25) fun M26 =>
  ltt (M26.1 a 6) fun x27 =>
  bnd (if x27 = ((0 : Int32)) then (some (x23, M26)) else
  (ltt (M26.1 a 8) fun x31 =>
  ltt ((x31 <<< (((1 : Int32)) &&& 31))) fun x32 =>
  ltt (uI M26 a 8 x32) fun M33 =>
  ltt (M33.1 a 9) fun x34 =>
  ltt ((x34 <<< (((1 : Int32)) &&& 31))) fun x35 =>
  ltt ((x35 ||| x23)) fun x36 =>
  ltt (uI M33 a 9 x36) fun M37 =>
  some (s4.1, M37))) fun (y28 : Int32 × DD) =>
  ltt (s4.2.1 + (1 : Int32)) fun x29 =>
  some (.inl (y28.1, x29, y28.2))) else
  (ltt (uI s4.2.2 a 15 ((1 : Int32))) fun M38 =>
  ltt (M38.1 a 7) fun x39 =>
  bnd (if x39 = ((0 : Int32)) then (ltt (M38.1 a 4) fun x43 =>
  some (x43)) else
  (ltt (M38.1 a 2) fun x44 =>
  some (x44))) fun (y40 : Int32) =>
  ltt (uI M38 a 16 y40) fun M41 =>
  none))) else
  (ltt (s4.2.2.1 a 8) fun x45 =>
  if ((256 : Int32)) ≤ x45 then (some (.inr (s4.1, s4.2.1, s4.2.2))) else
  (ltt (s4.2.2.1 a 2) fun x47 =>
  ltt (s4.2.2.1 a 1) fun x48 =>
  if x47 < x48 then (ltt (s4.2.2.1 a 2) fun x50 =>
  ltt ((x50 >>> (((3 : Int32)) &&& 31))) fun x51 =>
  ltt ((((1 : Int32)) + x51)) fun x52 =>
  dr G 12 ((s4.2.2.2 a 0)) fun b53 =>
  chk (¬ (x52 < 0 ∨ G.2.2 b53 ≤ x52.toNatClampNeg)) <|
  ltt (s4.2.2.1 b53 x52.toNatClampNeg) fun x54 =>
  ltt (s4.2.2.1 a 2) fun x55 =>
  ltt ((x55 &&& ((7 : Int32)))) fun x56 =>
  ltt ((((7 : Int32)) - x56)) fun x57 =>
  ltt ((x54 >>> (x57 &&& 31))) fun x58 =>
  ltt ((x58 &&& ((1 : Int32)))) fun x59 =>
  ltt (s4.2.2.1 a 2) fun x60 =>
  ltt ((x60 + ((1 : Int32)))) fun x61 =>
  ltt (uI s4.2.2 a 2 x61) fun M62 =>
  ltt (M62.1 a 6) fun x63 =>
  bnd (if x63 = ((0 : Int32)) then (some (x59, M62)) else
  (ltt (M62.1 a 8) fun x67 =>
  ltt ((x67 <<< (((1 : Int32)) &&& 31))) fun x68 =>
  ltt (uI M62 a 8 x68) fun M69 =>
  ltt (M69.1 a 9) fun x70 =>
  ltt ((x70 <<< (((1 : Int32)) &&& 31))) fun x71 =>
  ltt ((x71 ||| x59)) fun x72 =>
  ltt (uI M69 a 9 x72) fun M73 =>
  some (s4.1, M73))) fun (y64 : Int32 × DD) =>
  ltt (s4.2.1 + (1 : Int32)) fun x65 =>
  some (.inl (y64.1, x65, y64.2))) else
  (ltt (uI s4.2.2 a 15 ((1 : Int32))) fun M74 =>
  ltt (M74.1 a 7) fun x75 =>
  bnd (if x75 = ((0 : Int32)) then (ltt (M74.1 a 4) fun x79 =>
  some (x79)) else
  (ltt (M74.1 a 2) fun x80 =>
  some (x80))) fun (y76 : Int32) =>
  ltt (uI M74 a 16 y76) fun M77 =>
  none))))) : Option ((Int32 × Int32 × DD) ⊕ (Int32 × Int32 × DD)))) 1000000 (y2.1, (0 : Int32), y2.2)) fun (y3 : Int32 × Int32 × DD) =>
  some (y3.2.2, y3.1)
set_option maxHeartbeats 4000000 in
set_option maxRecDepth 100000 in
theorem kX5_bit (l : Launch) (D : va_G) (ct : CT) (ad : Nat → Nat) (Z : Nat → Nat) (G : GG) (M : DD) (sz : Nat) (a : Nat) (p0 : Int32) (p1 : Int32) (y : DD × Int32) (hc : a < G.1) (hk : G.2.1 a = 5) (hF : FX5_bit G M a p0 p1 = some y) : Met l yX5_bit wsX5_bit ({ frames := 0, cells := 0, slots := 0, locals := 0 }) (va_Pc [.ref (ad a), .int p0, .int p1] (kB D ct ad Z G M sz)) (va_Qi (fun (q : Int32) (_ : Unit) => q = y.2) (fun _ t => kE D ct ad G (wA ad G sz) y.1 t) (wA ad G sz)) 0 0 (wA ad G sz) := by
  refine Met.ofW (cc := cX5_bit) (maxL := 8) (ret := (some .int)) (by decide) rfl ?_
  intro p e s m args below meth c s₁ B hml hv
  obtain ⟨rfl, hsz, hP, hK, hD0, hZ, hN⟩ := hv
  have hx := B.exec
  have hb := B.bytes
  have hr := B.returns
  have hts := atoms_spec (ws := wsX5_bit) B.pre
  have hown : s.vm.findClass RX5 = some m.cls := findClass_of_methodNamed B.named
  have hlocks := B.notSynchronized
  subst hsz
  have hD := wD_self (sz := s.heap.size) hD0
  have hA9 : ∀ q, s.heap.size ≤ q → wA ad G s.heap.size q := fun q h => Or.inr h
  generalize hAe : wA ad G s.heap.size = A at hD hA9 hZ ⊢
  have hS : va_S A s.heap s.heap [] := va_S.rf
  have hl := lv_entry ([.ref (ad a), .int p0, .int p1]) (n := 8) (Nat.le_of_ble_eq_true rfl)
  rw [lg_entry_eq]
  generalize (lg_sl ([.ref (ad a), .int p0, .int p1]) ++ List.replicate (8 - (lg_sl ([.ref (ad a), .int p0, .int p1])).length) Slot.unset).toArray = ls at hl ⊢
  have hl : lv_has ls 8 [(0, .ref (ad a)), (1, .int p0), (2, .int p1)] := hl
  unfold FX5_bit at hF
  refine lv_iconst (v := (0 : Int32)) hx hb dX5_bit_0 (by decide) ?_
  refine lv_istore_n (lv' := [(3, .int (0 : Int32)), (0, .ref (ad a)), (1, .int p0), (2, .int p1)]) hx hb dX5_bit_1 rfl hl (by decide) rfl (fun ls hl => ?_)
  refine lv_aload_n hx hb dX5_bit_2 rfl (lv_at hl 1 rfl) ?_
  refine va_get (D := D) (ci := 5) (v := .int (M.1 a 6)) (C := RX5) (T := TX5) (N := 17) hx hb hts (by decide +kernel) hown hK hP a (wld_o ct ad G M hc hk (by decide)) rfl 6 (by decide) (hts (.fieldLink RX5 66 "VideoSuite$Reader" "arith" "Z") (by decide +kernel)) (fun _ h9 => h9) rfl dX5_bit_3 ?_
  obtain ⟨x1, ex1, hF⟩ := ltt_some hF
  refine lv_topi (fun zx1 ezx1 => ?_)
  obtain rfl : x1 = zx1 := ex1.trans ezx1.symm
  obtain ⟨y2, hy2, hF⟩ := bnd_some hF
  have J2 : ∀ (H : Heap) (locs : List Loc) (ls : Array Slot), va_P D classes (wld ct ad G y2.2) H → va_D A (wld ct ad G y2.2) → va_S A s.heap H locs → lv_has ls 8 [(3, .int y2.1), (0, .ref (ad a)), (1, .int p0), (2, .int p1)] → W p l e (headSpec wsX5_bit ({ frames := 0, cells := 0, slots := 0, locals := 0 })).room s m ([.ref (ad a), .int p0, .int p1] : List Value).toArray below meth c H locs 0 0 (MQ below (va_Qi (fun (q : Int32) (_ : Unit) => q = y.2) (fun _ t => kE D ct ad G A y.1 t) A) ([.ref (ad a), .int p0, .int p1] : List Value).toArray s 0 0 A) (F0 m 175 ls []) := by
    intro H locs ls hP hD hS hl
    refine lv_iconst (v := (0 : Int32)) hx hb dX5_bit_175 (by decide) ?_
    refine lv_istore (lv' := [(4, .int (0 : Int32)), (3, .int y2.1), (0, .ref (ad a)), (1, .int p0), (2, .int p1)]) hx hb dX5_bit_176 hl (by decide) rfl (fun ls hl => ?_)
    obtain ⟨y3, hy3, hF⟩ := bnd_some hF
    have K3 : ∀ (H : Heap) (locs : List Loc) (ls : Array Slot), va_P D classes (wld ct ad G y3.2.2) H → va_D A (wld ct ad G y3.2.2) → va_S A s.heap H locs → lv_has ls 8 [(4, .int y3.2.1), (3, .int y3.1), (0, .ref (ad a)), (1, .int p0), (2, .int p1)] → W p l e (headSpec wsX5_bit ({ frames := 0, cells := 0, slots := 0, locals := 0 })).room s m ([.ref (ad a), .int p0, .int p1] : List Value).toArray below meth c H locs 0 0 (MQ below (va_Qi (fun (q : Int32) (_ : Unit) => q = y.2) (fun _ t => kE D ct ad G A y.1 t) A) ([.ref (ad a), .int p0, .int p1] : List Value).toArray s 0 0 A) (F0 m 339 ls []) := by
      intro H locs ls hP hD hS hl
      refine lv_iload_n hx hb dX5_bit_339 rfl (lv_at hl 1 rfl) ?_
      obtain rfl := Option.some.inj hF
      exact W.iret (v := y3.1) hx hb hr (fun t ht hW => ⟨⟨_, (), rfl, rfl, ⟨by rw [ht]; exact hP, va_K.moved hW.alike hK, hD⟩⟩, hS.F ht⟩) hS.2.2 dX5_bit_340
    clear hF
    refine itr_rule (fun (s4 : Int32 × Int32 × DD) => ∀ (H : Heap) (locs : List Loc) (ls : Array Slot), va_P D classes (wld ct ad G s4.2.2) H → va_D A (wld ct ad G s4.2.2) → va_S A s.heap H locs → lv_has ls 8 [(4, .int s4.2.1), (3, .int s4.1), (0, .ref (ad a)), (1, .int p0), (2, .int p1)] → W p l e (headSpec wsX5_bit ({ frames := 0, cells := 0, slots := 0, locals := 0 })).room s m ([.ref (ad a), .int p0, .int p1] : List Value).toArray below meth c H locs 0 0 (MQ below (va_Qi (fun (q : Int32) (_ : Unit) => q = y.2) (fun _ t => kE D ct ad G A y.1 t) A) ([.ref (ad a), .int p0, .int p1] : List Value).toArray s 0 0 A) (F0 m 178 ls [])) ?_ _ _ hy3 _ _ _ hP hD hS (lv_sub hl [0, 1, 2, 3, 4] rfl)
    rintro s4 ⟨z6, hF, hwz6⟩ H locs ls hP hD hS hl
    try dsimp only at hF
    refine lv_iload hx hb dX5_bit_178 (lv_at hl 0 rfl) ?_
    refine lv_bipush (v := (9 : Int32)) hx hb dX5_bit_180 (by decide) ?_
    refine lv_icmp_ge (tgt := 339) hx hb dX5_bit_182 (by decide) (fun c7 => ?_) (fun c7 => ?_)
    · rw [if_pos c7] at hF
      obtain rfl := Option.some.inj hF
      subst hwz6
      exact K3 _ _ _ hP hD hS (lv_sub hl [0, 1, 2, 3, 4] rfl)
    · rw [if_neg c7] at hF
      refine lv_aload_n hx hb dX5_bit_185 rfl (lv_at hl 2 rfl) ?_
      refine va_get (D := D) (ci := 5) (v := .int (s4.2.2.1 a 6)) (C := RX5) (T := TX5) (N := 17) hx hb hts (by decide +kernel) hown hK hP a (wld_o ct ad G s4.2.2 hc hk (by decide)) rfl 6 (by decide) (hts (.fieldLink RX5 66 "VideoSuite$Reader" "arith" "Z") (by decide +kernel)) (fun _ h9 => h9) rfl dX5_bit_186 ?_
      obtain ⟨x8, ex8, hF⟩ := ltt_some hF
      refine lv_topi (fun zx8 ezx8 => ?_)
      obtain rfl : x8 = zx8 := ex8.trans ezx8.symm
      refine lv_if_eq (tgt := 205) hx hb dX5_bit_189 (by decide) (fun c9 => ?_) (fun c9 => ?_)
      · rw [if_pos c9] at hF
        refine lv_iload hx hb dX5_bit_205 (lv_at hl 0 rfl) ?_
        refine lv_iconst (v := (1 : Int32)) hx hb dX5_bit_207 (by decide) ?_
        refine lv_icmp_ge (tgt := 339) hx hb dX5_bit_208 (by decide) (fun c10 => ?_) (fun c10 => ?_)
        · rw [if_pos c10] at hF
          obtain rfl := Option.some.inj hF
          subst hwz6
          exact K3 _ _ _ hP hD hS (lv_sub hl [0, 1, 2, 3, 4] rfl)
        · rw [if_neg c10] at hF
          refine lv_aload_n hx hb dX5_bit_211 rfl (lv_at hl 2 rfl) ?_
          refine va_get (D := D) (ci := 5) (v := .int (s4.2.2.1 a 2)) (C := RX5) (T := TX5) (N := 17) hx hb hts (by decide +kernel) hown hK hP a (wld_o ct ad G s4.2.2 hc hk (by decide)) rfl 2 (by decide) (hts (.fieldLink RX5 57 "VideoSuite$Reader" "place" "I") (by decide +kernel)) (fun _ h9 => h9) rfl dX5_bit_212 ?_
          obtain ⟨x11, ex11, hF⟩ := ltt_some hF
          refine lv_topi (fun zx11 ezx11 => ?_)
          obtain rfl : x11 = zx11 := ex11.trans ezx11.symm
          refine lv_aload_n hx hb dX5_bit_215 rfl (lv_at hl 2 rfl) ?_
          refine va_get (D := D) (ci := 5) (v := .int (s4.2.2.1 a 1)) (C := RX5) (T := TX5) (N := 17) hx hb hts (by decide +kernel) hown hK hP a (wld_o ct ad G s4.2.2 hc hk (by decide)) rfl 1 (by decide) (hts (.fieldLink RX5 47 "VideoSuite$Reader" "total" "I") (by decide +kernel)) (fun _ h9 => h9) rfl dX5_bit_216 ?_
          obtain ⟨x12, ex12, hF⟩ := ltt_some hF
          refine lv_topi (fun zx12 ezx12 => ?_)
          obtain rfl : x12 = zx12 := ex12.trans ezx12.symm
          refine lv_icmp_lt (tgt := 259) hx hb dX5_bit_219 (by decide) (fun c13 => ?_) (fun c13 => ?_)
          · rw [if_pos c13] at hF
            refine lv_aload_n hx hb dX5_bit_259 rfl (lv_at hl 2 rfl) ?_
            refine va_get (D := D) (ci := 5) (v := va_re ad (s4.2.2.2 a 0)) (C := RX5) (T := TX5) (N := 17) hx hb hts (by decide +kernel) hown hK hP a (wld_o ct ad G s4.2.2 hc hk (by decide)) rfl 0 (by decide) (hts (.fieldLink RX5 40 "VideoSuite$Reader" "data" "[B") (by decide +kernel)) (fun _ h9 => h9) rfl dX5_bit_260 ?_
            refine lv_iconst (v := (1 : Int32)) hx hb dX5_bit_263 (by decide) ?_
            refine lv_aload_n hx hb dX5_bit_264 rfl (lv_at hl 2 rfl) ?_
            refine va_get (D := D) (ci := 5) (v := .int (s4.2.2.1 a 2)) (C := RX5) (T := TX5) (N := 17) hx hb hts (by decide +kernel) hown hK hP a (wld_o ct ad G s4.2.2 hc hk (by decide)) rfl 2 (by decide) (hts (.fieldLink RX5 57 "VideoSuite$Reader" "place" "I") (by decide +kernel)) (fun _ h9 => h9) rfl dX5_bit_265 ?_
            obtain ⟨x14, ex14, hF⟩ := ltt_some hF
            refine lv_topi (fun zx14 ezx14 => ?_)
            obtain rfl : x14 = zx14 := ex14.trans ezx14.symm
            refine lv_iconst (v := (3 : Int32)) hx hb dX5_bit_268 (by decide) ?_
            refine lv_ishr hx hb dX5_bit_269 ?_
            obtain ⟨x15, ex15, hF⟩ := ltt_some hF
            refine lv_topi (fun zx15 ezx15 => ?_)
            obtain rfl : x15 = zx15 := ex15.trans ezx15.symm
            refine lv_iadd hx hb dX5_bit_270 ?_
            obtain ⟨x16, ex16, hF⟩ := ltt_some hF
            refine lv_topi (fun zx16 ezx16 => ?_)
            obtain rfl : x16 = zx16 := ex16.trans ezx16.symm
            obtain ⟨b17, ho17, hc17, hk17, hF⟩ := dr_some hF
            refine W_st (st' := [.int x16, .ref (ad b17)]) (by rw [va_some ho17]) ?_
            obtain ⟨hvc, hF⟩ := chk_some hF
            refine va_bald hx hb hK hP b17 0 (wld_b ct ad G s4.2.2 hc17 hk17) rfl hvc dX5_bit_271 ?_
            obtain ⟨x18, ex18, hF⟩ := ltt_some hF
            refine lv_topi (fun zx18 ezx18 => ?_)
            obtain rfl : x18 = zx18 := ex18.trans ezx18.symm
            refine lv_bipush (v := (7 : Int32)) hx hb dX5_bit_272 (by decide) ?_
            refine lv_aload_n hx hb dX5_bit_274 rfl (lv_at hl 2 rfl) ?_
            refine va_get (D := D) (ci := 5) (v := .int (s4.2.2.1 a 2)) (C := RX5) (T := TX5) (N := 17) hx hb hts (by decide +kernel) hown hK hP a (wld_o ct ad G s4.2.2 hc hk (by decide)) rfl 2 (by decide) (hts (.fieldLink RX5 57 "VideoSuite$Reader" "place" "I") (by decide +kernel)) (fun _ h9 => h9) rfl dX5_bit_275 ?_
            obtain ⟨x19, ex19, hF⟩ := ltt_some hF
            refine lv_topi (fun zx19 ezx19 => ?_)
            obtain rfl : x19 = zx19 := ex19.trans ezx19.symm
            refine lv_bipush (v := (7 : Int32)) hx hb dX5_bit_278 (by decide) ?_
            refine lv_iand hx hb dX5_bit_280 ?_
            obtain ⟨x20, ex20, hF⟩ := ltt_some hF
            refine lv_topi (fun zx20 ezx20 => ?_)
            obtain rfl : x20 = zx20 := ex20.trans ezx20.symm
            refine lv_isub hx hb dX5_bit_281 ?_
            obtain ⟨x21, ex21, hF⟩ := ltt_some hF
            refine lv_topi (fun zx21 ezx21 => ?_)
            obtain rfl : x21 = zx21 := ex21.trans ezx21.symm
            refine lv_ishr hx hb dX5_bit_282 ?_
            obtain ⟨x22, ex22, hF⟩ := ltt_some hF
            refine lv_topi (fun zx22 ezx22 => ?_)
            obtain rfl : x22 = zx22 := ex22.trans ezx22.symm
            refine lv_iconst (v := (1 : Int32)) hx hb dX5_bit_283 (by decide) ?_
            refine lv_iand hx hb dX5_bit_284 ?_
            obtain ⟨x23, ex23, hF⟩ := ltt_some hF
            refine lv_topi (fun zx23 ezx23 => ?_)
            obtain rfl : x23 = zx23 := ex23.trans ezx23.symm
            refine lv_istore (lv' := [(5, .int x23), (4, .int s4.2.1), (3, .int s4.1), (0, .ref (ad a)), (1, .int p0), (2, .int p1)]) hx hb dX5_bit_285 hl (by decide) rfl (fun ls hl => ?_)
            refine lv_aload_n hx hb dX5_bit_287 rfl (lv_at hl 3 rfl) ?_
            refine lv_dup hx hb dX5_bit_288 rfl ?_
            refine va_get (D := D) (ci := 5) (v := .int (s4.2.2.1 a 2)) (C := RX5) (T := TX5) (N := 17) hx hb hts (by decide +kernel) hown hK hP a (wld_o ct ad G s4.2.2 hc hk (by decide)) rfl 2 (by decide) (hts (.fieldLink RX5 57 "VideoSuite$Reader" "place" "I") (by decide +kernel)) (fun _ h9 => h9) rfl dX5_bit_289 ?_
            obtain ⟨x24, ex24, hF⟩ := ltt_some hF
            refine lv_topi (fun zx24 ezx24 => ?_)
            obtain rfl : x24 = zx24 := ex24.trans ezx24.symm
            refine lv_iconst (v := (1 : Int32)) hx hb dX5_bit_292 (by decide) ?_
            refine lv_iadd hx hb dX5_bit_293 ?_
            obtain ⟨x25, ex25, hF⟩ := ltt_some hF
            refine lv_topi (fun zx25 ezx25 => ?_)
            obtain rfl : x25 = zx25 := ex25.trans ezx25.symm
            refine va_put (D := D) (ci := 5) (v := .int x25) (ty := .int) (C := RX5) (T := TX5) (N := 17) hx hb hts (by decide +kernel) tyX5 tyX5_ok nmX5 hown hK hP hD hS a (wld_o ct ad G s4.2.2 hc hk (by decide)) rfl 2 (by decide) (hts (.fieldLink RX5 57 "VideoSuite$Reader" "place" "I") (by decide +kernel)) (fun _ h9 => h9) rfl (by decide +kernel) rfl rfl (Nat.le_of_ble_eq_true rfl) dX5_bit_294 (fun H locs hP hD hS => ?_)
            obtain ⟨M26, eM26, hF⟩ := ltt_some hF
            rw [set_oI ct ad G s4.2.2 hc hk (by decide) (by rfl), ← eM26] at hP hD
            refine lv_aload_n hx hb dX5_bit_297 rfl (lv_at hl 3 rfl) ?_
            refine va_get (D := D) (ci := 5) (v := .int (M26.1 a 6)) (C := RX5) (T := TX5) (N := 17) hx hb hts (by decide +kernel) hown hK hP a (wld_o ct ad G M26 hc hk (by decide)) rfl 6 (by decide) (hts (.fieldLink RX5 66 "VideoSuite$Reader" "arith" "Z") (by decide +kernel)) (fun _ h9 => h9) rfl dX5_bit_298 ?_
            obtain ⟨x27, ex27, hF⟩ := ltt_some hF
            refine lv_topi (fun zx27 ezx27 => ?_)
            obtain rfl : x27 = zx27 := ex27.trans ezx27.symm
            obtain ⟨y28, hy28, hF⟩ := bnd_some hF
            have J28 : ∀ (H : Heap) (locs : List Loc) (ls : Array Slot), va_P D classes (wld ct ad G y28.2) H → va_D A (wld ct ad G y28.2) → va_S A s.heap H locs → lv_has ls 8 [(5, .int x23), (4, .int s4.2.1), (3, .int y28.1), (0, .ref (ad a)), (1, .int p0), (2, .int p1)] → W p l e (headSpec wsX5_bit ({ frames := 0, cells := 0, slots := 0, locals := 0 })).room s m ([.ref (ad a), .int p0, .int p1] : List Value).toArray below meth c H locs 0 0 (MQ below (va_Qi (fun (q : Int32) (_ : Unit) => q = y.2) (fun _ t => kE D ct ad G A y.1 t) A) ([.ref (ad a), .int p0, .int p1] : List Value).toArray s 0 0 A) (F0 m 333 ls []) := by
              intro H locs ls hP hD hS hl
              obtain ⟨x29, ex29, hF⟩ := ltt_some hF
              refine lv_iinc (v := x29) (lv' := [(4, .int x29), (5, .int x23), (3, .int y28.1), (0, .ref (ad a)), (1, .int p0), (2, .int p1)]) hx hb dX5_bit_333 hl (k := 1) rfl (by rw [ex29]; rfl) (by decide) rfl (fun ls hl => ?_)
              refine lv_goto (tgt := 178) hx hb dX5_bit_336 (by decide) ?_
              obtain rfl := Option.some.inj hF
              exact hwz6 _ _ _ hP hD hS (lv_sub hl [0, 2, 3, 4, 5] rfl)
            clear hF
            have hF := hy28
            clear hy28
            refine lv_if_eq (tgt := 330) hx hb dX5_bit_301 (by decide) (fun c30 => ?_) (fun c30 => ?_)
            · rw [if_pos c30] at hF
              refine lv_iload hx hb dX5_bit_330 (lv_at hl 0 rfl) ?_
              refine lv_istore_n (lv' := [(3, .int x23), (5, .int x23), (4, .int s4.2.1), (0, .ref (ad a)), (1, .int p0), (2, .int p1)]) hx hb dX5_bit_332 rfl hl (by decide) rfl (fun ls hl => ?_)
              obtain rfl := Option.some.inj hF
              exact J28 _ _ _ hP hD hS (lv_sub hl [1, 2, 0, 3, 4, 5] rfl)
            · rw [if_neg c30] at hF
              refine lv_aload_n hx hb dX5_bit_304 rfl (lv_at hl 3 rfl) ?_
              refine lv_dup hx hb dX5_bit_305 rfl ?_
              refine va_get (D := D) (ci := 5) (v := .int (M26.1 a 8)) (C := RX5) (T := TX5) (N := 17) hx hb hts (by decide +kernel) hown hK hP a (wld_o ct ad G M26 hc hk (by decide)) rfl 8 (by decide) (hts (.fieldLink RX5 96 "VideoSuite$Reader" "range" "I") (by decide +kernel)) (fun _ h9 => h9) rfl dX5_bit_306 ?_
              obtain ⟨x31, ex31, hF⟩ := ltt_some hF
              refine lv_topi (fun zx31 ezx31 => ?_)
              obtain rfl : x31 = zx31 := ex31.trans ezx31.symm
              refine lv_iconst (v := (1 : Int32)) hx hb dX5_bit_309 (by decide) ?_
              refine lv_ishl hx hb dX5_bit_310 ?_
              obtain ⟨x32, ex32, hF⟩ := ltt_some hF
              refine lv_topi (fun zx32 ezx32 => ?_)
              obtain rfl : x32 = zx32 := ex32.trans ezx32.symm
              refine va_put (D := D) (ci := 5) (v := .int x32) (ty := .int) (C := RX5) (T := TX5) (N := 17) hx hb hts (by decide +kernel) tyX5 tyX5_ok nmX5 hown hK hP hD hS a (wld_o ct ad G M26 hc hk (by decide)) rfl 8 (by decide) (hts (.fieldLink RX5 96 "VideoSuite$Reader" "range" "I") (by decide +kernel)) (fun _ h9 => h9) rfl (by decide +kernel) rfl rfl (Nat.le_of_ble_eq_true rfl) dX5_bit_311 (fun H locs hP hD hS => ?_)
              obtain ⟨M33, eM33, hF⟩ := ltt_some hF
              rw [set_oI ct ad G M26 hc hk (by decide) (by rfl), ← eM33] at hP hD
              refine lv_aload_n hx hb dX5_bit_314 rfl (lv_at hl 3 rfl) ?_
              refine lv_aload_n hx hb dX5_bit_315 rfl (lv_at hl 3 rfl) ?_
              refine va_get (D := D) (ci := 5) (v := .int (M33.1 a 9)) (C := RX5) (T := TX5) (N := 17) hx hb hts (by decide +kernel) hown hK hP a (wld_o ct ad G M33 hc hk (by decide)) rfl 9 (by decide) (hts (.fieldLink RX5 99 "VideoSuite$Reader" "offset" "I") (by decide +kernel)) (fun _ h9 => h9) rfl dX5_bit_316 ?_
              obtain ⟨x34, ex34, hF⟩ := ltt_some hF
              refine lv_topi (fun zx34 ezx34 => ?_)
              obtain rfl : x34 = zx34 := ex34.trans ezx34.symm
              refine lv_iconst (v := (1 : Int32)) hx hb dX5_bit_319 (by decide) ?_
              refine lv_ishl hx hb dX5_bit_320 ?_
              obtain ⟨x35, ex35, hF⟩ := ltt_some hF
              refine lv_topi (fun zx35 ezx35 => ?_)
              obtain rfl : x35 = zx35 := ex35.trans ezx35.symm
              refine lv_iload hx hb dX5_bit_321 (lv_at hl 0 rfl) ?_
              refine lv_ior hx hb dX5_bit_323 ?_
              obtain ⟨x36, ex36, hF⟩ := ltt_some hF
              refine lv_topi (fun zx36 ezx36 => ?_)
              obtain rfl : x36 = zx36 := ex36.trans ezx36.symm
              refine va_put (D := D) (ci := 5) (v := .int x36) (ty := .int) (C := RX5) (T := TX5) (N := 17) hx hb hts (by decide +kernel) tyX5 tyX5_ok nmX5 hown hK hP hD hS a (wld_o ct ad G M33 hc hk (by decide)) rfl 9 (by decide) (hts (.fieldLink RX5 99 "VideoSuite$Reader" "offset" "I") (by decide +kernel)) (fun _ h9 => h9) rfl (by decide +kernel) rfl rfl (Nat.le_of_ble_eq_true rfl) dX5_bit_324 (fun H locs hP hD hS => ?_)
              obtain ⟨M37, eM37, hF⟩ := ltt_some hF
              rw [set_oI ct ad G M33 hc hk (by decide) (by rfl), ← eM37] at hP hD
              refine lv_goto (tgt := 333) hx hb dX5_bit_327 (by decide) ?_
              obtain rfl := Option.some.inj hF
              exact J28 _ _ _ hP hD hS (lv_sub hl [0, 1, 2, 3, 4, 5] rfl)
          · rw [if_neg c13] at hF
            refine lv_aload_n hx hb dX5_bit_222 rfl (lv_at hl 2 rfl) ?_
            refine lv_iconst (v := (1 : Int32)) hx hb dX5_bit_223 (by decide) ?_
            refine va_put (D := D) (ci := 5) (v := .int (1 : Int32)) (ty := .int) (C := RX5) (T := TX5) (N := 17) hx hb hts (by decide +kernel) tyX5 tyX5_ok nmX5 hown hK hP hD hS a (wld_o ct ad G s4.2.2 hc hk (by decide)) rfl 15 (by decide) (hts (.fieldLink RX5 76 "VideoSuite$Reader" "faultKind" "I") (by decide +kernel)) (fun _ h9 => h9) rfl (by decide +kernel) rfl rfl (Nat.le_of_ble_eq_true rfl) dX5_bit_224 (fun H locs hP hD hS => ?_)
            obtain ⟨M38, eM38, hF⟩ := ltt_some hF
            rw [set_oI ct ad G s4.2.2 hc hk (by decide) (by rfl), ← eM38] at hP hD
            refine lv_aload_n hx hb dX5_bit_227 rfl (lv_at hl 2 rfl) ?_
            refine lv_aload_n hx hb dX5_bit_228 rfl (lv_at hl 2 rfl) ?_
            refine va_get (D := D) (ci := 5) (v := .int (M38.1 a 7)) (C := RX5) (T := TX5) (N := 17) hx hb hts (by decide +kernel) hown hK hP a (wld_o ct ad G M38 hc hk (by decide)) rfl 7 (by decide) (hts (.fieldLink RX5 70 "VideoSuite$Reader" "inData" "Z") (by decide +kernel)) (fun _ h9 => h9) rfl dX5_bit_229 ?_
            obtain ⟨x39, ex39, hF⟩ := ltt_some hF
            refine lv_topi (fun zx39 ezx39 => ?_)
            obtain rfl : x39 = zx39 := ex39.trans ezx39.symm
            obtain ⟨y40, hy40, hF⟩ := bnd_some hF
            have J40 : ∀ (H : Heap) (locs : List Loc) (ls : Array Slot), va_P D classes (wld ct ad G M38) H → va_D A (wld ct ad G M38) → va_S A s.heap H locs → lv_has ls 8 [(4, .int s4.2.1), (3, .int s4.1), (0, .ref (ad a)), (1, .int p0), (2, .int p1)] → W p l e (headSpec wsX5_bit ({ frames := 0, cells := 0, slots := 0, locals := 0 })).room s m ([.ref (ad a), .int p0, .int p1] : List Value).toArray below meth c H locs 0 0 (MQ below (va_Qi (fun (q : Int32) (_ : Unit) => q = y.2) (fun _ t => kE D ct ad G A y.1 t) A) ([.ref (ad a), .int p0, .int p1] : List Value).toArray s 0 0 A) (F0 m 246 ls [.int y40, .ref (ad a)]) := by
              intro H locs ls hP hD hS hl
              refine va_put (D := D) (ci := 5) (v := .int y40) (ty := .int) (C := RX5) (T := TX5) (N := 17) hx hb hts (by decide +kernel) tyX5 tyX5_ok nmX5 hown hK hP hD hS a (wld_o ct ad G M38 hc hk (by decide)) rfl 16 (by decide) (hts (.fieldLink RX5 79 "VideoSuite$Reader" "faultPlace" "I") (by decide +kernel)) (fun _ h9 => h9) rfl (by decide +kernel) rfl rfl (Nat.le_of_ble_eq_true rfl) dX5_bit_246 (fun H locs hP hD hS => ?_)
              obtain ⟨M41, eM41, hF⟩ := ltt_some hF
              rw [set_oI ct ad G M38 hc hk (by decide) (by rfl), ← eM41] at hP hD
              cases hF
            clear hF
            have hF := hy40
            clear hy40
            refine lv_if_eq (tgt := 242) hx hb dX5_bit_232 (by decide) (fun c42 => ?_) (fun c42 => ?_)
            · rw [if_pos c42] at hF
              refine lv_aload_n hx hb dX5_bit_242 rfl (lv_at hl 2 rfl) ?_
              refine va_get (D := D) (ci := 5) (v := .int (M38.1 a 4)) (C := RX5) (T := TX5) (N := 17) hx hb hts (by decide +kernel) hown hK hP a (wld_o ct ad G M38 hc hk (by decide)) rfl 4 (by decide) (hts (.fieldLink RX5 60 "VideoSuite$Reader" "begin" "I") (by decide +kernel)) (fun _ h9 => h9) rfl dX5_bit_243 ?_
              obtain ⟨x43, ex43, hF⟩ := ltt_some hF
              refine lv_topi (fun zx43 ezx43 => ?_)
              obtain rfl : x43 = zx43 := ex43.trans ezx43.symm
              obtain rfl := Option.some.inj hF
              exact J40 _ _ _ hP hD hS (lv_sub hl [0, 1, 2, 3, 4] rfl)
            · rw [if_neg c42] at hF
              refine lv_aload_n hx hb dX5_bit_235 rfl (lv_at hl 2 rfl) ?_
              refine va_get (D := D) (ci := 5) (v := .int (M38.1 a 2)) (C := RX5) (T := TX5) (N := 17) hx hb hts (by decide +kernel) hown hK hP a (wld_o ct ad G M38 hc hk (by decide)) rfl 2 (by decide) (hts (.fieldLink RX5 57 "VideoSuite$Reader" "place" "I") (by decide +kernel)) (fun _ h9 => h9) rfl dX5_bit_236 ?_
              obtain ⟨x44, ex44, hF⟩ := ltt_some hF
              refine lv_topi (fun zx44 ezx44 => ?_)
              obtain rfl : x44 = zx44 := ex44.trans ezx44.symm
              refine lv_goto (tgt := 246) hx hb dX5_bit_239 (by decide) ?_
              obtain rfl := Option.some.inj hF
              exact J40 _ _ _ hP hD hS (lv_sub hl [0, 1, 2, 3, 4] rfl)
      · rw [if_neg c9] at hF
        refine lv_aload_n hx hb dX5_bit_192 rfl (lv_at hl 2 rfl) ?_
        refine va_get (D := D) (ci := 5) (v := .int (s4.2.2.1 a 8)) (C := RX5) (T := TX5) (N := 17) hx hb hts (by decide +kernel) hown hK hP a (wld_o ct ad G s4.2.2 hc hk (by decide)) rfl 8 (by decide) (hts (.fieldLink RX5 96 "VideoSuite$Reader" "range" "I") (by decide +kernel)) (fun _ h9 => h9) rfl dX5_bit_193 ?_
        obtain ⟨x45, ex45, hF⟩ := ltt_some hF
        refine lv_topi (fun zx45 ezx45 => ?_)
        obtain rfl : x45 = zx45 := ex45.trans ezx45.symm
        refine lv_sipush (v := (256 : Int32)) hx hb dX5_bit_196 (by decide) ?_
        refine lv_icmp_ge (tgt := 339) hx hb dX5_bit_199 (by decide) (fun c46 => ?_) (fun c46 => ?_)
        · rw [if_pos c46] at hF
          obtain rfl := Option.some.inj hF
          subst hwz6
          exact K3 _ _ _ hP hD hS (lv_sub hl [0, 1, 2, 3, 4] rfl)
        · rw [if_neg c46] at hF
          refine lv_goto (tgt := 211) hx hb dX5_bit_202 (by decide) ?_
          refine lv_aload_n hx hb dX5_bit_211 rfl (lv_at hl 2 rfl) ?_
          refine va_get (D := D) (ci := 5) (v := .int (s4.2.2.1 a 2)) (C := RX5) (T := TX5) (N := 17) hx hb hts (by decide +kernel) hown hK hP a (wld_o ct ad G s4.2.2 hc hk (by decide)) rfl 2 (by decide) (hts (.fieldLink RX5 57 "VideoSuite$Reader" "place" "I") (by decide +kernel)) (fun _ h9 => h9) rfl dX5_bit_212 ?_
          obtain ⟨x47, ex47, hF⟩ := ltt_some hF
          refine lv_topi (fun zx47 ezx47 => ?_)
          obtain rfl : x47 = zx47 := ex47.trans ezx47.symm
          refine lv_aload_n hx hb dX5_bit_215 rfl (lv_at hl 2 rfl) ?_
          refine va_get (D := D) (ci := 5) (v := .int (s4.2.2.1 a 1)) (C := RX5) (T := TX5) (N := 17) hx hb hts (by decide +kernel) hown hK hP a (wld_o ct ad G s4.2.2 hc hk (by decide)) rfl 1 (by decide) (hts (.fieldLink RX5 47 "VideoSuite$Reader" "total" "I") (by decide +kernel)) (fun _ h9 => h9) rfl dX5_bit_216 ?_
          obtain ⟨x48, ex48, hF⟩ := ltt_some hF
          refine lv_topi (fun zx48 ezx48 => ?_)
          obtain rfl : x48 = zx48 := ex48.trans ezx48.symm
          refine lv_icmp_lt (tgt := 259) hx hb dX5_bit_219 (by decide) (fun c49 => ?_) (fun c49 => ?_)
          · rw [if_pos c49] at hF
            refine lv_aload_n hx hb dX5_bit_259 rfl (lv_at hl 2 rfl) ?_
            refine va_get (D := D) (ci := 5) (v := va_re ad (s4.2.2.2 a 0)) (C := RX5) (T := TX5) (N := 17) hx hb hts (by decide +kernel) hown hK hP a (wld_o ct ad G s4.2.2 hc hk (by decide)) rfl 0 (by decide) (hts (.fieldLink RX5 40 "VideoSuite$Reader" "data" "[B") (by decide +kernel)) (fun _ h9 => h9) rfl dX5_bit_260 ?_
            refine lv_iconst (v := (1 : Int32)) hx hb dX5_bit_263 (by decide) ?_
            refine lv_aload_n hx hb dX5_bit_264 rfl (lv_at hl 2 rfl) ?_
            refine va_get (D := D) (ci := 5) (v := .int (s4.2.2.1 a 2)) (C := RX5) (T := TX5) (N := 17) hx hb hts (by decide +kernel) hown hK hP a (wld_o ct ad G s4.2.2 hc hk (by decide)) rfl 2 (by decide) (hts (.fieldLink RX5 57 "VideoSuite$Reader" "place" "I") (by decide +kernel)) (fun _ h9 => h9) rfl dX5_bit_265 ?_
            obtain ⟨x50, ex50, hF⟩ := ltt_some hF
            refine lv_topi (fun zx50 ezx50 => ?_)
            obtain rfl : x50 = zx50 := ex50.trans ezx50.symm
            refine lv_iconst (v := (3 : Int32)) hx hb dX5_bit_268 (by decide) ?_
            refine lv_ishr hx hb dX5_bit_269 ?_
            obtain ⟨x51, ex51, hF⟩ := ltt_some hF
            refine lv_topi (fun zx51 ezx51 => ?_)
            obtain rfl : x51 = zx51 := ex51.trans ezx51.symm
            refine lv_iadd hx hb dX5_bit_270 ?_
            obtain ⟨x52, ex52, hF⟩ := ltt_some hF
            refine lv_topi (fun zx52 ezx52 => ?_)
            obtain rfl : x52 = zx52 := ex52.trans ezx52.symm
            obtain ⟨b53, ho53, hc53, hk53, hF⟩ := dr_some hF
            refine W_st (st' := [.int x52, .ref (ad b53)]) (by rw [va_some ho53]) ?_
            obtain ⟨hvc, hF⟩ := chk_some hF
            refine va_bald hx hb hK hP b53 0 (wld_b ct ad G s4.2.2 hc53 hk53) rfl hvc dX5_bit_271 ?_
            obtain ⟨x54, ex54, hF⟩ := ltt_some hF
            refine lv_topi (fun zx54 ezx54 => ?_)
            obtain rfl : x54 = zx54 := ex54.trans ezx54.symm
            refine lv_bipush (v := (7 : Int32)) hx hb dX5_bit_272 (by decide) ?_
            refine lv_aload_n hx hb dX5_bit_274 rfl (lv_at hl 2 rfl) ?_
            refine va_get (D := D) (ci := 5) (v := .int (s4.2.2.1 a 2)) (C := RX5) (T := TX5) (N := 17) hx hb hts (by decide +kernel) hown hK hP a (wld_o ct ad G s4.2.2 hc hk (by decide)) rfl 2 (by decide) (hts (.fieldLink RX5 57 "VideoSuite$Reader" "place" "I") (by decide +kernel)) (fun _ h9 => h9) rfl dX5_bit_275 ?_
            obtain ⟨x55, ex55, hF⟩ := ltt_some hF
            refine lv_topi (fun zx55 ezx55 => ?_)
            obtain rfl : x55 = zx55 := ex55.trans ezx55.symm
            refine lv_bipush (v := (7 : Int32)) hx hb dX5_bit_278 (by decide) ?_
            refine lv_iand hx hb dX5_bit_280 ?_
            obtain ⟨x56, ex56, hF⟩ := ltt_some hF
            refine lv_topi (fun zx56 ezx56 => ?_)
            obtain rfl : x56 = zx56 := ex56.trans ezx56.symm
            refine lv_isub hx hb dX5_bit_281 ?_
            obtain ⟨x57, ex57, hF⟩ := ltt_some hF
            refine lv_topi (fun zx57 ezx57 => ?_)
            obtain rfl : x57 = zx57 := ex57.trans ezx57.symm
            refine lv_ishr hx hb dX5_bit_282 ?_
            obtain ⟨x58, ex58, hF⟩ := ltt_some hF
            refine lv_topi (fun zx58 ezx58 => ?_)
            obtain rfl : x58 = zx58 := ex58.trans ezx58.symm
            refine lv_iconst (v := (1 : Int32)) hx hb dX5_bit_283 (by decide) ?_
            refine lv_iand hx hb dX5_bit_284 ?_
            obtain ⟨x59, ex59, hF⟩ := ltt_some hF
            refine lv_topi (fun zx59 ezx59 => ?_)
            obtain rfl : x59 = zx59 := ex59.trans ezx59.symm
            refine lv_istore (lv' := [(5, .int x59), (4, .int s4.2.1), (3, .int s4.1), (0, .ref (ad a)), (1, .int p0), (2, .int p1)]) hx hb dX5_bit_285 hl (by decide) rfl (fun ls hl => ?_)
            refine lv_aload_n hx hb dX5_bit_287 rfl (lv_at hl 3 rfl) ?_
            refine lv_dup hx hb dX5_bit_288 rfl ?_
            refine va_get (D := D) (ci := 5) (v := .int (s4.2.2.1 a 2)) (C := RX5) (T := TX5) (N := 17) hx hb hts (by decide +kernel) hown hK hP a (wld_o ct ad G s4.2.2 hc hk (by decide)) rfl 2 (by decide) (hts (.fieldLink RX5 57 "VideoSuite$Reader" "place" "I") (by decide +kernel)) (fun _ h9 => h9) rfl dX5_bit_289 ?_
            obtain ⟨x60, ex60, hF⟩ := ltt_some hF
            refine lv_topi (fun zx60 ezx60 => ?_)
            obtain rfl : x60 = zx60 := ex60.trans ezx60.symm
            refine lv_iconst (v := (1 : Int32)) hx hb dX5_bit_292 (by decide) ?_
            refine lv_iadd hx hb dX5_bit_293 ?_
            obtain ⟨x61, ex61, hF⟩ := ltt_some hF
            refine lv_topi (fun zx61 ezx61 => ?_)
            obtain rfl : x61 = zx61 := ex61.trans ezx61.symm
            refine va_put (D := D) (ci := 5) (v := .int x61) (ty := .int) (C := RX5) (T := TX5) (N := 17) hx hb hts (by decide +kernel) tyX5 tyX5_ok nmX5 hown hK hP hD hS a (wld_o ct ad G s4.2.2 hc hk (by decide)) rfl 2 (by decide) (hts (.fieldLink RX5 57 "VideoSuite$Reader" "place" "I") (by decide +kernel)) (fun _ h9 => h9) rfl (by decide +kernel) rfl rfl (Nat.le_of_ble_eq_true rfl) dX5_bit_294 (fun H locs hP hD hS => ?_)
            obtain ⟨M62, eM62, hF⟩ := ltt_some hF
            rw [set_oI ct ad G s4.2.2 hc hk (by decide) (by rfl), ← eM62] at hP hD
            refine lv_aload_n hx hb dX5_bit_297 rfl (lv_at hl 3 rfl) ?_
            refine va_get (D := D) (ci := 5) (v := .int (M62.1 a 6)) (C := RX5) (T := TX5) (N := 17) hx hb hts (by decide +kernel) hown hK hP a (wld_o ct ad G M62 hc hk (by decide)) rfl 6 (by decide) (hts (.fieldLink RX5 66 "VideoSuite$Reader" "arith" "Z") (by decide +kernel)) (fun _ h9 => h9) rfl dX5_bit_298 ?_
            obtain ⟨x63, ex63, hF⟩ := ltt_some hF
            refine lv_topi (fun zx63 ezx63 => ?_)
            obtain rfl : x63 = zx63 := ex63.trans ezx63.symm
            obtain ⟨y64, hy64, hF⟩ := bnd_some hF
            have J64 : ∀ (H : Heap) (locs : List Loc) (ls : Array Slot), va_P D classes (wld ct ad G y64.2) H → va_D A (wld ct ad G y64.2) → va_S A s.heap H locs → lv_has ls 8 [(5, .int x59), (4, .int s4.2.1), (3, .int y64.1), (0, .ref (ad a)), (1, .int p0), (2, .int p1)] → W p l e (headSpec wsX5_bit ({ frames := 0, cells := 0, slots := 0, locals := 0 })).room s m ([.ref (ad a), .int p0, .int p1] : List Value).toArray below meth c H locs 0 0 (MQ below (va_Qi (fun (q : Int32) (_ : Unit) => q = y.2) (fun _ t => kE D ct ad G A y.1 t) A) ([.ref (ad a), .int p0, .int p1] : List Value).toArray s 0 0 A) (F0 m 333 ls []) := by
              intro H locs ls hP hD hS hl
              obtain ⟨x65, ex65, hF⟩ := ltt_some hF
              refine lv_iinc (v := x65) (lv' := [(4, .int x65), (5, .int x59), (3, .int y64.1), (0, .ref (ad a)), (1, .int p0), (2, .int p1)]) hx hb dX5_bit_333 hl (k := 1) rfl (by rw [ex65]; rfl) (by decide) rfl (fun ls hl => ?_)
              refine lv_goto (tgt := 178) hx hb dX5_bit_336 (by decide) ?_
              obtain rfl := Option.some.inj hF
              exact hwz6 _ _ _ hP hD hS (lv_sub hl [0, 2, 3, 4, 5] rfl)
            clear hF
            have hF := hy64
            clear hy64
            refine lv_if_eq (tgt := 330) hx hb dX5_bit_301 (by decide) (fun c66 => ?_) (fun c66 => ?_)
            · rw [if_pos c66] at hF
              refine lv_iload hx hb dX5_bit_330 (lv_at hl 0 rfl) ?_
              refine lv_istore_n (lv' := [(3, .int x59), (5, .int x59), (4, .int s4.2.1), (0, .ref (ad a)), (1, .int p0), (2, .int p1)]) hx hb dX5_bit_332 rfl hl (by decide) rfl (fun ls hl => ?_)
              obtain rfl := Option.some.inj hF
              exact J64 _ _ _ hP hD hS (lv_sub hl [1, 2, 0, 3, 4, 5] rfl)
            · rw [if_neg c66] at hF
              refine lv_aload_n hx hb dX5_bit_304 rfl (lv_at hl 3 rfl) ?_
              refine lv_dup hx hb dX5_bit_305 rfl ?_
              refine va_get (D := D) (ci := 5) (v := .int (M62.1 a 8)) (C := RX5) (T := TX5) (N := 17) hx hb hts (by decide +kernel) hown hK hP a (wld_o ct ad G M62 hc hk (by decide)) rfl 8 (by decide) (hts (.fieldLink RX5 96 "VideoSuite$Reader" "range" "I") (by decide +kernel)) (fun _ h9 => h9) rfl dX5_bit_306 ?_
              obtain ⟨x67, ex67, hF⟩ := ltt_some hF
              refine lv_topi (fun zx67 ezx67 => ?_)
              obtain rfl : x67 = zx67 := ex67.trans ezx67.symm
              refine lv_iconst (v := (1 : Int32)) hx hb dX5_bit_309 (by decide) ?_
              refine lv_ishl hx hb dX5_bit_310 ?_
              obtain ⟨x68, ex68, hF⟩ := ltt_some hF
              refine lv_topi (fun zx68 ezx68 => ?_)
              obtain rfl : x68 = zx68 := ex68.trans ezx68.symm
              refine va_put (D := D) (ci := 5) (v := .int x68) (ty := .int) (C := RX5) (T := TX5) (N := 17) hx hb hts (by decide +kernel) tyX5 tyX5_ok nmX5 hown hK hP hD hS a (wld_o ct ad G M62 hc hk (by decide)) rfl 8 (by decide) (hts (.fieldLink RX5 96 "VideoSuite$Reader" "range" "I") (by decide +kernel)) (fun _ h9 => h9) rfl (by decide +kernel) rfl rfl (Nat.le_of_ble_eq_true rfl) dX5_bit_311 (fun H locs hP hD hS => ?_)
              obtain ⟨M69, eM69, hF⟩ := ltt_some hF
              rw [set_oI ct ad G M62 hc hk (by decide) (by rfl), ← eM69] at hP hD
              refine lv_aload_n hx hb dX5_bit_314 rfl (lv_at hl 3 rfl) ?_
              refine lv_aload_n hx hb dX5_bit_315 rfl (lv_at hl 3 rfl) ?_
              refine va_get (D := D) (ci := 5) (v := .int (M69.1 a 9)) (C := RX5) (T := TX5) (N := 17) hx hb hts (by decide +kernel) hown hK hP a (wld_o ct ad G M69 hc hk (by decide)) rfl 9 (by decide) (hts (.fieldLink RX5 99 "VideoSuite$Reader" "offset" "I") (by decide +kernel)) (fun _ h9 => h9) rfl dX5_bit_316 ?_
              obtain ⟨x70, ex70, hF⟩ := ltt_some hF
              refine lv_topi (fun zx70 ezx70 => ?_)
              obtain rfl : x70 = zx70 := ex70.trans ezx70.symm
              refine lv_iconst (v := (1 : Int32)) hx hb dX5_bit_319 (by decide) ?_
              refine lv_ishl hx hb dX5_bit_320 ?_
              obtain ⟨x71, ex71, hF⟩ := ltt_some hF
              refine lv_topi (fun zx71 ezx71 => ?_)
              obtain rfl : x71 = zx71 := ex71.trans ezx71.symm
              refine lv_iload hx hb dX5_bit_321 (lv_at hl 0 rfl) ?_
              refine lv_ior hx hb dX5_bit_323 ?_
              obtain ⟨x72, ex72, hF⟩ := ltt_some hF
              refine lv_topi (fun zx72 ezx72 => ?_)
              obtain rfl : x72 = zx72 := ex72.trans ezx72.symm
              refine va_put (D := D) (ci := 5) (v := .int x72) (ty := .int) (C := RX5) (T := TX5) (N := 17) hx hb hts (by decide +kernel) tyX5 tyX5_ok nmX5 hown hK hP hD hS a (wld_o ct ad G M69 hc hk (by decide)) rfl 9 (by decide) (hts (.fieldLink RX5 99 "VideoSuite$Reader" "offset" "I") (by decide +kernel)) (fun _ h9 => h9) rfl (by decide +kernel) rfl rfl (Nat.le_of_ble_eq_true rfl) dX5_bit_324 (fun H locs hP hD hS => ?_)
              obtain ⟨M73, eM73, hF⟩ := ltt_some hF
              rw [set_oI ct ad G M69 hc hk (by decide) (by rfl), ← eM73] at hP hD
              refine lv_goto (tgt := 333) hx hb dX5_bit_327 (by decide) ?_
              obtain rfl := Option.some.inj hF
              exact J64 _ _ _ hP hD hS (lv_sub hl [0, 1, 2, 3, 4, 5] rfl)
          · rw [if_neg c49] at hF
            refine lv_aload_n hx hb dX5_bit_222 rfl (lv_at hl 2 rfl) ?_
            refine lv_iconst (v := (1 : Int32)) hx hb dX5_bit_223 (by decide) ?_
            refine va_put (D := D) (ci := 5) (v := .int (1 : Int32)) (ty := .int) (C := RX5) (T := TX5) (N := 17) hx hb hts (by decide +kernel) tyX5 tyX5_ok nmX5 hown hK hP hD hS a (wld_o ct ad G s4.2.2 hc hk (by decide)) rfl 15 (by decide) (hts (.fieldLink RX5 76 "VideoSuite$Reader" "faultKind" "I") (by decide +kernel)) (fun _ h9 => h9) rfl (by decide +kernel) rfl rfl (Nat.le_of_ble_eq_true rfl) dX5_bit_224 (fun H locs hP hD hS => ?_)
            obtain ⟨M74, eM74, hF⟩ := ltt_some hF
            rw [set_oI ct ad G s4.2.2 hc hk (by decide) (by rfl), ← eM74] at hP hD
            refine lv_aload_n hx hb dX5_bit_227 rfl (lv_at hl 2 rfl) ?_
            refine lv_aload_n hx hb dX5_bit_228 rfl (lv_at hl 2 rfl) ?_
            refine va_get (D := D) (ci := 5) (v := .int (M74.1 a 7)) (C := RX5) (T := TX5) (N := 17) hx hb hts (by decide +kernel) hown hK hP a (wld_o ct ad G M74 hc hk (by decide)) rfl 7 (by decide) (hts (.fieldLink RX5 70 "VideoSuite$Reader" "inData" "Z") (by decide +kernel)) (fun _ h9 => h9) rfl dX5_bit_229 ?_
            obtain ⟨x75, ex75, hF⟩ := ltt_some hF
            refine lv_topi (fun zx75 ezx75 => ?_)
            obtain rfl : x75 = zx75 := ex75.trans ezx75.symm
            obtain ⟨y76, hy76, hF⟩ := bnd_some hF
            have J76 : ∀ (H : Heap) (locs : List Loc) (ls : Array Slot), va_P D classes (wld ct ad G M74) H → va_D A (wld ct ad G M74) → va_S A s.heap H locs → lv_has ls 8 [(4, .int s4.2.1), (3, .int s4.1), (0, .ref (ad a)), (1, .int p0), (2, .int p1)] → W p l e (headSpec wsX5_bit ({ frames := 0, cells := 0, slots := 0, locals := 0 })).room s m ([.ref (ad a), .int p0, .int p1] : List Value).toArray below meth c H locs 0 0 (MQ below (va_Qi (fun (q : Int32) (_ : Unit) => q = y.2) (fun _ t => kE D ct ad G A y.1 t) A) ([.ref (ad a), .int p0, .int p1] : List Value).toArray s 0 0 A) (F0 m 246 ls [.int y76, .ref (ad a)]) := by
              intro H locs ls hP hD hS hl
              refine va_put (D := D) (ci := 5) (v := .int y76) (ty := .int) (C := RX5) (T := TX5) (N := 17) hx hb hts (by decide +kernel) tyX5 tyX5_ok nmX5 hown hK hP hD hS a (wld_o ct ad G M74 hc hk (by decide)) rfl 16 (by decide) (hts (.fieldLink RX5 79 "VideoSuite$Reader" "faultPlace" "I") (by decide +kernel)) (fun _ h9 => h9) rfl (by decide +kernel) rfl rfl (Nat.le_of_ble_eq_true rfl) dX5_bit_246 (fun H locs hP hD hS => ?_)
              obtain ⟨M77, eM77, hF⟩ := ltt_some hF
              rw [set_oI ct ad G M74 hc hk (by decide) (by rfl), ← eM77] at hP hD
              cases hF
            clear hF
            have hF := hy76
            clear hy76
            refine lv_if_eq (tgt := 242) hx hb dX5_bit_232 (by decide) (fun c78 => ?_) (fun c78 => ?_)
            · rw [if_pos c78] at hF
              refine lv_aload_n hx hb dX5_bit_242 rfl (lv_at hl 2 rfl) ?_
              refine va_get (D := D) (ci := 5) (v := .int (M74.1 a 4)) (C := RX5) (T := TX5) (N := 17) hx hb hts (by decide +kernel) hown hK hP a (wld_o ct ad G M74 hc hk (by decide)) rfl 4 (by decide) (hts (.fieldLink RX5 60 "VideoSuite$Reader" "begin" "I") (by decide +kernel)) (fun _ h9 => h9) rfl dX5_bit_243 ?_
              obtain ⟨x79, ex79, hF⟩ := ltt_some hF
              refine lv_topi (fun zx79 ezx79 => ?_)
              obtain rfl : x79 = zx79 := ex79.trans ezx79.symm
              obtain rfl := Option.some.inj hF
              exact J76 _ _ _ hP hD hS (lv_sub hl [0, 1, 2, 3, 4] rfl)
            · rw [if_neg c78] at hF
              refine lv_aload_n hx hb dX5_bit_235 rfl (lv_at hl 2 rfl) ?_
              refine va_get (D := D) (ci := 5) (v := .int (M74.1 a 2)) (C := RX5) (T := TX5) (N := 17) hx hb hts (by decide +kernel) hown hK hP a (wld_o ct ad G M74 hc hk (by decide)) rfl 2 (by decide) (hts (.fieldLink RX5 57 "VideoSuite$Reader" "place" "I") (by decide +kernel)) (fun _ h9 => h9) rfl dX5_bit_236 ?_
              obtain ⟨x80, ex80, hF⟩ := ltt_some hF
              refine lv_topi (fun zx80 ezx80 => ?_)
              obtain rfl : x80 = zx80 := ex80.trans ezx80.symm
              refine lv_goto (tgt := 246) hx hb dX5_bit_239 (by decide) ?_
              obtain rfl := Option.some.inj hF
              exact J76 _ _ _ hP hD hS (lv_sub hl [0, 1, 2, 3, 4] rfl)
  clear hF
  have hF := hy2
  clear hy2
  refine lv_if_eq (tgt := 175) hx hb dX5_bit_6 (by decide) (fun c81 => ?_) (fun c81 => ?_)
  · rw [if_pos c81] at hF
    obtain rfl := Option.some.inj hF
    exact J2 _ _ _ hP hD hS (lv_sub hl [0, 1, 2, 3] rfl)
  · rw [if_neg c81] at hF
    refine lv_bipush (v := (16 : Int32)) hx hb dX5_bit_9 (by decide) ?_
    refine lv_iload_n hx hb dX5_bit_11 rfl (lv_at hl 2 rfl) ?_
    refine lv_imul hx hb dX5_bit_12 ?_
    obtain ⟨x82, ex82, hF⟩ := ltt_some hF
    refine lv_topi (fun zx82 ezx82 => ?_)
    obtain rfl : x82 = zx82 := ex82.trans ezx82.symm
    refine lv_iload_n hx hb dX5_bit_13 rfl (lv_at hl 3 rfl) ?_
    refine lv_bipush (v := (15 : Int32)) hx hb dX5_bit_14 (by decide) ?_
    obtain ⟨y83, hy83, hF⟩ := bnd_some hF
    have J83 : ∀ (H : Heap) (locs : List Loc) (ls : Array Slot), va_P D classes (wld ct ad G M) H → va_D A (wld ct ad G M) → va_S A s.heap H locs → lv_has ls 8 [(3, .int (0 : Int32)), (0, .ref (ad a)), (1, .int p0), (2, .int p1)] → W p l e (headSpec wsX5_bit ({ frames := 0, cells := 0, slots := 0, locals := 0 })).room s m ([.ref (ad a), .int p0, .int p1] : List Value).toArray below meth c H locs 0 0 (MQ below (va_Qi (fun (q : Int32) (_ : Unit) => q = y.2) (fun _ t => kE D ct ad G A y.1 t) A) ([.ref (ad a), .int p0, .int p1] : List Value).toArray s 0 0 A) (F0 m 25 ls [.int y83, .int x82]) := by
      intro H locs ls hP hD hS hl
      refine lv_iadd hx hb dX5_bit_25 ?_
      obtain ⟨x84, ex84, hF⟩ := ltt_some hF
      refine lv_topi (fun zx84 ezx84 => ?_)
      obtain rfl : x84 = zx84 := ex84.trans ezx84.symm
      refine lv_istore (lv' := [(4, .int x84), (3, .int (0 : Int32)), (0, .ref (ad a)), (1, .int p0), (2, .int p1)]) hx hb dX5_bit_26 hl (by decide) rfl (fun ls hl => ?_)
      refine lv_aload_n hx hb dX5_bit_28 rfl (lv_at hl 2 rfl) ?_
      refine va_get (D := D) (ci := 5) (v := va_re ad (M.2 a 10)) (C := RX5) (T := TX5) (N := 17) hx hb hts (by decide +kernel) hown hK hP a (wld_o ct ad G M hc hk (by decide)) rfl 10 (by decide) (hts (.fieldLink RX5 11 "VideoSuite$Reader" "state" "[I") (by decide +kernel)) (fun _ h9 => h9) rfl dX5_bit_29 ?_
      refine lv_iload hx hb dX5_bit_32 (lv_at hl 0 rfl) ?_
      obtain ⟨b85, ho85, hc85, hk85, hF⟩ := dr_some hF
      refine W_st (st' := [.int x84, .ref (ad b85)]) (by rw [va_some ho85]) ?_
      obtain ⟨hvc, hF⟩ := chk_some hF
      refine va_iald hx hb hK hP b85 1 (wld_i ct ad G M hc85 hk85) rfl hvc dX5_bit_34 ?_
      obtain ⟨x86, ex86, hF⟩ := ltt_some hF
      refine lv_topi (fun zx86 ezx86 => ?_)
      obtain rfl : x86 = zx86 := ex86.trans ezx86.symm
      refine lv_iconst (v := (1 : Int32)) hx hb dX5_bit_35 (by decide) ?_
      refine lv_ishr hx hb dX5_bit_36 ?_
      obtain ⟨x87, ex87, hF⟩ := ltt_some hF
      refine lv_topi (fun zx87 ezx87 => ?_)
      obtain rfl : x87 = zx87 := ex87.trans ezx87.symm
      refine lv_istore (lv' := [(5, .int x87), (4, .int x84), (3, .int (0 : Int32)), (0, .ref (ad a)), (1, .int p0), (2, .int p1)]) hx hb dX5_bit_37 hl (by decide) rfl (fun ls hl => ?_)
      refine lv_aload_n hx hb dX5_bit_39 rfl (lv_at hl 3 rfl) ?_
      refine va_get (D := D) (ci := 5) (v := va_re ad (M.2 a 10)) (C := RX5) (T := TX5) (N := 17) hx hb hts (by decide +kernel) hown hK hP a (wld_o ct ad G M hc hk (by decide)) rfl 10 (by decide) (hts (.fieldLink RX5 11 "VideoSuite$Reader" "state" "[I") (by decide +kernel)) (fun _ h9 => h9) rfl dX5_bit_40 ?_
      refine lv_iload hx hb dX5_bit_43 (lv_at hl 1 rfl) ?_
      refine W_st (st' := [.int x84, .ref (ad b85)]) (by rw [va_some ho85]) ?_
      obtain ⟨hvc, hF⟩ := chk_some hF
      refine va_iald hx hb hK hP b85 1 (wld_i ct ad G M hc85 hk85) rfl hvc dX5_bit_45 ?_
      obtain ⟨x88, ex88, hF⟩ := ltt_some hF
      refine lv_topi (fun zx88 ezx88 => ?_)
      obtain rfl : x88 = zx88 := ex88.trans ezx88.symm
      refine lv_iconst (v := (1 : Int32)) hx hb dX5_bit_46 (by decide) ?_
      refine lv_iand hx hb dX5_bit_47 ?_
      obtain ⟨x89, ex89, hF⟩ := ltt_some hF
      refine lv_topi (fun zx89 ezx89 => ?_)
      obtain rfl : x89 = zx89 := ex89.trans ezx89.symm
      refine lv_istore (lv' := [(6, .int x89), (5, .int x87), (4, .int x84), (3, .int (0 : Int32)), (0, .ref (ad a)), (1, .int p0), (2, .int p1)]) hx hb dX5_bit_48 hl (by decide) rfl (fun ls hl => ?_)
      refine va_gets hx hb (hZ 8 (by decide)).1 hS hown (hts (.fieldLink RX5 93 "VideoSuite$Reader" "LOWER" "[I") (by decide +kernel)) (fun _ h => h) dX5_bit_50 ?_
      refine lv_iconst (v := (4 : Int32)) hx hb dX5_bit_53 (by decide) ?_
      refine lv_iload hx hb dX5_bit_54 (lv_at hl 1 rfl) ?_
      refine lv_imul hx hb dX5_bit_56 ?_
      obtain ⟨x90, ex90, hF⟩ := ltt_some hF
      refine lv_topi (fun zx90 ezx90 => ?_)
      obtain rfl : x90 = zx90 := ex90.trans ezx90.symm
      refine lv_aload_n hx hb dX5_bit_57 rfl (lv_at hl 4 rfl) ?_
      refine va_get (D := D) (ci := 5) (v := .int (M.1 a 8)) (C := RX5) (T := TX5) (N := 17) hx hb hts (by decide +kernel) hown hK hP a (wld_o ct ad G M hc hk (by decide)) rfl 8 (by decide) (hts (.fieldLink RX5 96 "VideoSuite$Reader" "range" "I") (by decide +kernel)) (fun _ h9 => h9) rfl dX5_bit_58 ?_
      obtain ⟨x91, ex91, hF⟩ := ltt_some hF
      refine lv_topi (fun zx91 ezx91 => ?_)
      obtain rfl : x91 = zx91 := ex91.trans ezx91.symm
      refine lv_bipush (v := (6 : Int32)) hx hb dX5_bit_61 (by decide) ?_
      refine lv_ishr hx hb dX5_bit_63 ?_
      obtain ⟨x92, ex92, hF⟩ := ltt_some hF
      refine lv_topi (fun zx92 ezx92 => ?_)
      obtain rfl : x92 = zx92 := ex92.trans ezx92.symm
      refine lv_iconst (v := (3 : Int32)) hx hb dX5_bit_64 (by decide) ?_
      refine lv_iand hx hb dX5_bit_65 ?_
      obtain ⟨x93, ex93, hF⟩ := ltt_some hF
      refine lv_topi (fun zx93 ezx93 => ?_)
      obtain rfl : x93 = zx93 := ex93.trans ezx93.symm
      refine lv_iadd hx hb dX5_bit_66 ?_
      obtain ⟨x94, ex94, hF⟩ := ltt_some hF
      refine lv_topi (fun zx94 ezx94 => ?_)
      obtain rfl : x94 = zx94 := ex94.trans ezx94.symm
      obtain ⟨hvc, hF⟩ := chk_some hF
      refine va_ti (v := .int ((sT 8).getD x94.toNatClampNeg 0)) hx hb (hZ 8 (by decide)).2 hS hvc rfl dX5_bit_67 ?_
      obtain ⟨x95, ex95, hF⟩ := ltt_some hF
      refine lv_topi (fun zx95 ezx95 => ?_)
      obtain rfl : x95 = zx95 := ex95.trans ezx95.symm
      refine lv_istore (lv' := [(7, .int x95), (6, .int x89), (5, .int x87), (4, .int x84), (3, .int (0 : Int32)), (0, .ref (ad a)), (1, .int p0), (2, .int p1)]) hx hb dX5_bit_68 hl (by decide) rfl (fun ls hl => ?_)
      refine lv_iload hx hb dX5_bit_70 (lv_at hl 1 rfl) ?_
      refine lv_istore_n (lv' := [(3, .int x89), (7, .int x95), (6, .int x89), (5, .int x87), (4, .int x84), (0, .ref (ad a)), (1, .int p0), (2, .int p1)]) hx hb dX5_bit_72 rfl hl (by decide) rfl (fun ls hl => ?_)
      refine lv_aload_n hx hb dX5_bit_73 rfl (lv_at hl 5 rfl) ?_
      refine lv_dup hx hb dX5_bit_74 rfl ?_
      refine va_get (D := D) (ci := 5) (v := .int (M.1 a 8)) (C := RX5) (T := TX5) (N := 17) hx hb hts (by decide +kernel) hown hK hP a (wld_o ct ad G M hc hk (by decide)) rfl 8 (by decide) (hts (.fieldLink RX5 96 "VideoSuite$Reader" "range" "I") (by decide +kernel)) (fun _ h9 => h9) rfl dX5_bit_75 ?_
      obtain ⟨x96, ex96, hF⟩ := ltt_some hF
      refine lv_topi (fun zx96 ezx96 => ?_)
      obtain rfl : x96 = zx96 := ex96.trans ezx96.symm
      refine lv_iload hx hb dX5_bit_78 (lv_at hl 1 rfl) ?_
      refine lv_isub hx hb dX5_bit_80 ?_
      obtain ⟨x97, ex97, hF⟩ := ltt_some hF
      refine lv_topi (fun zx97 ezx97 => ?_)
      obtain rfl : x97 = zx97 := ex97.trans ezx97.symm
      refine va_put (D := D) (ci := 5) (v := .int x97) (ty := .int) (C := RX5) (T := TX5) (N := 17) hx hb hts (by decide +kernel) tyX5 tyX5_ok nmX5 hown hK hP hD hS a (wld_o ct ad G M hc hk (by decide)) rfl 8 (by decide) (hts (.fieldLink RX5 96 "VideoSuite$Reader" "range" "I") (by decide +kernel)) (fun _ h9 => h9) rfl (by decide +kernel) rfl rfl (Nat.le_of_ble_eq_true rfl) dX5_bit_81 (fun H locs hP hD hS => ?_)
      obtain ⟨M98, eM98, hF⟩ := ltt_some hF
      rw [set_oI ct ad G M hc hk (by decide) (by rfl), ← eM98] at hP hD
      refine lv_aload_n hx hb dX5_bit_84 rfl (lv_at hl 5 rfl) ?_
      refine va_get (D := D) (ci := 5) (v := .int (M98.1 a 9)) (C := RX5) (T := TX5) (N := 17) hx hb hts (by decide +kernel) hown hK hP a (wld_o ct ad G M98 hc hk (by decide)) rfl 9 (by decide) (hts (.fieldLink RX5 99 "VideoSuite$Reader" "offset" "I") (by decide +kernel)) (fun _ h9 => h9) rfl dX5_bit_85 ?_
      obtain ⟨x99, ex99, hF⟩ := ltt_some hF
      refine lv_topi (fun zx99 ezx99 => ?_)
      obtain rfl : x99 = zx99 := ex99.trans ezx99.symm
      refine lv_aload_n hx hb dX5_bit_88 rfl (lv_at hl 5 rfl) ?_
      refine va_get (D := D) (ci := 5) (v := .int (M98.1 a 8)) (C := RX5) (T := TX5) (N := 17) hx hb hts (by decide +kernel) hown hK hP a (wld_o ct ad G M98 hc hk (by decide)) rfl 8 (by decide) (hts (.fieldLink RX5 96 "VideoSuite$Reader" "range" "I") (by decide +kernel)) (fun _ h9 => h9) rfl dX5_bit_89 ?_
      obtain ⟨x100, ex100, hF⟩ := ltt_some hF
      refine lv_topi (fun zx100 ezx100 => ?_)
      obtain rfl : x100 = zx100 := ex100.trans ezx100.symm
      obtain ⟨y101, hy101, hF⟩ := bnd_some hF
      have J101 : ∀ (H : Heap) (locs : List Loc) (ls : Array Slot), va_P D classes (wld ct ad G y101.2.2.2) H → va_D A (wld ct ad G y101.2.2.2) → va_S A s.heap H locs → lv_has ls 8 [(3, .int y101.1), (7, .int x95), (6, .int y101.2.2.1), (5, .int y101.2.1), (4, .int x84), (0, .ref (ad a)), (1, .int p0), (2, .int p1)] → W p l e (headSpec wsX5_bit ({ frames := 0, cells := 0, slots := 0, locals := 0 })).room s m ([.ref (ad a), .int p0, .int p1] : List Value).toArray below meth c H locs 0 0 (MQ below (va_Qi (fun (q : Int32) (_ : Unit) => q = y.2) (fun _ t => kE D ct ad G A y.1 t) A) ([.ref (ad a), .int p0, .int p1] : List Value).toArray s 0 0 A) (F0 m 161 ls []) := by
        intro H locs ls hP hD hS hl
        refine lv_aload_n hx hb dX5_bit_161 rfl (lv_at hl 5 rfl) ?_
        refine va_get (D := D) (ci := 5) (v := va_re ad (y101.2.2.2.2 a 10)) (C := RX5) (T := TX5) (N := 17) hx hb hts (by decide +kernel) hown hK hP a (wld_o ct ad G y101.2.2.2 hc hk (by decide)) rfl 10 (by decide) (hts (.fieldLink RX5 11 "VideoSuite$Reader" "state" "[I") (by decide +kernel)) (fun _ h9 => h9) rfl dX5_bit_162 ?_
        refine lv_iload hx hb dX5_bit_165 (lv_at hl 4 rfl) ?_
        refine lv_iload hx hb dX5_bit_167 (lv_at hl 3 rfl) ?_
        refine lv_iconst (v := (1 : Int32)) hx hb dX5_bit_169 (by decide) ?_
        refine lv_ishl hx hb dX5_bit_170 ?_
        obtain ⟨x102, ex102, hF⟩ := ltt_some hF
        refine lv_topi (fun zx102 ezx102 => ?_)
        obtain rfl : x102 = zx102 := ex102.trans ezx102.symm
        refine lv_iload hx hb dX5_bit_171 (lv_at hl 2 rfl) ?_
        refine lv_ior hx hb dX5_bit_173 ?_
        obtain ⟨x103, ex103, hF⟩ := ltt_some hF
        refine lv_topi (fun zx103 ezx103 => ?_)
        obtain rfl : x103 = zx103 := ex103.trans ezx103.symm
        obtain ⟨b104, ho104, hc104, hk104, hF⟩ := dr_some hF
        refine W_st (st' := [.int x103, .int x84, .ref (ad b104)]) (by rw [va_some ho104]) ?_
        obtain ⟨hvc, hF⟩ := chk_some hF
        refine va_iast hx hb hK hP hD hS b104 1 (wld_i ct ad G y101.2.2.2 hc104 hk104) rfl hvc dX5_bit_174 (fun H locs hP hD hS => ?_)
        obtain ⟨M105, eM105, hF⟩ := ltt_some hF
        rw [set_i ct ad G y101.2.2.2 hc104 hk104, ← eM105] at hP hD
        obtain rfl := Option.some.inj hF
        exact J2 _ _ _ hP hD hS (lv_sub hl [0, 5, 6, 7] rfl)
      clear hF
      have hF := hy101
      clear hy101
      refine lv_icmp_ge (tgt := 116) hx hb dX5_bit_92 (by decide) (fun c106 => ?_) (fun c106 => ?_)
      · rw [if_pos c106] at hF
        refine lv_iconst (v := (1 : Int32)) hx hb dX5_bit_116 (by decide) ?_
        refine lv_iload hx hb dX5_bit_117 (lv_at hl 2 rfl) ?_
        refine lv_isub hx hb dX5_bit_119 ?_
        obtain ⟨x107, ex107, hF⟩ := ltt_some hF
        refine lv_topi (fun zx107 ezx107 => ?_)
        obtain rfl : x107 = zx107 := ex107.trans ezx107.symm
        refine lv_istore_n (lv' := [(3, .int x107), (7, .int x95), (6, .int x89), (5, .int x87), (4, .int x84), (0, .ref (ad a)), (1, .int p0), (2, .int p1)]) hx hb dX5_bit_120 rfl hl (by decide) rfl (fun ls hl => ?_)
        refine lv_aload_n hx hb dX5_bit_121 rfl (lv_at hl 5 rfl) ?_
        refine lv_dup hx hb dX5_bit_122 rfl ?_
        refine va_get (D := D) (ci := 5) (v := .int (M98.1 a 9)) (C := RX5) (T := TX5) (N := 17) hx hb hts (by decide +kernel) hown hK hP a (wld_o ct ad G M98 hc hk (by decide)) rfl 9 (by decide) (hts (.fieldLink RX5 99 "VideoSuite$Reader" "offset" "I") (by decide +kernel)) (fun _ h9 => h9) rfl dX5_bit_123 ?_
        obtain ⟨x108, ex108, hF⟩ := ltt_some hF
        refine lv_topi (fun zx108 ezx108 => ?_)
        obtain rfl : x108 = zx108 := ex108.trans ezx108.symm
        refine lv_aload_n hx hb dX5_bit_126 rfl (lv_at hl 5 rfl) ?_
        refine va_get (D := D) (ci := 5) (v := .int (M98.1 a 8)) (C := RX5) (T := TX5) (N := 17) hx hb hts (by decide +kernel) hown hK hP a (wld_o ct ad G M98 hc hk (by decide)) rfl 8 (by decide) (hts (.fieldLink RX5 96 "VideoSuite$Reader" "range" "I") (by decide +kernel)) (fun _ h9 => h9) rfl dX5_bit_127 ?_
        obtain ⟨x109, ex109, hF⟩ := ltt_some hF
        refine lv_topi (fun zx109 ezx109 => ?_)
        obtain rfl : x109 = zx109 := ex109.trans ezx109.symm
        refine lv_isub hx hb dX5_bit_130 ?_
        obtain ⟨x110, ex110, hF⟩ := ltt_some hF
        refine lv_topi (fun zx110 ezx110 => ?_)
        obtain rfl : x110 = zx110 := ex110.trans ezx110.symm
        refine va_put (D := D) (ci := 5) (v := .int x110) (ty := .int) (C := RX5) (T := TX5) (N := 17) hx hb hts (by decide +kernel) tyX5 tyX5_ok nmX5 hown hK hP hD hS a (wld_o ct ad G M98 hc hk (by decide)) rfl 9 (by decide) (hts (.fieldLink RX5 99 "VideoSuite$Reader" "offset" "I") (by decide +kernel)) (fun _ h9 => h9) rfl (by decide +kernel) rfl rfl (Nat.le_of_ble_eq_true rfl) dX5_bit_131 (fun H locs hP hD hS => ?_)
        obtain ⟨M111, eM111, hF⟩ := ltt_some hF
        rw [set_oI ct ad G M98 hc hk (by decide) (by rfl), ← eM111] at hP hD
        refine lv_aload_n hx hb dX5_bit_134 rfl (lv_at hl 5 rfl) ?_
        refine lv_iload hx hb dX5_bit_135 (lv_at hl 1 rfl) ?_
        refine va_put (D := D) (ci := 5) (v := .int x95) (ty := .int) (C := RX5) (T := TX5) (N := 17) hx hb hts (by decide +kernel) tyX5 tyX5_ok nmX5 hown hK hP hD hS a (wld_o ct ad G M111 hc hk (by decide)) rfl 8 (by decide) (hts (.fieldLink RX5 96 "VideoSuite$Reader" "range" "I") (by decide +kernel)) (fun _ h9 => h9) rfl (by decide +kernel) rfl rfl (Nat.le_of_ble_eq_true rfl) dX5_bit_137 (fun H locs hP hD hS => ?_)
        obtain ⟨M112, eM112, hF⟩ := ltt_some hF
        rw [set_oI ct ad G M111 hc hk (by decide) (by rfl), ← eM112] at hP hD
        refine lv_iload hx hb dX5_bit_140 (lv_at hl 3 rfl) ?_
        obtain ⟨y113, hy113, hF⟩ := bnd_some hF
        have J113 : ∀ (H : Heap) (locs : List Loc) (ls : Array Slot), va_P D classes (wld ct ad G M112) H → va_D A (wld ct ad G M112) → va_S A s.heap H locs → lv_has ls 8 [(3, .int x107), (7, .int x95), (6, .int x89), (5, .int x87), (4, .int x84), (0, .ref (ad a)), (1, .int p0), (2, .int p1)] → W p l e (headSpec wsX5_bit ({ frames := 0, cells := 0, slots := 0, locals := 0 })).room s m ([.ref (ad a), .int p0, .int p1] : List Value).toArray below meth c H locs 0 0 (MQ below (va_Qi (fun (q : Int32) (_ : Unit) => q = y.2) (fun _ t => kE D ct ad G A y.1 t) A) ([.ref (ad a), .int p0, .int p1] : List Value).toArray s 0 0 A) (F0 m 151 ls [.int y113]) := by
          intro H locs ls hP hD hS hl
          refine lv_istore (lv' := [(6, .int y113), (3, .int x107), (7, .int x95), (5, .int x87), (4, .int x84), (0, .ref (ad a)), (1, .int p0), (2, .int p1)]) hx hb dX5_bit_151 hl (by decide) rfl (fun ls hl => ?_)
          refine va_gets hx hb (hZ 7 (by decide)).1 hS hown (hts (.fieldLink RX5 102 "VideoSuite$Reader" "DOWN" "[I") (by decide +kernel)) (fun _ h => h) dX5_bit_153 ?_
          refine lv_iload hx hb dX5_bit_156 (lv_at hl 3 rfl) ?_
          obtain ⟨hvc, hF⟩ := chk_some hF
          refine va_ti (v := .int ((sT 7).getD x87.toNatClampNeg 0)) hx hb (hZ 7 (by decide)).2 hS hvc rfl dX5_bit_158 ?_
          obtain ⟨x114, ex114, hF⟩ := ltt_some hF
          refine lv_topi (fun zx114 ezx114 => ?_)
          obtain rfl : x114 = zx114 := ex114.trans ezx114.symm
          refine lv_istore (lv' := [(5, .int x114), (6, .int y113), (3, .int x107), (7, .int x95), (4, .int x84), (0, .ref (ad a)), (1, .int p0), (2, .int p1)]) hx hb dX5_bit_159 hl (by decide) rfl (fun ls hl => ?_)
          obtain rfl := Option.some.inj hF
          exact J101 _ _ _ hP hD hS (lv_sub hl [2, 3, 1, 0, 4, 5, 6, 7] rfl)
        clear hF
        have hF := hy113
        clear hy113
        refine lv_if_ne (tgt := 149) hx hb dX5_bit_142 (by decide) (fun c115 => ?_) (fun c115 => ?_)
        · rw [if_neg c115] at hF
          refine lv_iload hx hb dX5_bit_149 (lv_at hl 2 rfl) ?_
          obtain rfl := Option.some.inj hF
          exact J113 _ _ _ hP hD hS (lv_sub hl [0, 1, 2, 3, 4, 5, 6, 7] rfl)
        · rw [if_pos c115] at hF
          refine lv_iload_n hx hb dX5_bit_145 rfl (lv_at hl 0 rfl) ?_
          refine lv_goto (tgt := 151) hx hb dX5_bit_146 (by decide) ?_
          obtain rfl := Option.some.inj hF
          exact J113 _ _ _ hP hD hS (lv_sub hl [0, 1, 2, 3, 4, 5, 6, 7] rfl)
      · rw [if_neg c106] at hF
        refine lv_iload hx hb dX5_bit_95 (lv_at hl 3 rfl) ?_
        refine lv_bipush (v := (62 : Int32)) hx hb dX5_bit_97 (by decide) ?_
        obtain ⟨y116, hy116, hF⟩ := bnd_some hF
        have J116 : ∀ (H : Heap) (locs : List Loc) (ls : Array Slot), va_P D classes (wld ct ad G M98) H → va_D A (wld ct ad G M98) → va_S A s.heap H locs → lv_has ls 8 [(3, .int x89), (7, .int x95), (6, .int x89), (5, .int x87), (4, .int x84), (0, .ref (ad a)), (1, .int p0), (2, .int p1)] → W p l e (headSpec wsX5_bit ({ frames := 0, cells := 0, slots := 0, locals := 0 })).room s m ([.ref (ad a), .int p0, .int p1] : List Value).toArray below meth c H locs 0 0 (MQ below (va_Qi (fun (q : Int32) (_ : Unit) => q = y.2) (fun _ t => kE D ct ad G A y.1 t) A) ([.ref (ad a), .int p0, .int p1] : List Value).toArray s 0 0 A) (F0 m 111 ls [.int y116]) := by
          intro H locs ls hP hD hS hl
          refine lv_istore (lv' := [(5, .int y116), (3, .int x89), (7, .int x95), (6, .int x89), (4, .int x84), (0, .ref (ad a)), (1, .int p0), (2, .int p1)]) hx hb dX5_bit_111 hl (by decide) rfl (fun ls hl => ?_)
          refine lv_goto (tgt := 161) hx hb dX5_bit_113 (by decide) ?_
          obtain rfl := Option.some.inj hF
          exact J101 _ _ _ hP hD hS (lv_sub hl [1, 2, 3, 0, 4, 5, 6, 7] rfl)
        clear hF
        have hF := hy116
        clear hy116
        refine lv_icmp_ge (tgt := 109) hx hb dX5_bit_99 (by decide) (fun c117 => ?_) (fun c117 => ?_)
        · rw [if_pos c117] at hF
          refine lv_bipush (v := (62 : Int32)) hx hb dX5_bit_109 (by decide) ?_
          obtain rfl := Option.some.inj hF
          exact J116 _ _ _ hP hD hS (lv_sub hl [0, 1, 2, 3, 4, 5, 6, 7] rfl)
        · rw [if_neg c117] at hF
          refine lv_iload hx hb dX5_bit_102 (lv_at hl 3 rfl) ?_
          refine lv_iconst (v := (1 : Int32)) hx hb dX5_bit_104 (by decide) ?_
          refine lv_iadd hx hb dX5_bit_105 ?_
          obtain ⟨x118, ex118, hF⟩ := ltt_some hF
          refine lv_topi (fun zx118 ezx118 => ?_)
          obtain rfl : x118 = zx118 := ex118.trans ezx118.symm
          refine lv_goto (tgt := 111) hx hb dX5_bit_106 (by decide) ?_
          obtain rfl := Option.some.inj hF
          exact J116 _ _ _ hP hD hS (lv_sub hl [0, 1, 2, 3, 4, 5, 6, 7] rfl)
    clear hF
    have hF := hy83
    clear hy83
    refine lv_icmp_ge (tgt := 23) hx hb dX5_bit_16 (by decide) (fun c119 => ?_) (fun c119 => ?_)
    · rw [if_pos c119] at hF
      refine lv_bipush (v := (15 : Int32)) hx hb dX5_bit_23 (by decide) ?_
      obtain rfl := Option.some.inj hF
      exact J83 _ _ _ hP hD hS (lv_sub hl [0, 1, 2, 3] rfl)
    · rw [if_neg c119] at hF
      refine lv_iload_n hx hb dX5_bit_19 rfl (lv_at hl 3 rfl) ?_
      refine lv_goto (tgt := 25) hx hb dX5_bit_20 (by decide) ?_
      obtain rfl := Option.some.inj hF
      exact J83 _ _ _ hP hD hS (lv_sub hl [0, 1, 2, 3] rfl)
