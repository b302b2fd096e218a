theorem dX10_indexOfSe_0 : decode cX10_indexOfSe 0 = .ok (.iload_n 0, 1) := by decide +kernel
theorem dX10_indexOfSe_1 : decode cX10_indexOfSe 1 = .ok (.ifCond .le 11, 3) := by decide +kernel
theorem dX10_indexOfSe_4 : decode cX10_indexOfSe 4 = .ok (.iconst 2, 1) := by decide +kernel
theorem dX10_indexOfSe_5 : decode cX10_indexOfSe 5 = .ok (.iload_n 0, 1) := by decide +kernel
theorem dX10_indexOfSe_6 : decode cX10_indexOfSe 6 = .ok (.imul, 1) := by decide +kernel
theorem dX10_indexOfSe_7 : decode cX10_indexOfSe 7 = .ok (.iconst 1, 1) := by decide +kernel
theorem dX10_indexOfSe_8 : decode cX10_indexOfSe 8 = .ok (.isub, 1) := by decide +kernel
theorem dX10_indexOfSe_9 : decode cX10_indexOfSe 9 = .ok (.goto 7, 3) := by decide +kernel
theorem dX10_indexOfSe_12 : decode cX10_indexOfSe 12 = .ok (.bipush (-2), 2) := by decide +kernel
theorem dX10_indexOfSe_14 : decode cX10_indexOfSe 14 = .ok (.iload_n 0, 1) := by decide +kernel
theorem dX10_indexOfSe_15 : decode cX10_indexOfSe 15 = .ok (.imul, 1) := by decide +kernel
theorem dX10_indexOfSe_16 : decode cX10_indexOfSe 16 = .ok (.ireturn, 1) := by decide +kernel
def FX10_indexOfSe (G : GG) (M : DD) (p0 : Int32) : Option (DD × Int32) :=
  bnd (if p0 ≤ ((0 : Int32)) then (ltt ((((-2 : Int32)) * p0)) fun x3 =>
  some (x3)) else
  (ltt ((((2 : Int32)) * p0)) fun x4 =>
  ltt ((x4 - ((1 : Int32)))) fun x5 =>
  some (x5))) fun (y1 : Int32) =>
  some (M, y1)
set_option maxHeartbeats 4000000 in
set_option maxRecDepth 100000 in
theorem kX10_indexOfSe (l : Launch) (D : va_G) (ct : CT) (ad : Nat → Nat) (Z : Nat → Nat) (G : GG) (M : DD) (sz : Nat) (p0 : Int32) (y : DD × Int32) (hF : FX10_indexOfSe G M p0 = some y) : Met l yX10_indexOfSe wuX10_indexOfSe ({ frames := 0, cells := 0, slots := 0, locals := 0 }) (va_Pc [.int p0] (kB D ct ad Z G M sz)) (va_Qi (fun (q : Int32) (_ : Unit) => q = y.2) (fun _ t => kE D ct ad G (wA ad G sz) y.1 t) (wA ad G sz)) 0 0 (wA ad G sz) := by
  refine Met.ofW (cc := cX10_indexOfSe) (maxL := 1) (ret := (some .int)) (by decide) rfl ?_
  intro p e s m args below meth c s₁ B hml hv
  obtain ⟨rfl, hsz, hP, hK, hD0, hZ, hN⟩ := hv
  have hx := B.exec
  have hb := B.bytes
  have hr := B.returns
  have hts := atoms_spec (ws := wuX10_indexOfSe) B.pre
  have hown : s.vm.findClass RX10 = some m.cls := findClass_of_methodNamed B.named
  have hlocks := B.notSynchronized
  subst hsz
  have hD := wD_self (sz := s.heap.size) hD0
  have hA9 : ∀ q, s.heap.size ≤ q → wA ad G s.heap.size q := fun q h => Or.inr h
  generalize hAe : wA ad G s.heap.size = A at hD hA9 hZ ⊢
  have hS : va_S A s.heap s.heap [] := va_S.rf
  have hl := lv_entry ([.int p0]) (n := 1) (Nat.le_of_ble_eq_true rfl)
  rw [lg_entry_eq]
  generalize (lg_sl ([.int p0]) ++ List.replicate (1 - (lg_sl ([.int p0])).length) Slot.unset).toArray = ls at hl ⊢
  have hl : lv_has ls 1 [(0, .int p0)] := hl
  unfold FX10_indexOfSe at hF
  refine lv_iload_n hx hb dX10_indexOfSe_0 rfl (lv_at hl 0 rfl) ?_
  obtain ⟨y1, hy1, hF⟩ := bnd_some hF
  have J1 : ∀ (H : Heap) (locs : List Loc) (ls : Array Slot), va_P D classes (wld ct ad G M) H → va_D A (wld ct ad G M) → va_S A s.heap H locs → lv_has ls 1 [(0, .int p0)] → W p l e (headSpec wuX10_indexOfSe ({ frames := 0, cells := 0, slots := 0, locals := 0 })).room s m ([.int p0] : List Value).toArray below meth c H locs 0 0 (MQ below (va_Qi (fun (q : Int32) (_ : Unit) => q = y.2) (fun _ t => kE D ct ad G A y.1 t) A) ([.int p0] : List Value).toArray s 0 0 A) (F0 m 16 ls [.int y1]) := by
    intro H locs ls hP hD hS hl
    obtain rfl := Option.some.inj hF
    exact W.iret (v := y1) hx hb hr (fun t ht hW => ⟨⟨_, (), rfl, rfl, ⟨by rw [ht]; exact hP, va_K.moved hW.alike hK, hD⟩⟩, hS.F ht⟩) hS.2.2 dX10_indexOfSe_16
  clear hF
  have hF := hy1
  clear hy1
  refine lv_if_le (tgt := 12) hx hb dX10_indexOfSe_1 (by decide) (fun c2 => ?_) (fun c2 => ?_)
  · rw [if_pos c2] at hF
    refine lv_bipush (v := (-2 : Int32)) hx hb dX10_indexOfSe_12 (by decide) ?_
    refine lv_iload_n hx hb dX10_indexOfSe_14 rfl (lv_at hl 0 rfl) ?_
    refine lv_imul hx hb dX10_indexOfSe_15 ?_
    obtain ⟨x3, ex3, hF⟩ := ltt_some hF
    refine lv_topi (fun zx3 ezx3 => ?_)
    obtain rfl : x3 = zx3 := ex3.trans ezx3.symm
    obtain rfl := Option.some.inj hF
    exact J1 _ _ _ hP hD hS (lv_sub hl [0] rfl)
  · rw [if_neg c2] at hF
    refine lv_iconst (v := (2 : Int32)) hx hb dX10_indexOfSe_4 (by decide) ?_
    refine lv_iload_n hx hb dX10_indexOfSe_5 rfl (lv_at hl 0 rfl) ?_
    refine lv_imul hx hb dX10_indexOfSe_6 ?_
    obtain ⟨x4, ex4, hF⟩ := ltt_some hF
    refine lv_topi (fun zx4 ezx4 => ?_)
    obtain rfl : x4 = zx4 := ex4.trans ezx4.symm
    refine lv_iconst (v := (1 : Int32)) hx hb dX10_indexOfSe_7 (by decide) ?_
    refine lv_isub hx hb dX10_indexOfSe_8 ?_
    obtain ⟨x5, ex5, hF⟩ := ltt_some hF
    refine lv_topi (fun zx5 ezx5 => ?_)
    obtain rfl : x5 = zx5 := ex5.trans ezx5.symm
    refine lv_goto (tgt := 16) hx hb dX10_indexOfSe_9 (by decide) ?_
    obtain rfl := Option.some.inj hF
    exact J1 _ _ _ hP hD hS (lv_sub hl [0] rfl)
theorem dX10_init_0 : decode cX10_init 0 = .ok (.aload_n 0, 1) := by decide +kernel
theorem dX10_init_1 : decode cX10_init 1 = .ok (.invokespecial 3, 3) := by decide +kernel
theorem dX10_init_4 : decode cX10_init 4 = .ok (.aload_n 0, 1) := by decide +kernel
theorem dX10_init_5 : decode cX10_init 5 = .ok (.sipush 4096, 3) := by decide +kernel
theorem dX10_init_8 : decode cX10_init 8 = .ok (.newarray .byte, 2) := by decide +kernel
theorem dX10_init_10 : decode cX10_init 10 = .ok (.putfield 9, 3) := by decide +kernel
theorem dX10_init_13 : decode cX10_init 13 = .ok (.aload_n 0, 1) := by decide +kernel
theorem dX10_init_14 : decode cX10_init 14 = .ok (.sipush 4096, 3) := by decide +kernel
theorem dX10_init_17 : decode cX10_init 17 = .ok (.newarray .byte, 2) := by decide +kernel
theorem dX10_init_19 : decode cX10_init 19 = .ok (.putfield 15, 3) := by decide +kernel
theorem dX10_init_22 : decode cX10_init 22 = .ok (.aload_n 0, 1) := by decide +kernel
theorem dX10_init_23 : decode cX10_init 23 = .ok (.sipush 272, 3) := by decide +kernel
theorem dX10_init_26 : decode cX10_init 26 = .ok (.newarray .int, 2) := by decide +kernel
theorem dX10_init_28 : decode cX10_init 28 = .ok (.putfield 20, 3) := by decide +kernel
theorem dX10_init_31 : decode cX10_init 31 = .ok (.aload_n 0, 1) := by decide +kernel
theorem dX10_init_32 : decode cX10_init 32 = .ok (.bipush 16, 2) := by decide +kernel
theorem dX10_init_34 : decode cX10_init 34 = .ok (.newarray .int, 2) := by decide +kernel
theorem dX10_init_36 : decode cX10_init 36 = .ok (.putfield 24, 3) := by decide +kernel
theorem dX10_init_39 : decode cX10_init 39 = .ok (.aload_n 0, 1) := by decide +kernel
theorem dX10_init_40 : decode cX10_init 40 = .ok (.bipush 16, 2) := by decide +kernel
theorem dX10_init_42 : decode cX10_init 42 = .ok (.newarray .int, 2) := by decide +kernel
theorem dX10_init_44 : decode cX10_init 44 = .ok (.putfield 27, 3) := by decide +kernel
theorem dX10_init_47 : decode cX10_init 47 = .ok (.return_, 1) := by decide +kernel
noncomputable def FX10_init (G : GG) (M : DD) (a : Nat)  : Option (NN × DD) :=
  chkP (Clo (xt G []) M) <|
  chk (¬ ((4096 : Int32)) < 0 ∧ ((4096 : Int32)).toNatClampNeg * 4 ≤ 536870912) <|
  ltt ((xt G []).1) fun c2 =>
  app [(12, ((4096 : Int32)).toNatClampNeg)] <|
  ltt ([] ++ [(12, ((4096 : Int32)).toNatClampNeg)]) fun L4 =>
  ltt (rO M c2) fun M5 =>
  ltt (uP M5 a 0 (some c2)) fun M8 =>
  chkP (Clo (xt G L4) M8) <|
  chk (¬ ((4096 : Int32)) < 0 ∧ ((4096 : Int32)).toNatClampNeg * 4 ≤ 536870912) <|
  ltt ((xt G L4).1) fun c10 =>
  app [(12, ((4096 : Int32)).toNatClampNeg)] <|
  ltt (L4 ++ [(12, ((4096 : Int32)).toNatClampNeg)]) fun L12 =>
  ltt (rO M8 c10) fun M13 =>
  ltt (uP M13 a 4 (some c10)) fun M16 =>
  chkP (Clo (xt G L12) M16) <|
  chk (¬ ((272 : Int32)) < 0 ∧ ((272 : Int32)).toNatClampNeg * 4 ≤ 536870912) <|
  ltt ((xt G L12).1) fun c18 =>
  app [(13, ((272 : Int32)).toNatClampNeg)] <|
  ltt (L12 ++ [(13, ((272 : Int32)).toNatClampNeg)]) fun L20 =>
  ltt (rO M16 c18) fun M21 =>
  ltt (uP M21 a 13 (some c18)) fun M24 =>
  chkP (Clo (xt G L20) M24) <|
  chk (¬ ((16 : Int32)) < 0 ∧ ((16 : Int32)).toNatClampNeg * 4 ≤ 536870912) <|
  ltt ((xt G L20).1) fun c26 =>
  app [(13, ((16 : Int32)).toNatClampNeg)] <|
  ltt (L20 ++ [(13, ((16 : Int32)).toNatClampNeg)]) fun L28 =>
  ltt (rO M24 c26) fun M29 =>
  ltt (uP M29 a 14 (some c26)) fun M32 =>
  chkP (Clo (xt G L28) M32) <|
  chk (¬ ((16 : Int32)) < 0 ∧ ((16 : Int32)).toNatClampNeg * 4 ≤ 536870912) <|
  ltt ((xt G L28).1) fun c34 =>
  app [(13, ((16 : Int32)).toNatClampNeg)] <|
  ltt (L28 ++ [(13, ((16 : Int32)).toNatClampNeg)]) fun L36 =>
  ltt (rO M32 c34) fun M37 =>
  ltt (uP M37 a 15 (some c34)) fun M40 =>
  some ([], M40)
set_option maxHeartbeats 4000000 in
set_option maxRecDepth 100000 in
theorem kX10_init (l : Launch) (D : va_G) (ct : CT) (ad : Nat → Nat) (Z : Nat → Nat) (G : GG) (M : DD) (sz : Nat) (a : Nat)  (y : NN × DD) (hc : a < G.1) (hk : G.2.1 a = 10) (hF : FX10_init G M a  = some y) : Met l yX10_init wuX10_init ({ frames := 1, cells := y.1.length, slots := wt y.1, locals := 20 }) (va_Pc [.ref (ad a)] (kB D ct ad Z G M sz)) (va_Qv (fun (u : Nat → Nat) => agr G.1 ad u) (fun u t => kE D ct u (xt G y.1) (wA ad G sz) y.2 t) (wA ad G sz)) y.1.length (wt y.1) (wA ad G sz) := by
  refine Met.ofW (cc := cX10_init) (maxL := 1) (ret := none) (by decide) rfl ?_
  intro p e s m args below meth c s₁ B hml hv
  obtain ⟨rfl, hsz, hP, hK, hD0, hZ, hN⟩ := hv
  have hx := B.exec
  have hb := B.bytes
  have hr := B.returns
  have hts := atoms_spec (ws := wuX10_init) B.pre
  have hown : s.vm.findClass RX10 = some m.cls := findClass_of_methodNamed B.named
  have hlocks := B.notSynchronized
  have hin : meth.name = "<init>" := (name_of_methodNamed B.named B.method).1
  subst hsz
  have hD := wD_self (sz := s.heap.size) hD0
  have hA9 : ∀ q, s.heap.size ≤ q → wA ad G s.heap.size q := fun q h => Or.inr h
  generalize hAe : wA ad G s.heap.size = A at hD hA9 hZ ⊢
  have hS : va_S A s.heap s.heap [] := va_S.rf
  have hl := lv_entry ([.ref (ad a)]) (n := 1) (Nat.le_of_ble_eq_true rfl)
  rw [lg_entry_eq]
  generalize (lg_sl ([.ref (ad a)]) ++ List.replicate (1 - (lg_sl ([.ref (ad a)])).length) Slot.unset).toArray = ls at hl ⊢
  have hl : lv_has ls 1 [(0, .ref (ad a))] := hl
  unfold FX10_init at hF
  rw [← wld_0 ct ad G M] at hP hD
  have hk := xt_k0 hc hk
  have hc := xt_l0 hc
  have hag := agr_rf G.1 ad
  obtain ⟨w0, hw0⟩ : ∃ z, z = y := ⟨_, rfl⟩
  rw [← hw0] at hF
  have hT : y.1 = [] ++ w0.1 := by rw [hw0]; rfl
  have h2 : y.2 = w0.2 := by rw [hw0]
  have hbl : y.1.length ≤ y.1.length ∧ wt y.1 ≤ wt y.1 := ⟨Nat.le_refl _, Nat.le_refl _⟩
  refine lv_aload_n hx hb dX10_init_0 rfl (lv_at hl 0 rfl) ?_
  refine W.objInit hx hb hown (hts (.methodLink RX10 3 objectInit) (mu mw_734)) (hts (.instanceMethod objectInit) (mu mw_202)) (hts (.code objectInit ⟨#[0xb1]⟩ 1 none) (mu mw_203)) rfl (by rw [hml]; exact hl.1) rfl dX10_init_1 (Nat.le_of_ble_eq_true rfl) (Nat.le_of_ble_eq_true rfl) ?_
  refine W.eq (g2 := F0 m 4 ls []) rfl ?_
  refine lv_aload_n hx hb dX10_init_4 rfl (lv_at hl 0 rfl) ?_
  refine lv_sipush (v := (4096 : Int32)) hx hb dX10_init_5 (by decide) ?_
  obtain ⟨hC1, hF⟩ := chkP_some hF
  obtain ⟨hz9, hF⟩ := chk_some hF
  obtain ⟨c2, ec2, hF⟩ := ltt_some hF
  obtain ⟨w3, hF, ew3⟩ := app_some hF
  obtain ⟨L4, eL4, hF⟩ := ltt_some hF
  have hT4 : y.1 = ([] ++ [(12, ((4096 : Int32)).toNatClampNeg)]) ++ w3.1 := by rw [hT, ew3]; simp only [List.append_assoc]
  obtain ⟨M5, eM5, hF⟩ := ltt_some hF
  refine new_b hx hb (hts (.arrayClass .byte) (mu mw_265)) hK hP hD hS hA9 hz9.1 hz9.2 hC1 (room_1s hT4 hbl) dX10_init_8 (fun ad6 H hn7 hP hD hS => ?_)
  rw [← ec2, ← eL4, ← eM5] at hP hD
  refine W_cs (k := L4.length) (n := wt L4) (by rw [eL4]) (by rw [eL4]) ?_
  refine W_st (st' := [.ref (ad6 c2), .ref (ad a)]) (by rw [ec2]) ?_
  have hT : y.1 = L4 ++ w3.1 := by rw [hT4, eL4]
  have h2 : y.2 = w3.2 := by rw [h2, ew3]
  have hl := lv_sub (l' := [(0, .ref (ad a))]) hl [0] rfl
  have e9 : ([(0, .ref (ad a))] : List (Nat × Value)) = [(0, .ref (ad6 a))] := (by first | rfl | simp only [hn7 a hc])
  rw [e9] at hl
  clear e9
  refine W_st (st' := [.ref (ad6 c2), .ref (ad6 a)]) (by first | rfl | simp only [hn7 a hc]) ?_
  have hk : (xt G L4).2.1 a = 10 := by rw [eL4]; exact xt_k _ hc hk
  have hc : a < (xt G L4).1 := by rw [eL4]; exact xt_l _ hc
  have hag := agr_t (xt_ge _ _) hag hn7
  have hc2 : c2 < (xt G L4).1 := by rw [ec2, eL4]; exact cnt_new _ _ _
  have hk2 : (xt G L4).2.1 c2 = 12 := by rw [ec2, eL4]; exact (kind_new _ _ _ _).1
  refine va_put (D := D) (ci := 10) (v := va_re ad6 (some c2)) (ty := (.array .byte)) (C := RX10) (T := TX10) (N := 20) hx hb hts (mus hf_X10) tyX10 tyX10_ok nmX10 hown hK hP hD hS a (wld_o ct ad6 (xt G L4) M5 hc hk (by decide)) rfl 0 (by decide) (hts (.fieldLink RX10 9 "VideoSuite$Writer" "made" "[B") (mu mw_735)) (fun _ h9 => h9) rfl (by decide +kernel) (nar_q ad6 (Or.inr ⟨_, rfl⟩) (some c2)).1 (nar_q ad6 (Or.inr ⟨_, rfl⟩) (some c2)).2 (Nat.le_of_ble_eq_true rfl) dX10_init_10 (fun H locs hP hD hS => ?_)
  obtain ⟨M8, eM8, hF⟩ := ltt_some hF
  rw [set_oP ct ad6 (xt G L4) M5 hc hk (by decide) (by rfl), ← eM8] at hP hD
  refine lv_aload_n hx hb dX10_init_13 rfl (lv_at hl 0 rfl) ?_
  refine lv_sipush (v := (4096 : Int32)) hx hb dX10_init_14 (by decide) ?_
  obtain ⟨hC9, hF⟩ := chkP_some hF
  obtain ⟨hz9, hF⟩ := chk_some hF
  obtain ⟨c10, ec10, hF⟩ := ltt_some hF
  obtain ⟨w11, hF, ew11⟩ := app_some hF
  obtain ⟨L12, eL12, hF⟩ := ltt_some hF
  have hT12 : y.1 = (L4 ++ [(12, ((4096 : Int32)).toNatClampNeg)]) ++ w11.1 := by rw [hT, ew11]; simp only [List.append_assoc]
  obtain ⟨M13, eM13, hF⟩ := ltt_some hF
  refine new_b hx hb (hts (.arrayClass .byte) (mu mw_265)) hK hP hD hS hA9 hz9.1 hz9.2 hC9 (room_1s hT12 hbl) dX10_init_17 (fun ad14 H hn15 hP hD hS => ?_)
  rw [← ec10, ← eL12, ← eM13] at hP hD
  refine W_cs (k := L12.length) (n := wt L12) (by rw [eL12]) (by rw [eL12]) ?_
  refine W_st (st' := [.ref (ad14 c10), .ref (ad6 a)]) (by rw [ec10]) ?_
  have hT : y.1 = L12 ++ w11.1 := by rw [hT12, eL12]
  have h2 : y.2 = w11.2 := by rw [h2, ew11]
  have hl := lv_sub (l' := [(0, .ref (ad6 a))]) hl [0] rfl
  have e9 : ([(0, .ref (ad6 a))] : List (Nat × Value)) = [(0, .ref (ad14 a))] := (by first | rfl | simp only [hn15 a hc])
  rw [e9] at hl
  clear e9
  refine W_st (st' := [.ref (ad14 c10), .ref (ad14 a)]) (by first | rfl | simp only [hn15 a hc]) ?_
  have hk : (xt G L12).2.1 a = 10 := by rw [eL12]; exact xt_k _ hc hk
  have hc : a < (xt G L12).1 := by rw [eL12]; exact xt_l _ hc
  have hk2 : (xt G L12).2.1 c2 = 12 := by rw [eL12]; exact xt_k _ hc2 hk2
  have hc2 : c2 < (xt G L12).1 := by rw [eL12]; exact xt_l _ hc2
  have hag := agr_t (xt_ge _ _) hag hn15
  have hc10 : c10 < (xt G L12).1 := by rw [ec10, eL12]; exact cnt_new _ _ _
  have hk10 : (xt G L12).2.1 c10 = 12 := by rw [ec10, eL12]; exact (kind_new _ _ _ _).1
  refine va_put (D := D) (ci := 10) (v := va_re ad14 (some c10)) (ty := (.array .byte)) (C := RX10) (T := TX10) (N := 20) hx hb hts (mus hf_X10) tyX10 tyX10_ok nmX10 hown hK hP hD hS a (wld_o ct ad14 (xt G L12) M13 hc hk (by decide)) rfl 4 (by decide) (hts (.fieldLink RX10 15 "VideoSuite$Writer" "unit" "[B") (mu mw_743)) (fun _ h9 => h9) rfl (by decide +kernel) (nar_q ad14 (Or.inr ⟨_, rfl⟩) (some c10)).1 (nar_q ad14 (Or.inr ⟨_, rfl⟩) (some c10)).2 (Nat.le_of_ble_eq_true rfl) dX10_init_19 (fun H locs hP hD hS => ?_)
  obtain ⟨M16, eM16, hF⟩ := ltt_some hF
  rw [set_oP ct ad14 (xt G L12) M13 hc hk (by decide) (by rfl), ← eM16] at hP hD
  refine lv_aload_n hx hb dX10_init_22 rfl (lv_at hl 0 rfl) ?_
  refine lv_sipush (v := (272 : Int32)) hx hb dX10_init_23 (by decide) ?_
  obtain ⟨hC17, hF⟩ := chkP_some hF
  obtain ⟨hz9, hF⟩ := chk_some hF
  obtain ⟨c18, ec18, hF⟩ := ltt_some hF
  obtain ⟨w19, hF, ew19⟩ := app_some hF
  obtain ⟨L20, eL20, hF⟩ := ltt_some hF
  have hT20 : y.1 = (L12 ++ [(13, ((272 : Int32)).toNatClampNeg)]) ++ w19.1 := by rw [hT, ew19]; simp only [List.append_assoc]
  obtain ⟨M21, eM21, hF⟩ := ltt_some hF
  refine new_i hx hb (hts (.arrayClass .int) (mu mw_266)) hK hP hD hS hA9 hz9.1 hz9.2 hC17 (room_1s hT20 hbl) dX10_init_26 (fun ad22 H hn23 hP hD hS => ?_)
  rw [← ec18, ← eL20, ← eM21] at hP hD
  refine W_cs (k := L20.length) (n := wt L20) (by rw [eL20]) (by rw [eL20]) ?_
  refine W_st (st' := [.ref (ad22 c18), .ref (ad14 a)]) (by rw [ec18]) ?_
  have hT : y.1 = L20 ++ w19.1 := by rw [hT20, eL20]
  have h2 : y.2 = w19.2 := by rw [h2, ew19]
  have hl := lv_sub (l' := [(0, .ref (ad14 a))]) hl [0] rfl
  have e9 : ([(0, .ref (ad14 a))] : List (Nat × Value)) = [(0, .ref (ad22 a))] := (by first | rfl | simp only [hn23 a hc])
  rw [e9] at hl
  clear e9
  refine W_st (st' := [.ref (ad22 c18), .ref (ad22 a)]) (by first | rfl | simp only [hn23 a hc]) ?_
  have hk : (xt G L20).2.1 a = 10 := by rw [eL20]; exact xt_k _ hc hk
  have hc : a < (xt G L20).1 := by rw [eL20]; exact xt_l _ hc
  have hk2 : (xt G L20).2.1 c2 = 12 := by rw [eL20]; exact xt_k _ hc2 hk2
  have hc2 : c2 < (xt G L20).1 := by rw [eL20]; exact xt_l _ hc2
  have hk10 : (xt G L20).2.1 c10 = 12 := by rw [eL20]; exact xt_k _ hc10 hk10
  have hc10 : c10 < (xt G L20).1 := by rw [eL20]; exact xt_l _ hc10
  have hag := agr_t (xt_ge _ _) hag hn23
  have hc18 : c18 < (xt G L20).1 := by rw [ec18, eL20]; exact cnt_new _ _ _
  have hk18 : (xt G L20).2.1 c18 = 13 := by rw [ec18, eL20]; exact (kind_new _ _ _ _).1
  refine va_putF (D := D) (ci := 10) (v := va_re ad22 (some c18)) (ty := (.array .int)) (C := RX10) (T := TX10) (N := 20) hx hb hts (mus hf_X10) tyX10 tyX10_ok nmX10 hown hK hP hD hS a (wld_o ct ad22 (xt G L20) M21 hc hk (by decide)) rfl 13 (by decide) (hts (.fieldLink RX10 20 "VideoSuite$Writer" "state" "[I") (mu mw_752)) (fun _ h9 => h9) rfl hin rfl (by decide +kernel) (nar_q ad22 (Or.inr ⟨_, rfl⟩) (some c18)).1 (nar_q ad22 (Or.inr ⟨_, rfl⟩) (some c18)).2 (Nat.le_of_ble_eq_true rfl) dX10_init_28 (fun H locs hP hD hS => ?_)
  obtain ⟨M24, eM24, hF⟩ := ltt_some hF
  rw [set_oP ct ad22 (xt G L20) M21 hc hk (by decide) (by rfl), ← eM24] at hP hD
  refine lv_aload_n hx hb dX10_init_31 rfl (lv_at hl 0 rfl) ?_
  refine lv_bipush (v := (16 : Int32)) hx hb dX10_init_32 (by decide) ?_
  obtain ⟨hC25, hF⟩ := chkP_some hF
  obtain ⟨hz9, hF⟩ := chk_some hF
  obtain ⟨c26, ec26, hF⟩ := ltt_some hF
  obtain ⟨w27, hF, ew27⟩ := app_some hF
  obtain ⟨L28, eL28, hF⟩ := ltt_some hF
  have hT28 : y.1 = (L20 ++ [(13, ((16 : Int32)).toNatClampNeg)]) ++ w27.1 := by rw [hT, ew27]; simp only [List.append_assoc]
  obtain ⟨M29, eM29, hF⟩ := ltt_some hF
  refine new_i hx hb (hts (.arrayClass .int) (mu mw_266)) hK hP hD hS hA9 hz9.1 hz9.2 hC25 (room_1s hT28 hbl) dX10_init_34 (fun ad30 H hn31 hP hD hS => ?_)
  rw [← ec26, ← eL28, ← eM29] at hP hD
  refine W_cs (k := L28.length) (n := wt L28) (by rw [eL28]) (by rw [eL28]) ?_
  refine W_st (st' := [.ref (ad30 c26), .ref (ad22 a)]) (by rw [ec26]) ?_
  have hT : y.1 = L28 ++ w27.1 := by rw [hT28, eL28]
  have h2 : y.2 = w27.2 := by rw [h2, ew27]
  have hl := lv_sub (l' := [(0, .ref (ad22 a))]) hl [0] rfl
  have e9 : ([(0, .ref (ad22 a))] : List (Nat × Value)) = [(0, .ref (ad30 a))] := (by first | rfl | simp only [hn31 a hc])
  rw [e9] at hl
  clear e9
  refine W_st (st' := [.ref (ad30 c26), .ref (ad30 a)]) (by first | rfl | simp only [hn31 a hc]) ?_
  have hk : (xt G L28).2.1 a = 10 := by rw [eL28]; exact xt_k _ hc hk
  have hc : a < (xt G L28).1 := by rw [eL28]; exact xt_l _ hc
  have hk2 : (xt G L28).2.1 c2 = 12 := by rw [eL28]; exact xt_k _ hc2 hk2
  have hc2 : c2 < (xt G L28).1 := by rw [eL28]; exact xt_l _ hc2
  have hk10 : (xt G L28).2.1 c10 = 12 := by rw [eL28]; exact xt_k _ hc10 hk10
  have hc10 : c10 < (xt G L28).1 := by rw [eL28]; exact xt_l _ hc10
  have hk18 : (xt G L28).2.1 c18 = 13 := by rw [eL28]; exact xt_k _ hc18 hk18
  have hc18 : c18 < (xt G L28).1 := by rw [eL28]; exact xt_l _ hc18
  have hag := agr_t (xt_ge _ _) hag hn31
  have hc26 : c26 < (xt G L28).1 := by rw [ec26, eL28]; exact cnt_new _ _ _
  have hk26 : (xt G L28).2.1 c26 = 13 := by rw [ec26, eL28]; exact (kind_new _ _ _ _).1
  refine va_putF (D := D) (ci := 10) (v := va_re ad30 (some c26)) (ty := (.array .int)) (C := RX10) (T := TX10) (N := 20) hx hb hts (mus hf_X10) tyX10 tyX10_ok nmX10 hown hK hP hD hS a (wld_o ct ad30 (xt G L28) M29 hc hk (by decide)) rfl 14 (by decide) (hts (.fieldLink RX10 24 "VideoSuite$Writer" "size" "[I") (mu mw_753)) (fun _ h9 => h9) rfl hin rfl (by decide +kernel) (nar_q ad30 (Or.inr ⟨_, rfl⟩) (some c26)).1 (nar_q ad30 (Or.inr ⟨_, rfl⟩) (some c26)).2 (Nat.le_of_ble_eq_true rfl) dX10_init_36 (fun H locs hP hD hS => ?_)
  obtain ⟨M32, eM32, hF⟩ := ltt_some hF
  rw [set_oP ct ad30 (xt G L28) M29 hc hk (by decide) (by rfl), ← eM32] at hP hD
  refine lv_aload_n hx hb dX10_init_39 rfl (lv_at hl 0 rfl) ?_
  refine lv_bipush (v := (16 : Int32)) hx hb dX10_init_40 (by decide) ?_
  obtain ⟨hC33, hF⟩ := chkP_some hF
  obtain ⟨hz9, hF⟩ := chk_some hF
  obtain ⟨c34, ec34, hF⟩ := ltt_some hF
  obtain ⟨w35, hF, ew35⟩ := app_some hF
  obtain ⟨L36, eL36, hF⟩ := ltt_some hF
  have hT36 : y.1 = (L28 ++ [(13, ((16 : Int32)).toNatClampNeg)]) ++ w35.1 := by rw [hT, ew35]; simp only [List.append_assoc]
  obtain ⟨M37, eM37, hF⟩ := ltt_some hF
  refine new_i hx hb (hts (.arrayClass .int) (mu mw_266)) hK hP hD hS hA9 hz9.1 hz9.2 hC33 (room_1s hT36 hbl) dX10_init_42 (fun ad38 H hn39 hP hD hS => ?_)
  rw [← ec34, ← eL36, ← eM37] at hP hD
  refine W_cs (k := L36.length) (n := wt L36) (by rw [eL36]) (by rw [eL36]) ?_
  refine W_st (st' := [.ref (ad38 c34), .ref (ad30 a)]) (by rw [ec34]) ?_
  have hT : y.1 = L36 ++ w35.1 := by rw [hT36, eL36]
  have h2 : y.2 = w35.2 := by rw [h2, ew35]
  have hl := lv_sub (l' := []) hl [] rfl
  refine W_st (st' := [.ref (ad38 c34), .ref (ad38 a)]) (by first | rfl | simp only [hn39 a hc]) ?_
  have hk : (xt G L36).2.1 a = 10 := by rw [eL36]; exact xt_k _ hc hk
  have hc : a < (xt G L36).1 := by rw [eL36]; exact xt_l _ hc
  have hk2 : (xt G L36).2.1 c2 = 12 := by rw [eL36]; exact xt_k _ hc2 hk2
  have hc2 : c2 < (xt G L36).1 := by rw [eL36]; exact xt_l _ hc2
  have hk10 : (xt G L36).2.1 c10 = 12 := by rw [eL36]; exact xt_k _ hc10 hk10
  have hc10 : c10 < (xt G L36).1 := by rw [eL36]; exact xt_l _ hc10
  have hk18 : (xt G L36).2.1 c18 = 13 := by rw [eL36]; exact xt_k _ hc18 hk18
  have hc18 : c18 < (xt G L36).1 := by rw [eL36]; exact xt_l _ hc18
  have hk26 : (xt G L36).2.1 c26 = 13 := by rw [eL36]; exact xt_k _ hc26 hk26
  have hc26 : c26 < (xt G L36).1 := by rw [eL36]; exact xt_l _ hc26
  have hag := agr_t (xt_ge _ _) hag hn39
  have hc34 : c34 < (xt G L36).1 := by rw [ec34, eL36]; exact cnt_new _ _ _
  have hk34 : (xt G L36).2.1 c34 = 13 := by rw [ec34, eL36]; exact (kind_new _ _ _ _).1
  refine va_putF (D := D) (ci := 10) (v := va_re ad38 (some c34)) (ty := (.array .int)) (C := RX10) (T := TX10) (N := 20) hx hb hts (mus hf_X10) tyX10 tyX10_ok nmX10 hown hK hP hD hS a (wld_o ct ad38 (xt G L36) M37 hc hk (by decide)) rfl 15 (by decide) (hts (.fieldLink RX10 27 "VideoSuite$Writer" "before" "[I") (mu mw_754)) (fun _ h9 => h9) rfl hin rfl (by decide +kernel) (nar_q ad38 (Or.inr ⟨_, rfl⟩) (some c34)).1 (nar_q ad38 (Or.inr ⟨_, rfl⟩) (some c34)).2 (Nat.le_of_ble_eq_true rfl) dX10_init_44 (fun H locs hP hD hS => ?_)
  obtain ⟨M40, eM40, hF⟩ := ltt_some hF
  rw [set_oP ct ad38 (xt G L36) M37 hc hk (by decide) (by rfl), ← eM40] at hP hD
  obtain rfl := Option.some.inj hF
  have e1 : y.1 = L36 := by rw [hT]; exact List.append_nil _
  have e2 : y.2 = M40 := h2
  refine W.widen (k := y.1.length) (n := wt y.1) (Nat.le_of_eq (by rw [e1])) (Nat.le_of_eq (by rw [e1])) ?_
  exact W.vret hx hb hr (fun t ht hW => ⟨⟨ad38, rfl, hag, (by unfold kE; rw [e1, e2]; exact ⟨by rw [ht]; exact hP, va_K.moved hW.alike hK, hD⟩)⟩, hS.F ht⟩) hS.2.2 dX10_init_47
set_option maxRecDepth 20000 in
theorem gX10_put_J7_copyOf_9075b : GoodIn wuX10_put (va_wsS RX10 66 yJ7_copyOf_9075b wuJ7_copyOf_9075b) := gu_S mw_1148 mw_1149 mw_182 mw_1150
theorem dX10_put_0 : decode cX10_put 0 = .ok (.aload_n 0, 1) := by decide +kernel
theorem dX10_put_1 : decode cX10_put 1 = .ok (.getfield 34, 3) := by decide +kernel
theorem dX10_put_4 : decode cX10_put 4 = .ok (.ifCond .eq 7, 3) := by decide +kernel
theorem dX10_put_7 : decode cX10_put 7 = .ok (.iconst 1, 1) := by decide +kernel
theorem dX10_put_8 : decode cX10_put 8 = .ok (.goto 4, 3) := by decide +kernel
theorem dX10_put_11 : decode cX10_put 11 = .ok (.iconst 0, 1) := by decide +kernel
theorem dX10_put_12 : decode cX10_put 12 = .ok (.istore_n 2, 1) := by decide +kernel
theorem dX10_put_13 : decode cX10_put 13 = .ok (.iload_n 2, 1) := by decide +kernel
theorem dX10_put_14 : decode cX10_put 14 = .ok (.aload_n 0, 1) := by decide +kernel
theorem dX10_put_15 : decode cX10_put 15 = .ok (.getfield 37, 3) := by decide +kernel
theorem dX10_put_18 : decode cX10_put 18 = .ok (.if_icmp .gt 111, 3) := by decide +kernel
theorem dX10_put_21 : decode cX10_put 21 = .ok (.aload_n 0, 1) := by decide +kernel
theorem dX10_put_22 : decode cX10_put 22 = .ok (.aload_n 0, 1) := by decide +kernel
theorem dX10_put_23 : decode cX10_put 23 = .ok (.getfield 41, 3) := by decide +kernel
theorem dX10_put_26 : decode cX10_put 26 = .ok (.iconst 1, 1) := by decide +kernel
theorem dX10_put_27 : decode cX10_put 27 = .ok (.ishl, 1) := by decide +kernel
theorem dX10_put_28 : decode cX10_put 28 = .ok (.iload_n 2, 1) := by decide +kernel
theorem dX10_put_29 : decode cX10_put 29 = .ok (.ifCond .ne 7, 3) := by decide +kernel
theorem dX10_put_32 : decode cX10_put 32 = .ok (.iload_n 1, 1) := by decide +kernel
theorem dX10_put_33 : decode cX10_put 33 = .ok (.goto 6, 3) := by decide +kernel
theorem dX10_put_36 : decode cX10_put 36 = .ok (.iconst 1, 1) := by decide +kernel
theorem dX10_put_37 : decode cX10_put 37 = .ok (.iload_n 1, 1) := by decide +kernel
theorem dX10_put_38 : decode cX10_put 38 = .ok (.isub, 1) := by decide +kernel
theorem dX10_put_39 : decode cX10_put 39 = .ok (.ior, 1) := by decide +kernel
theorem dX10_put_40 : decode cX10_put 40 = .ok (.putfield 41, 3) := by decide +kernel
theorem dX10_put_43 : decode cX10_put 43 = .ok (.aload_n 0, 1) := by decide +kernel
theorem dX10_put_44 : decode cX10_put 44 = .ok (.dup, 1) := by decide +kernel
theorem dX10_put_45 : decode cX10_put 45 = .ok (.getfield 44, 3) := by decide +kernel
theorem dX10_put_48 : decode cX10_put 48 = .ok (.iconst 1, 1) := by decide +kernel
theorem dX10_put_49 : decode cX10_put 49 = .ok (.iadd, 1) := by decide +kernel
theorem dX10_put_50 : decode cX10_put 50 = .ok (.putfield 44, 3) := by decide +kernel
theorem dX10_put_53 : decode cX10_put 53 = .ok (.aload_n 0, 1) := by decide +kernel
theorem dX10_put_54 : decode cX10_put 54 = .ok (.getfield 44, 3) := by decide +kernel
theorem dX10_put_57 : decode cX10_put 57 = .ok (.bipush 8, 2) := by decide +kernel
theorem dX10_put_59 : decode cX10_put 59 = .ok (.if_icmp .ne 64, 3) := by decide +kernel
theorem dX10_put_62 : decode cX10_put 62 = .ok (.aload_n 0, 1) := by decide +kernel
theorem dX10_put_63 : decode cX10_put 63 = .ok (.getfield 47, 3) := by decide +kernel
theorem dX10_put_66 : decode cX10_put 66 = .ok (.aload_n 0, 1) := by decide +kernel
theorem dX10_put_67 : decode cX10_put 67 = .ok (.getfield 15, 3) := by decide +kernel
theorem dX10_put_70 : decode cX10_put 70 = .ok (.arraylength, 1) := by decide +kernel
theorem dX10_put_71 : decode cX10_put 71 = .ok (.if_icmp .lt 21, 3) := by decide +kernel
theorem dX10_put_74 : decode cX10_put 74 = .ok (.aload_n 0, 1) := by decide +kernel
theorem dX10_put_75 : decode cX10_put 75 = .ok (.aload_n 0, 1) := by decide +kernel
theorem dX10_put_76 : decode cX10_put 76 = .ok (.getfield 15, 3) := by decide +kernel
theorem dX10_put_79 : decode cX10_put 79 = .ok (.iconst 2, 1) := by decide +kernel
theorem dX10_put_80 : decode cX10_put 80 = .ok (.aload_n 0, 1) := by decide +kernel
theorem dX10_put_81 : decode cX10_put 81 = .ok (.getfield 15, 3) := by decide +kernel
theorem dX10_put_84 : decode cX10_put 84 = .ok (.arraylength, 1) := by decide +kernel
theorem dX10_put_85 : decode cX10_put 85 = .ok (.imul, 1) := by decide +kernel
theorem dX10_put_86 : decode cX10_put 86 = .ok (.invokestatic 66, 3) := by decide +kernel
theorem dX10_put_89 : decode cX10_put 89 = .ok (.putfield 15, 3) := by decide +kernel
theorem dX10_put_92 : decode cX10_put 92 = .ok (.aload_n 0, 1) := by decide +kernel
theorem dX10_put_93 : decode cX10_put 93 = .ok (.getfield 15, 3) := by decide +kernel
theorem dX10_put_96 : decode cX10_put 96 = .ok (.aload_n 0, 1) := by decide +kernel
theorem dX10_put_97 : decode cX10_put 97 = .ok (.dup, 1) := by decide +kernel
theorem dX10_put_98 : decode cX10_put 98 = .ok (.getfield 47, 3) := by decide +kernel
theorem dX10_put_101 : decode cX10_put 101 = .ok (.dup_x1, 1) := by decide +kernel
theorem dX10_put_102 : decode cX10_put 102 = .ok (.iconst 1, 1) := by decide +kernel
theorem dX10_put_103 : decode cX10_put 103 = .ok (.iadd, 1) := by decide +kernel
theorem dX10_put_104 : decode cX10_put 104 = .ok (.putfield 47, 3) := by decide +kernel
theorem dX10_put_107 : decode cX10_put 107 = .ok (.aload_n 0, 1) := by decide +kernel
theorem dX10_put_108 : decode cX10_put 108 = .ok (.getfield 41, 3) := by decide +kernel
theorem dX10_put_111 : decode cX10_put 111 = .ok (.i2b, 1) := by decide +kernel
theorem dX10_put_112 : decode cX10_put 112 = .ok (.bastore, 1) := by decide +kernel
theorem dX10_put_113 : decode cX10_put 113 = .ok (.aload_n 0, 1) := by decide +kernel
theorem dX10_put_114 : decode cX10_put 114 = .ok (.iconst 0, 1) := by decide +kernel
theorem dX10_put_115 : decode cX10_put 115 = .ok (.putfield 41, 3) := by decide +kernel
theorem dX10_put_118 : decode cX10_put 118 = .ok (.aload_n 0, 1) := by decide +kernel
theorem dX10_put_119 : decode cX10_put 119 = .ok (.iconst 0, 1) := by decide +kernel
theorem dX10_put_120 : decode cX10_put 120 = .ok (.putfield 44, 3) := by decide +kernel
theorem dX10_put_123 : decode cX10_put 123 = .ok (.iinc 2 1, 3) := by decide +kernel
theorem dX10_put_126 : decode cX10_put 126 = .ok (.goto (-113), 3) := by decide +kernel
theorem dX10_put_129 : decode cX10_put 129 = .ok (.aload_n 0, 1) := by decide +kernel
theorem dX10_put_130 : decode cX10_put 130 = .ok (.iconst 0, 1) := by decide +kernel
theorem dX10_put_131 : decode cX10_put 131 = .ok (.putfield 34, 3) := by decide +kernel
theorem dX10_put_134 : decode cX10_put 134 = .ok (.aload_n 0, 1) := by decide +kernel
theorem dX10_put_135 : decode cX10_put 135 = .ok (.iconst 0, 1) := by decide +kernel
theorem dX10_put_136 : decode cX10_put 136 = .ok (.putfield 37, 3) := by decide +kernel
theorem dX10_put_139 : decode cX10_put 139 = .ok (.return_, 1) := by decide +kernel
noncomputable def FX10_put (G : GG) (M : DD) (a : Nat) (p0 : Int32) : Option (NN × DD) :=
  ltt (M.1 a 12) fun x1 =>
  bnd (if x1 = ((0 : Int32)) then (some ((0 : Int32))) else
  (some ((1 : Int32)))) fun (y2 : Int32) =>
  bnd (itrA (fun (s4 : NN × Int32 × DD) => ((ltt (s4.2.2.1 a 11) fun x15 =>
  if x15 < s4.2.1 then (some ([], .inr ((s4.2.1, s4.2.2)))) else
  (ltt (s4.2.2.1 a 6) fun x17 =>
  ltt ((x17 <<< (((1 : Int32)) &&& 31))) fun x18 =>
  bnd (if s4.2.1 = ((0 : Int32)) then (some (p0)) else
  (ltt ((((1 : Int32)) - p0)) fun x60 =>
  some (x60))) fun (y19 : Int32) =>
  ltt ((x18 ||| y19)) fun x20 =>
  ltt (uI s4.2.2 a 6 x20) fun M21 =>
  ltt (M21.1 a 7) fun x22 =>
  ltt ((x22 + ((1 : Int32)))) fun x23 =>
  ltt (uI M21 a 7 x23) fun M24 =>
  ltt (M24.1 a 7) fun x25 =>
  bnd (if x25 = ((8 : Int32)) then (ltt (M24.1 a 5) fun x33 =>
  dr (xt G s4.1) 12 ((M24.2 a 4)) fun b34 =>
  ltt (Int32.ofNat ((xt G s4.1).2.2 b34)) fun x35 =>
  bnd (if x33 < x35 then (some ([], M24)) else
  (ltt (Int32.ofNat ((xt G s4.1).2.2 b34)) fun x51 =>
  ltt ((((2 : Int32)) * x51)) fun x52 =>
  bnd (FJ7_copyOf_9075b (xt G s4.1) M24 (some b34) x52) fun y53 =>
  app y53.1 <|
  ltt (s4.1 ++ y53.1) fun L55 =>
  ltt (uP y53.2.1 a 4 y53.2.2) fun M58 =>
  some ([], M58))) fun (y36 : NN × DD) =>
  app y36.1 <|
  ltt (s4.1 ++ y36.1) fun L38 =>
  ltt (y36.2.1 a 5) fun x40 =>
  ltt ((x40 + ((1 : Int32)))) fun x41 =>
  ltt (uI y36.2 a 5 x41) fun M42 =>
  ltt (M42.1 a 6) fun x43 =>
  ltt (x43.toInt8.toInt32) fun x44 =>
  dr (xt G L38) 12 ((y36.2.2 a 4)) fun b45 =>
  chk (¬ (x40 < 0 ∨ (xt G L38).2.2 b45 ≤ x40.toNatClampNeg)) <|
  ltt (uI M42 b45 x40.toNatClampNeg (vp_nar .byte x44)) fun M46 =>
  ltt (uI M46 a 6 ((0 : Int32))) fun M47 =>
  ltt (uI M47 a 7 ((0 : Int32))) fun M48 =>
  some ([], M48)) else
  (some ([], M24))) fun (y26 : NN × DD) =>
  app y26.1 <|
  ltt (s4.1 ++ y26.1) fun L28 =>
  ltt (s4.2.1 + (1 : Int32)) fun x30 =>
  some ([], .inl (L28, (x30, y26.2))))) : Option (NN × ((NN × Int32 × DD) ⊕ (Int32 × DD))))) 1000000 ([], (y2, M))) fun (y3 : NN × Int32 × DD) =>
  app y3.1 <|
  ltt ([] ++ y3.1) fun L6 =>
  chk (((0 : Int32)) = 0 ∨ ((0 : Int32)) = 1) <|
  ltt (uI y3.2.2 a 12 ((0 : Int32))) fun M8 =>
  ltt (uI M8 a 11 ((0 : Int32))) fun M9 =>
  some ([], M9)
set_option maxHeartbeats 4000000 in
set_option maxRecDepth 100000 in
theorem kX10_put (l : Launch) (D : va_G) (ct : CT) (ad : Nat → Nat) (Z : Nat → Nat) (G : GG) (M : DD) (sz : Nat) (a : Nat) (p0 : Int32) (y : NN × DD) (hc : a < G.1) (hk : G.2.1 a = 10) (hF : FX10_put G M a p0 = some y) : Met l yX10_put wuX10_put ({ frames := 2, cells := y.1.length, slots := wt y.1, locals := 102 }) (va_Pc [.ref (ad a), .int p0] (kB D ct ad Z G M sz)) (va_Qv (fun (u : Nat → Nat) => agr G.1 ad u) (fun u t => kE D ct u (xt G y.1) (wA ad G sz) y.2 t) (wA ad G sz)) y.1.length (wt y.1) (wA ad G sz) := by
  refine Met.ofW (cc := cX10_put) (maxL := 3) (ret := none) (by decide) rfl ?_
  intro p e s m args below meth c s₁ B hml hv
  obtain ⟨rfl, hsz, hP, hK, hD0, hZ, hN⟩ := hv
  have hx := B.exec
  have hb := B.bytes
  have hr := B.returns
  have hts := atoms_spec (ws := wuX10_put) B.pre
  have hown : s.vm.findClass RX10 = some m.cls := findClass_of_methodNamed B.named
  have hlocks := B.notSynchronized
  subst hsz
  have hD := wD_self (sz := s.heap.size) hD0
  have hA9 : ∀ q, s.heap.size ≤ q → wA ad G s.heap.size q := fun q h => Or.inr h
  generalize hAe : wA ad G s.heap.size = A at hD hA9 hZ ⊢
  have hS : va_S A s.heap s.heap [] := va_S.rf
  have hl := lv_entry ([.ref (ad a), .int p0]) (n := 3) (Nat.le_of_ble_eq_true rfl)
  rw [lg_entry_eq]
  generalize (lg_sl ([.ref (ad a), .int p0]) ++ List.replicate (3 - (lg_sl ([.ref (ad a), .int p0])).length) Slot.unset).toArray = ls at hl ⊢
  have hl : lv_has ls 3 [(0, .ref (ad a)), (1, .int p0)] := hl
  unfold FX10_put at hF
  rw [← wld_0 ct ad G M] at hP hD
  have hk := xt_k0 hc hk
  have hc := xt_l0 hc
  have hag := agr_rf G.1 ad
  obtain ⟨w0, hw0⟩ : ∃ z, z = y := ⟨_, rfl⟩
  rw [← hw0] at hF
  have hT : y.1 = [] ++ w0.1 := by rw [hw0]; rfl
  have h2 : y.2 = w0.2 := by rw [hw0]
  have hbl : y.1.length ≤ y.1.length ∧ wt y.1 ≤ wt y.1 := ⟨Nat.le_refl _, Nat.le_refl _⟩
  refine lv_aload_n hx hb dX10_put_0 rfl (lv_at hl 0 rfl) ?_
  refine va_get (D := D) (ci := 10) (v := .int (M.1 a 12)) (C := RX10) (T := TX10) (N := 20) hx hb hts (mus hf_X10) hown hK hP a (wld_o ct ad (xt G []) M hc hk (by decide)) rfl 12 (by decide) (hts (.fieldLink RX10 34 "VideoSuite$Writer" "isFirst" "Z") (mu mw_751)) (fun _ h9 => h9) rfl dX10_put_1 ?_
  obtain ⟨x1, ex1, hF⟩ := ltt_some hF
  refine lv_topi (fun zx1 ezx1 => ?_)
  obtain rfl : x1 = zx1 := ex1.trans ezx1.symm
  obtain ⟨y2, hy2, hF⟩ := bnd_some hF
  have J2 : ∀ (H : Heap) (locs : List Loc) (ls : Array Slot), va_P D classes (wld ct ad (xt G []) M) H → va_D A (wld ct ad (xt G []) M) → va_S A s.heap H locs → lv_has ls 3 [(0, .ref (ad a)), (1, .int p0)] → W p l e (headSpec wuX10_put ({ frames := 2, cells := y.1.length, slots := wt y.1, locals := 102 })).room s m ([.ref (ad a), .int p0] : List Value).toArray below meth c H locs ([] : NN).length (wt []) (MQ below (va_Qv (fun (u : Nat → Nat) => agr G.1 ad u) (fun u t => kE D ct u (xt G y.1) A y.2 t) A) ([.ref (ad a), .int p0] : List Value).toArray s y.1.length (wt y.1) A) (F0 m 12 ls [.int y2]) := by
    intro H locs ls hP hD hS hl
    refine lv_istore_n (lv' := [(2, .int y2), (0, .ref (ad a)), (1, .int p0)]) hx hb dX10_put_12 rfl hl (by decide) rfl (fun ls hl => ?_)
    obtain ⟨y3, hy3, hF⟩ := bnd_some hF
    obtain ⟨w5, hF, ew5⟩ := app_some hF
    obtain ⟨L6, eL6, hF⟩ := ltt_some hF
    have hT6 : y.1 = ([] ++ y3.1) ++ w5.1 := by rw [hT, ew5]; simp only [List.append_assoc]
    have hbl6 : L6.length ≤ y.1.length ∧ wt L6 ≤ wt y.1 := by rw [eL6]; exact room_d hT6 hbl
    have K3 : ∀ (ad7 : Nat → Nat), agr G.1 ad ad7 → ∀ (H : Heap) (locs : List Loc) (ls : Array Slot), va_P D classes (wld ct ad7 (xt G L6) y3.2.2) H → va_D A (wld ct ad7 (xt G L6) y3.2.2) → va_S A s.heap H locs → lv_has ls 3 [(0, .ref (ad7 a))] → W p l e (headSpec wuX10_put ({ frames := 2, cells := y.1.length, slots := wt y.1, locals := 102 })).room s m ([.ref (ad a), .int p0] : List Value).toArray below meth c H locs (L6 : NN).length (wt L6) (MQ below (va_Qv (fun (u : Nat → Nat) => agr G.1 ad u) (fun u t => kE D ct u (xt G y.1) A y.2 t) A) ([.ref (ad a), .int p0] : List Value).toArray s y.1.length (wt y.1) A) (F0 m 129 ls []) := by
      intro ad7 hag H locs ls hP hD hS hl
      have hT : y.1 = L6 ++ w5.1 := by rw [hT6, eL6]
      have h2 : y.2 = w5.2 := by rw [h2, ew5]
      have hk : (xt G L6).2.1 a = 10 := by rw [eL6]; exact xt_k _ hc hk
      have hc : a < (xt G L6).1 := by rw [eL6]; exact xt_l _ hc
      refine lv_aload_n hx hb dX10_put_129 rfl (lv_at hl 0 rfl) ?_
      refine lv_iconst (v := (0 : Int32)) hx hb dX10_put_130 (by decide) ?_
      obtain ⟨hz9, hF⟩ := chk_some hF
      refine va_put (D := D) (ci := 10) (v := .int (0 : Int32)) (ty := .boolean) (C := RX10) (T := TX10) (N := 20) hx hb hts (mus hf_X10) tyX10 tyX10_ok nmX10 hown hK hP hD hS a (wld_o ct ad7 (xt G L6) y3.2.2 hc hk (by decide)) rfl 12 (by decide) (hts (.fieldLink RX10 34 "VideoSuite$Writer" "isFirst" "Z") (mu mw_751)) (fun _ h9 => h9) rfl (by decide +kernel) (nar_z hz9).1 (nar_z hz9).2 (Nat.le_of_ble_eq_true rfl) dX10_put_131 (fun H locs hP hD hS => ?_)
      obtain ⟨M8, eM8, hF⟩ := ltt_some hF
      rw [set_oI ct ad7 (xt G L6) y3.2.2 hc hk (by decide) (by rfl), ← eM8] at hP hD
      refine lv_aload_n hx hb dX10_put_134 rfl (lv_at hl 0 rfl) ?_
      refine lv_iconst (v := (0 : Int32)) hx hb dX10_put_135 (by decide) ?_
      refine va_put (D := D) (ci := 10) (v := .int (0 : Int32)) (ty := .int) (C := RX10) (T := TX10) (N := 20) hx hb hts (mus hf_X10) tyX10 tyX10_ok nmX10 hown hK hP hD hS a (wld_o ct ad7 (xt G L6) M8 hc hk (by decide)) rfl 11 (by decide) (hts (.fieldLink RX10 37 "VideoSuite$Writer" "owed" "I") (mu mw_750)) (fun _ h9 => h9) rfl (by decide +kernel) rfl rfl (Nat.le_of_ble_eq_true rfl) dX10_put_136 (fun H locs hP hD hS => ?_)
      obtain ⟨M9, eM9, hF⟩ := ltt_some hF
      rw [set_oI ct ad7 (xt G L6) M8 hc hk (by decide) (by rfl), ← eM9] at hP hD
      obtain rfl := Option.some.inj hF
      have e1 : y.1 = L6 := by rw [hT]; exact List.append_nil _
      have e2 : y.2 = M9 := h2
      refine W.widen (k := y.1.length) (n := wt y.1) (Nat.le_of_eq (by rw [e1])) (Nat.le_of_eq (by rw [e1])) ?_
      exact W.vret hx hb hr (fun t ht hW => ⟨⟨ad7, rfl, hag, (by unfold kE; rw [e1, e2]; exact ⟨by rw [ht]; exact hP, va_K.moved hW.alike hK, hD⟩)⟩, hS.F ht⟩) hS.2.2 dX10_put_139
    clear hF
    refine itrA_rule (fun (s4 : NN × Int32 × DD) (r11 : NN) => (∃ t, s4.1 = [] ++ t) → L6 = s4.1 ++ r11 → ∀ (ad10 : Nat → Nat), agr G.1 ad ad10 → ∀ (H : Heap) (locs : List Loc) (ls : Array Slot), va_P D classes (wld ct ad10 (xt G s4.1) s4.2.2) H → va_D A (wld ct ad10 (xt G s4.1) s4.2.2) → va_S A s.heap H locs → lv_has ls 3 [(2, .int s4.2.1), (0, .ref (ad10 a)), (1, .int p0)] → W p l e (headSpec wuX10_put ({ frames := 2, cells := y.1.length, slots := wt y.1, locals := 102 })).room s m ([.ref (ad a), .int p0] : List Value).toArray below meth c H locs (s4.1 : NN).length (wt s4.1) (MQ below (va_Qv (fun (u : Nat → Nat) => agr G.1 ad u) (fun u t => kE D ct u (xt G y.1) A y.2 t) A) ([.ref (ad a), .int p0] : List Value).toArray s y.1.length (wt y.1) A) (F0 m 13 ls [])) ?_ _ _ _ hy3 ⟨[], (List.append_nil _).symm⟩ eL6 _ hag _ _ _ hP hD hS (lv_sub hl [0, 1, 2] rfl)
    rintro s4 r11 ⟨z12, hF, ⟨t3, et3⟩, hwz12⟩ ⟨u3, eu3⟩ eq3 ad10 hag H locs ls hP hD hS hl
    try dsimp only at hF
    obtain ⟨L13, eL13⟩ : ∃ x, x = s4.1 ++ z12.1 := ⟨_, rfl⟩
    obtain ⟨w14, hw14⟩ : ∃ x, x = z12 := ⟨_, rfl⟩
    rw [← hw14] at hF
    have hbl : L13.length ≤ y.1.length ∧ wt L13 ≤ wt y.1 := room_d (show L6 = L13 ++ t3 by rw [eq3, et3, eL13]; simp only [List.append_assoc]) hbl6
    have hT : L13 = s4.1 ++ w14.1 := by rw [eL13, hw14]
    have h2 : z12.2 = w14.2 := by rw [hw14]
    have hk : (xt G s4.1).2.1 a = 10 := by rw [eu3]; exact xt_k _ hc hk
    have hc : a < (xt G s4.1).1 := by rw [eu3]; exact xt_l _ hc
    refine lv_iload_n hx hb dX10_put_13 rfl (lv_at hl 0 rfl) ?_
    refine lv_aload_n hx hb dX10_put_14 rfl (lv_at hl 1 rfl) ?_
    refine va_get (D := D) (ci := 10) (v := .int (s4.2.2.1 a 11)) (C := RX10) (T := TX10) (N := 20) hx hb hts (mus hf_X10) hown hK hP a (wld_o ct ad10 (xt G s4.1) s4.2.2 hc hk (by decide)) rfl 11 (by decide) (hts (.fieldLink RX10 37 "VideoSuite$Writer" "owed" "I") (mu mw_750)) (fun _ h9 => h9) rfl dX10_put_15 ?_
    obtain ⟨x15, ex15, hF⟩ := ltt_some hF
    refine lv_topi (fun zx15 ezx15 => ?_)
    obtain rfl : x15 = zx15 := ex15.trans ezx15.symm
    refine lv_icmp_gt (tgt := 129) hx hb dX10_put_18 (by decide) (fun c16 => ?_) (fun c16 => ?_)
    · rw [if_pos c16] at hF
      obtain rfl := Option.some.inj hF
      have e1 : L13 = s4.1 := by rw [hT]; exact List.append_nil _
      have e2 : z12.2 = .inr ((s4.2.1, s4.2.2)) := h2
      rw [e2] at hwz12
      obtain ⟨hw1, hw2⟩ := hwz12
      have e8 : L6 = s4.1 := by rw [eq3, hw2, ← eL13, e1]
      rw [e8] at K3
      try rw [← hw1] at K3
      exact K3 _ hag _ _ _ hP hD hS (lv_sub hl [1] rfl)
    · rw [if_neg c16] at hF
      refine lv_aload_n hx hb dX10_put_21 rfl (lv_at hl 1 rfl) ?_
      refine lv_aload_n hx hb dX10_put_22 rfl (lv_at hl 1 rfl) ?_
      refine va_get (D := D) (ci := 10) (v := .int (s4.2.2.1 a 6)) (C := RX10) (T := TX10) (N := 20) hx hb hts (mus hf_X10) hown hK hP a (wld_o ct ad10 (xt G s4.1) s4.2.2 hc hk (by decide)) rfl 6 (by decide) (hts (.fieldLink RX10 41 "VideoSuite$Writer" "held" "I") (mu mw_745)) (fun _ h9 => h9) rfl dX10_put_23 ?_
      obtain ⟨x17, ex17, hF⟩ := ltt_some hF
      refine lv_topi (fun zx17 ezx17 => ?_)
      obtain rfl : x17 = zx17 := ex17.trans ezx17.symm
      refine lv_iconst (v := (1 : Int32)) hx hb dX10_put_26 (by decide) ?_
      refine lv_ishl hx hb dX10_put_27 ?_
      obtain ⟨x18, ex18, hF⟩ := ltt_some hF
      refine lv_topi (fun zx18 ezx18 => ?_)
      obtain rfl : x18 = zx18 := ex18.trans ezx18.symm
      refine lv_iload_n hx hb dX10_put_28 rfl (lv_at hl 0 rfl) ?_
      obtain ⟨y19, hy19, hF⟩ := bnd_some hF
      have J19 : ∀ (H : Heap) (locs : List Loc) (ls : Array Slot), va_P D classes (wld ct ad10 (xt G s4.1) s4.2.2) H → va_D A (wld ct ad10 (xt G s4.1) s4.2.2) → va_S A s.heap H locs → lv_has ls 3 [(2, .int s4.2.1), (0, .ref (ad10 a)), (1, .int p0)] → W p l e (headSpec wuX10_put ({ frames := 2, cells := y.1.length, slots := wt y.1, locals := 102 })).room s m ([.ref (ad a), .int p0] : List Value).toArray below meth c H locs (s4.1 : NN).length (wt s4.1) (MQ below (va_Qv (fun (u : Nat → Nat) => agr G.1 ad u) (fun u t => kE D ct u (xt G y.1) A y.2 t) A) ([.ref (ad a), .int p0] : List Value).toArray s y.1.length (wt y.1) A) (F0 m 39 ls [.int y19, .int x18, .ref (ad10 a)]) := by
        intro H locs ls hP hD hS hl
        refine lv_ior hx hb dX10_put_39 ?_
        obtain ⟨x20, ex20, hF⟩ := ltt_some hF
        refine lv_topi (fun zx20 ezx20 => ?_)
        obtain rfl : x20 = zx20 := ex20.trans ezx20.symm
        refine va_put (D := D) (ci := 10) (v := .int x20) (ty := .int) (C := RX10) (T := TX10) (N := 20) hx hb hts (mus hf_X10) tyX10 tyX10_ok nmX10 hown hK hP hD hS a (wld_o ct ad10 (xt G s4.1) s4.2.2 hc hk (by decide)) rfl 6 (by decide) (hts (.fieldLink RX10 41 "VideoSuite$Writer" "held" "I") (mu mw_745)) (fun _ h9 => h9) rfl (by decide +kernel) rfl rfl (Nat.le_of_ble_eq_true rfl) dX10_put_40 (fun H locs hP hD hS => ?_)
        obtain ⟨M21, eM21, hF⟩ := ltt_some hF
        rw [set_oI ct ad10 (xt G s4.1) s4.2.2 hc hk (by decide) (by rfl), ← eM21] at hP hD
        refine lv_aload_n hx hb dX10_put_43 rfl (lv_at hl 1 rfl) ?_
        refine lv_dup hx hb dX10_put_44 rfl ?_
        refine va_get (D := D) (ci := 10) (v := .int (M21.1 a 7)) (C := RX10) (T := TX10) (N := 20) hx hb hts (mus hf_X10) hown hK hP a (wld_o ct ad10 (xt G s4.1) M21 hc hk (by decide)) rfl 7 (by decide) (hts (.fieldLink RX10 44 "VideoSuite$Writer" "heldBits" "I") (mu mw_746)) (fun _ h9 => h9) rfl dX10_put_45 ?_
        obtain ⟨x22, ex22, hF⟩ := ltt_some hF
        refine lv_topi (fun zx22 ezx22 => ?_)
        obtain rfl : x22 = zx22 := ex22.trans ezx22.symm
        refine lv_iconst (v := (1 : Int32)) hx hb dX10_put_48 (by decide) ?_
        refine lv_iadd hx hb dX10_put_49 ?_
        obtain ⟨x23, ex23, hF⟩ := ltt_some hF
        refine lv_topi (fun zx23 ezx23 => ?_)
        obtain rfl : x23 = zx23 := ex23.trans ezx23.symm
        refine va_put (D := D) (ci := 10) (v := .int x23) (ty := .int) (C := RX10) (T := TX10) (N := 20) hx hb hts (mus hf_X10) tyX10 tyX10_ok nmX10 hown hK hP hD hS a (wld_o ct ad10 (xt G s4.1) M21 hc hk (by decide)) rfl 7 (by decide) (hts (.fieldLink RX10 44 "VideoSuite$Writer" "heldBits" "I") (mu mw_746)) (fun _ h9 => h9) rfl (by decide +kernel) rfl rfl (Nat.le_of_ble_eq_true rfl) dX10_put_50 (fun H locs hP hD hS => ?_)
        obtain ⟨M24, eM24, hF⟩ := ltt_some hF
        rw [set_oI ct ad10 (xt G s4.1) M21 hc hk (by decide) (by rfl), ← eM24] at hP hD
        refine lv_aload_n hx hb dX10_put_53 rfl (lv_at hl 1 rfl) ?_
        refine va_get (D := D) (ci := 10) (v := .int (M24.1 a 7)) (C := RX10) (T := TX10) (N := 20) hx hb hts (mus hf_X10) hown hK hP a (wld_o ct ad10 (xt G s4.1) M24 hc hk (by decide)) rfl 7 (by decide) (hts (.fieldLink RX10 44 "VideoSuite$Writer" "heldBits" "I") (mu mw_746)) (fun _ h9 => h9) rfl dX10_put_54 ?_
        obtain ⟨x25, ex25, hF⟩ := ltt_some hF
        refine lv_topi (fun zx25 ezx25 => ?_)
        obtain rfl : x25 = zx25 := ex25.trans ezx25.symm
        refine lv_bipush (v := (8 : Int32)) hx hb dX10_put_57 (by decide) ?_
        obtain ⟨y26, hy26, hF⟩ := bnd_some hF
        obtain ⟨w27, hF, ew27⟩ := app_some hF
        obtain ⟨L28, eL28, hF⟩ := ltt_some hF
        have hT28 : L13 = (s4.1 ++ y26.1) ++ w27.1 := by rw [hT, ew27]; simp only [List.append_assoc]
        have hbl28 : L28.length ≤ y.1.length ∧ wt L28 ≤ wt y.1 := by rw [eL28]; exact room_d hT28 hbl
        have J26 : ∀ (ad29 : Nat → Nat), agr G.1 ad ad29 → ∀ (H : Heap) (locs : List Loc) (ls : Array Slot), va_P D classes (wld ct ad29 (xt G L28) y26.2) H → va_D A (wld ct ad29 (xt G L28) y26.2) → va_S A s.heap H locs → lv_has ls 3 [(2, .int s4.2.1), (0, .ref (ad29 a)), (1, .int p0)] → W p l e (headSpec wuX10_put ({ frames := 2, cells := y.1.length, slots := wt y.1, locals := 102 })).room s m ([.ref (ad a), .int p0] : List Value).toArray below meth c H locs (L28 : NN).length (wt L28) (MQ below (va_Qv (fun (u : Nat → Nat) => agr G.1 ad u) (fun u t => kE D ct u (xt G y.1) A y.2 t) A) ([.ref (ad a), .int p0] : List Value).toArray s y.1.length (wt y.1) A) (F0 m 123 ls []) := by
          intro ad29 hag H locs ls hP hD hS hl
          have hT : L13 = L28 ++ w27.1 := by rw [hT28, eL28]
          have h2 : z12.2 = w27.2 := by rw [h2, ew27]
          have hk : (xt G L28).2.1 a = 10 := by rw [eL28]; exact xt_k _ hc hk
          have hc : a < (xt G L28).1 := by rw [eL28]; exact xt_l _ hc
          obtain ⟨x30, ex30, hF⟩ := ltt_some hF
          refine lv_iinc (v := x30) (lv' := [(2, .int x30), (0, .ref (ad29 a)), (1, .int p0)]) hx hb dX10_put_123 hl (k := 0) rfl (by rw [ex30]; rfl) (by decide) rfl (fun ls hl => ?_)
          refine lv_goto (tgt := 13) hx hb dX10_put_126 (by decide) ?_
          obtain rfl := Option.some.inj hF
          have e1 : L13 = L28 := by rw [hT]; exact List.append_nil _
          have e2 : z12.2 = .inl (L28, (x30, y26.2)) := h2
          rw [e2] at hwz12
          obtain ⟨r2, er2, hwz12⟩ := hwz12
          exact hwz12 ⟨u3 ++ z12.1, by show L28 = _; rw [← e1, eL13, eu3]; simp only [List.append_assoc]⟩ (by show L6 = L28 ++ r2; rw [eq3, er2, ← e1, eL13]; simp only [List.append_assoc]) _ hag _ _ _ hP hD hS (lv_sub hl [0, 1, 2] rfl)
        clear hF
        obtain ⟨w31, hw31⟩ : ∃ z, z = y26 := ⟨_, rfl⟩
        have hF := hy26
        rw [← hw31] at hF
        clear hy26
        have hT : L28 = s4.1 ++ w31.1 := by rw [eL28, hw31]
        have h2 : y26.2 = w31.2 := by rw [hw31]
        have hbl := hbl28
        refine lv_icmp_ne (tgt := 123) hx hb dX10_put_59 (by decide) (fun c32 => ?_) (fun c32 => ?_)
        · rw [if_neg c32] at hF
          obtain rfl := Option.some.inj hF
          have e1 : L28 = s4.1 := by rw [hT]; exact List.append_nil _
          have e2 : y26.2 = M24 := h2
          rw [e1] at J26
          try rw [e2] at J26
          exact J26 _ hag _ _ _ hP hD hS (lv_sub hl [0, 1, 2] rfl)
        · rw [if_pos c32] at hF
          refine lv_aload_n hx hb dX10_put_62 rfl (lv_at hl 1 rfl) ?_
          refine va_get (D := D) (ci := 10) (v := .int (M24.1 a 5)) (C := RX10) (T := TX10) (N := 20) hx hb hts (mus hf_X10) hown hK hP a (wld_o ct ad10 (xt G s4.1) M24 hc hk (by decide)) rfl 5 (by decide) (hts (.fieldLink RX10 47 "VideoSuite$Writer" "unitSize" "I") (mu mw_744)) (fun _ h9 => h9) rfl dX10_put_63 ?_
          obtain ⟨x33, ex33, hF⟩ := ltt_some hF
          refine lv_topi (fun zx33 ezx33 => ?_)
          obtain rfl : x33 = zx33 := ex33.trans ezx33.symm
          refine lv_aload_n hx hb dX10_put_66 rfl (lv_at hl 1 rfl) ?_
          refine va_get (D := D) (ci := 10) (v := va_re ad10 (M24.2 a 4)) (C := RX10) (T := TX10) (N := 20) hx hb hts (mus hf_X10) hown hK hP a (wld_o ct ad10 (xt G s4.1) M24 hc hk (by decide)) rfl 4 (by decide) (hts (.fieldLink RX10 15 "VideoSuite$Writer" "unit" "[B") (mu mw_743)) (fun _ h9 => h9) rfl dX10_put_67 ?_
          obtain ⟨b34, ho34, hc34, hk34, hF⟩ := dr_some hF
          refine W_st (st' := [.ref (ad10 b34), .int x33]) (by rw [va_some ho34]) ?_
          refine va_alen (v := Int32.ofNat ((xt G s4.1).2.2 b34)) hx hb hK hP b34 0 (wld_b ct ad10 (xt G s4.1) M24 hc34 hk34) rfl rfl dX10_put_70 ?_
          obtain ⟨x35, ex35, hF⟩ := ltt_some hF
          refine lv_topi (fun zx35 ezx35 => ?_)
          obtain rfl : x35 = zx35 := ex35.trans ezx35.symm
          obtain ⟨y36, hy36, hF⟩ := bnd_some hF
          obtain ⟨w37, hF, ew37⟩ := app_some hF
          obtain ⟨L38, eL38, hF⟩ := ltt_some hF
          have hT38 : L28 = (s4.1 ++ y36.1) ++ w37.1 := by rw [hT, ew37]; simp only [List.append_assoc]
          have hbl38 : L38.length ≤ y.1.length ∧ wt L38 ≤ wt y.1 := by rw [eL38]; exact room_d hT38 hbl
          have J36 : ∀ (ad39 : Nat → Nat), agr G.1 ad ad39 → ∀ (H : Heap) (locs : List Loc) (ls : Array Slot), va_P D classes (wld ct ad39 (xt G L38) y36.2) H → va_D A (wld ct ad39 (xt G L38) y36.2) → va_S A s.heap H locs → lv_has ls 3 [(2, .int s4.2.1), (0, .ref (ad39 a)), (1, .int p0)] → W p l e (headSpec wuX10_put ({ frames := 2, cells := y.1.length, slots := wt y.1, locals := 102 })).room s m ([.ref (ad a), .int p0] : List Value).toArray below meth c H locs (L38 : NN).length (wt L38) (MQ below (va_Qv (fun (u : Nat → Nat) => agr G.1 ad u) (fun u t => kE D ct u (xt G y.1) A y.2 t) A) ([.ref (ad a), .int p0] : List Value).toArray s y.1.length (wt y.1) A) (F0 m 92 ls []) := by
            intro ad39 hag H locs ls hP hD hS hl
            have hT : L28 = L38 ++ w37.1 := by rw [hT38, eL38]
            have h2 : y26.2 = w37.2 := by rw [h2, ew37]
            have hk : (xt G L38).2.1 a = 10 := by rw [eL38]; exact xt_k _ hc hk
            have hc : a < (xt G L38).1 := by rw [eL38]; exact xt_l _ hc
            have hk34 : (xt G L38).2.1 b34 = 12 := by rw [eL38]; exact xt_k _ hc34 hk34
            have hc34 : b34 < (xt G L38).1 := by rw [eL38]; exact xt_l _ hc34
            refine lv_aload_n hx hb dX10_put_92 rfl (lv_at hl 1 rfl) ?_
            refine va_get (D := D) (ci := 10) (v := va_re ad39 (y36.2.2 a 4)) (C := RX10) (T := TX10) (N := 20) hx hb hts (mus hf_X10) hown hK hP a (wld_o ct ad39 (xt G L38) y36.2 hc hk (by decide)) rfl 4 (by decide) (hts (.fieldLink RX10 15 "VideoSuite$Writer" "unit" "[B") (mu mw_743)) (fun _ h9 => h9) rfl dX10_put_93 ?_
            refine lv_aload_n hx hb dX10_put_96 rfl (lv_at hl 1 rfl) ?_
            refine lv_dup hx hb dX10_put_97 rfl ?_
            refine va_get (D := D) (ci := 10) (v := .int (y36.2.1 a 5)) (C := RX10) (T := TX10) (N := 20) hx hb hts (mus hf_X10) hown hK hP a (wld_o ct ad39 (xt G L38) y36.2 hc hk (by decide)) rfl 5 (by decide) (hts (.fieldLink RX10 47 "VideoSuite$Writer" "unitSize" "I") (mu mw_744)) (fun _ h9 => h9) rfl dX10_put_98 ?_
            obtain ⟨x40, ex40, hF⟩ := ltt_some hF
            refine lv_topi (fun zx40 ezx40 => ?_)
            obtain rfl : x40 = zx40 := ex40.trans ezx40.symm
            refine lv_dup_x1 hx hb dX10_put_101 rfl rfl ?_
            refine lv_iconst (v := (1 : Int32)) hx hb dX10_put_102 (by decide) ?_
            refine lv_iadd hx hb dX10_put_103 ?_
            obtain ⟨x41, ex41, hF⟩ := ltt_some hF
            refine lv_topi (fun zx41 ezx41 => ?_)
            obtain rfl : x41 = zx41 := ex41.trans ezx41.symm
            refine va_put (D := D) (ci := 10) (v := .int x41) (ty := .int) (C := RX10) (T := TX10) (N := 20) hx hb hts (mus hf_X10) tyX10 tyX10_ok nmX10 hown hK hP hD hS a (wld_o ct ad39 (xt G L38) y36.2 hc hk (by decide)) rfl 5 (by decide) (hts (.fieldLink RX10 47 "VideoSuite$Writer" "unitSize" "I") (mu mw_744)) (fun _ h9 => h9) rfl (by decide +kernel) rfl rfl (Nat.le_of_ble_eq_true rfl) dX10_put_104 (fun H locs hP hD hS => ?_)
            obtain ⟨M42, eM42, hF⟩ := ltt_some hF
            rw [set_oI ct ad39 (xt G L38) y36.2 hc hk (by decide) (by rfl), ← eM42] at hP hD
            refine lv_aload_n hx hb dX10_put_107 rfl (lv_at hl 1 rfl) ?_
            refine va_get (D := D) (ci := 10) (v := .int (M42.1 a 6)) (C := RX10) (T := TX10) (N := 20) hx hb hts (mus hf_X10) hown hK hP a (wld_o ct ad39 (xt G L38) M42 hc hk (by decide)) rfl 6 (by decide) (hts (.fieldLink RX10 41 "VideoSuite$Writer" "held" "I") (mu mw_745)) (fun _ h9 => h9) rfl dX10_put_108 ?_
            obtain ⟨x43, ex43, hF⟩ := ltt_some hF
            refine lv_topi (fun zx43 ezx43 => ?_)
            obtain rfl : x43 = zx43 := ex43.trans ezx43.symm
            refine lv_i2b hx hb dX10_put_111 rfl ?_
            obtain ⟨x44, ex44, hF⟩ := ltt_some hF
            refine lv_topi (fun zx44 ezx44 => ?_)
            obtain rfl : x44 = zx44 := ex44.trans ezx44.symm
            obtain ⟨b45, ho45, hc45, hk45, hF⟩ := dr_some hF
            refine W_st (st' := [.int x44, .int x40, .ref (ad39 b45)]) (by rw [va_some ho45]) ?_
            obtain ⟨hvc, hF⟩ := chk_some hF
            refine va_bast hx hb hK hP hD hS b45 0 (wld_b ct ad39 (xt G L38) M42 hc45 hk45) rfl hvc dX10_put_112 (fun H locs hP hD hS => ?_)
            obtain ⟨M46, eM46, hF⟩ := ltt_some hF
            rw [set_b ct ad39 (xt G L38) M42 hc45 hk45, ← eM46] at hP hD
            refine lv_aload_n hx hb dX10_put_113 rfl (lv_at hl 1 rfl) ?_
            refine lv_iconst (v := (0 : Int32)) hx hb dX10_put_114 (by decide) ?_
            refine va_put (D := D) (ci := 10) (v := .int (0 : Int32)) (ty := .int) (C := RX10) (T := TX10) (N := 20) hx hb hts (mus hf_X10) tyX10 tyX10_ok nmX10 hown hK hP hD hS a (wld_o ct ad39 (xt G L38) M46 hc hk (by decide)) rfl 6 (by decide) (hts (.fieldLink RX10 41 "VideoSuite$Writer" "held" "I") (mu mw_745)) (fun _ h9 => h9) rfl (by decide +kernel) rfl rfl (Nat.le_of_ble_eq_true rfl) dX10_put_115 (fun H locs hP hD hS => ?_)
            obtain ⟨M47, eM47, hF⟩ := ltt_some hF
            rw [set_oI ct ad39 (xt G L38) M46 hc hk (by decide) (by rfl), ← eM47] at hP hD
            refine lv_aload_n hx hb dX10_put_118 rfl (lv_at hl 1 rfl) ?_
            refine lv_iconst (v := (0 : Int32)) hx hb dX10_put_119 (by decide) ?_
            refine va_put (D := D) (ci := 10) (v := .int (0 : Int32)) (ty := .int) (C := RX10) (T := TX10) (N := 20) hx hb hts (mus hf_X10) tyX10 tyX10_ok nmX10 hown hK hP hD hS a (wld_o ct ad39 (xt G L38) M47 hc hk (by decide)) rfl 7 (by decide) (hts (.fieldLink RX10 44 "VideoSuite$Writer" "heldBits" "I") (mu mw_746)) (fun _ h9 => h9) rfl (by decide +kernel) rfl rfl (Nat.le_of_ble_eq_true rfl) dX10_put_120 (fun H locs hP hD hS => ?_)
            obtain ⟨M48, eM48, hF⟩ := ltt_some hF
            rw [set_oI ct ad39 (xt G L38) M47 hc hk (by decide) (by rfl), ← eM48] at hP hD
            obtain rfl := Option.some.inj hF
            have e1 : L28 = L38 := by rw [hT]; exact List.append_nil _
            have e2 : y26.2 = M48 := h2
            rw [e1] at J26
            try rw [e2] at J26
            exact J26 _ hag _ _ _ hP hD hS (lv_sub hl [0, 1, 2] rfl)
          clear hF
          obtain ⟨w49, hw49⟩ : ∃ z, z = y36 := ⟨_, rfl⟩
          have hF := hy36
          rw [← hw49] at hF
          clear hy36
          have hT : L38 = s4.1 ++ w49.1 := by rw [eL38, hw49]
          have h2 : y36.2 = w49.2 := by rw [hw49]
          have hbl := hbl38
          refine lv_icmp_lt (tgt := 92) hx hb dX10_put_71 (by decide) (fun c50 => ?_) (fun c50 => ?_)
          · rw [if_pos c50] at hF
            obtain rfl := Option.some.inj hF
            have e1 : L38 = s4.1 := by rw [hT]; exact List.append_nil _
            have e2 : y36.2 = M24 := h2
            rw [e1] at J36
            try rw [e2] at J36
            exact J36 _ hag _ _ _ hP hD hS (lv_sub hl [0, 1, 2] rfl)
          · rw [if_neg c50] at hF
            refine lv_aload_n hx hb dX10_put_74 rfl (lv_at hl 1 rfl) ?_
            refine lv_aload_n hx hb dX10_put_75 rfl (lv_at hl 1 rfl) ?_
            refine va_get (D := D) (ci := 10) (v := va_re ad10 (M24.2 a 4)) (C := RX10) (T := TX10) (N := 20) hx hb hts (mus hf_X10) hown hK hP a (wld_o ct ad10 (xt G s4.1) M24 hc hk (by decide)) rfl 4 (by decide) (hts (.fieldLink RX10 15 "VideoSuite$Writer" "unit" "[B") (mu mw_743)) (fun _ h9 => h9) rfl dX10_put_76 ?_
            refine lv_iconst (v := (2 : Int32)) hx hb dX10_put_79 (by decide) ?_
            refine lv_aload_n hx hb dX10_put_80 rfl (lv_at hl 1 rfl) ?_
            refine va_get (D := D) (ci := 10) (v := va_re ad10 (M24.2 a 4)) (C := RX10) (T := TX10) (N := 20) hx hb hts (mus hf_X10) hown hK hP a (wld_o ct ad10 (xt G s4.1) M24 hc hk (by decide)) rfl 4 (by decide) (hts (.fieldLink RX10 15 "VideoSuite$Writer" "unit" "[B") (mu mw_743)) (fun _ h9 => h9) rfl dX10_put_81 ?_
            refine W_st (st' := [.ref (ad10 b34), .int (2 : Int32), .ref (ad10 b34), .ref (ad10 a)]) (by rw [va_some ho34]) ?_
            refine va_alen (v := Int32.ofNat ((xt G s4.1).2.2 b34)) hx hb hK hP b34 0 (wld_b ct ad10 (xt G s4.1) M24 hc34 hk34) rfl rfl dX10_put_84 ?_
            obtain ⟨x51, ex51, hF⟩ := ltt_some hF
            refine lv_topi (fun zx51 ezx51 => ?_)
            obtain rfl : x51 = zx51 := ex51.trans ezx51.symm
            refine lv_imul hx hb dX10_put_85 ?_
            obtain ⟨x52, ex52, hF⟩ := ltt_some hF
            refine lv_topi (fun zx52 ezx52 => ?_)
            obtain rfl : x52 = zx52 := ex52.trans ezx52.symm
            obtain ⟨y53, hy53, hF⟩ := bnd_some hF
            obtain ⟨w54, hF, ew54⟩ := app_some hF
            obtain ⟨L55, eL55, hF⟩ := ltt_some hF
            have hT55 : L38 = (s4.1 ++ y53.1) ++ w54.1 := by rw [hT, ew54]; simp only [List.append_assoc]
            have hf9 := wA_in hD hA9 hS
            refine va_callr (va_runS (As := [.ref (ad10 b34), .int x52]) (rest := [.ref (ad10 a)]) ⟨hx, hb, hml, hown, hts⟩ (kJ7_copyOf_9075b l D ct ad10 Z (xt G s4.1) M24 _ (some b34) x52 y53 hy53) (va_cwS 2 hts gX10_put_J7_copyOf_9075b rfl rfl rfl (by decide +kernel) ⟨Nat.le_of_ble_eq_true rfl, Nat.le_of_ble_eq_true rfl⟩) ⟨fun a U g mk q => by obtain ⟨q0, q1, qP, qK, qD, qZ, qN⟩ := q; exact ⟨q0, q1, qP, va_K.moved (u := U) (U := U.calling g mk a) (Vm.Alike.refl U.vm) qK, qD, sF.moved (u := U) (U := U.calling g mk a) (Vm.Alike.refl U.vm) qZ, nF.same rfl qN⟩, fun U hU hW => ⟨rfl, by rw [hU], by rw [hU]; exact hP, va_K.moved hW.alike hK, hD.weaken (fun _ _ _ _ => trivial), by rw [hU]; exact ((hZ.kept hS.2.1).narrow hf9).moved hW.alike, hN.warm hW⟩⟩ rfl rfl hl.1 rfl (lv_room (Nat.le_of_ble_eq_true rfl)) dX10_put_86 (room_s hT55 hbl)) hS (fun q _ h => hf9 q h) hf9 (fun ad56 ra t H locs ht hvm hw hB hz1 hk1 hS => ?_)
            obtain ⟨⟨rb, hrb, rfl⟩, hB⟩ := hB
            have hn57 := hw
            obtain ⟨hP, hK9, hD9⟩ := hB
            rw [ht] at hP
            have hD := hD9.weaken (fun _ q _ h => hf9 q.1 h)
            rw [xt_xt, ← eL55] at hP hD
            refine W_cs (k := L55.length) (n := wt L55) (by rw [eL55]; exact (len_s s4.1 y53.1).symm) (by rw [eL55]; exact (wt_app s4.1 y53.1).symm) ?_
            refine W_st (st' := [va_re ad56 y53.2.2, .ref (ad10 a)]) (by rw [hrb]; rfl) ?_
            have hT : L38 = L55 ++ w54.1 := by rw [hT55, eL55]
            have h2 : y36.2 = w54.2 := by rw [h2, ew54]
            have hl := lv_sub (l' := [(2, .int s4.2.1), (0, .ref (ad10 a)), (1, .int p0)]) hl [0, 1, 2] rfl
            have e9 : ([(2, .int s4.2.1), (0, .ref (ad10 a)), (1, .int p0)] : List (Nat × Value)) = [(2, .int s4.2.1), (0, .ref (ad56 a)), (1, .int p0)] := (by first | rfl | simp only [hn57 a hc])
            rw [e9] at hl
            clear e9
            refine W_st (st' := [va_re ad56 y53.2.2, .ref (ad56 a)]) (by first | rfl | simp only [hn57 a hc]) ?_
            have hk : (xt G L55).2.1 a = 10 := by rw [eL55]; exact xt_k _ hc hk
            have hc : a < (xt G L55).1 := by rw [eL55]; exact xt_l _ hc
            have hk34 : (xt G L55).2.1 b34 = 12 := by rw [eL55]; exact xt_k _ hc34 hk34
            have hc34 : b34 < (xt G L55).1 := by rw [eL55]; exact xt_l _ hc34
            have hag := agr_t (xt_ge _ _) hag hn57
            refine va_put (D := D) (ci := 10) (v := va_re ad56 y53.2.2) (ty := (.array .byte)) (C := RX10) (T := TX10) (N := 20) hx hb hts (mus hf_X10) tyX10 tyX10_ok nmX10 hown hK hP hD hS a (wld_o ct ad56 (xt G L55) y53.2.1 hc hk (by decide)) rfl 4 (by decide) (hts (.fieldLink RX10 15 "VideoSuite$Writer" "unit" "[B") (mu mw_743)) (fun _ h9 => h9) rfl (by decide +kernel) (nar_q ad56 (Or.inr ⟨_, rfl⟩) y53.2.2).1 (nar_q ad56 (Or.inr ⟨_, rfl⟩) y53.2.2).2 (Nat.le_of_ble_eq_true rfl) dX10_put_89 (fun H locs hP hD hS => ?_)
            obtain ⟨M58, eM58, hF⟩ := ltt_some hF
            rw [set_oP ct ad56 (xt G L55) y53.2.1 hc hk (by decide) (by rfl), ← eM58] at hP hD
            obtain rfl := Option.some.inj hF
            have e1 : L38 = L55 := by rw [hT]; exact List.append_nil _
            have e2 : y36.2 = M58 := h2
            rw [e1] at J36
            try rw [e2] at J36
            exact J36 _ hag _ _ _ hP hD hS (lv_sub hl [0, 1, 2] rfl)
      clear hF
      have hF := hy19
      clear hy19
      refine lv_if_ne (tgt := 36) hx hb dX10_put_29 (by decide) (fun c59 => ?_) (fun c59 => ?_)
      · rw [if_neg c59] at hF
        refine lv_iconst (v := (1 : Int32)) hx hb dX10_put_36 (by decide) ?_
        refine lv_iload_n hx hb dX10_put_37 rfl (lv_at hl 2 rfl) ?_
        refine lv_isub hx hb dX10_put_38 ?_
        obtain ⟨x60, ex60, hF⟩ := ltt_some hF
        refine lv_topi (fun zx60 ezx60 => ?_)
        obtain rfl : x60 = zx60 := ex60.trans ezx60.symm
        obtain rfl := Option.some.inj hF
        exact J19 _ _ _ hP hD hS (lv_sub hl [0, 1, 2] rfl)
      · rw [if_pos c59] at hF
        refine lv_iload_n hx hb dX10_put_32 rfl (lv_at hl 2 rfl) ?_
        refine lv_goto (tgt := 39) hx hb dX10_put_33 (by decide) ?_
        obtain rfl := Option.some.inj hF
        exact J19 _ _ _ hP hD hS (lv_sub hl [0, 1, 2] rfl)
  clear hF
  have hF := hy2
  clear hy2
  refine lv_if_eq (tgt := 11) hx hb dX10_put_4 (by decide) (fun c61 => ?_) (fun c61 => ?_)
  · rw [if_pos c61] at hF
    refine lv_iconst (v := (0 : Int32)) hx hb dX10_put_11 (by decide) ?_
    obtain rfl := Option.some.inj hF
    exact J2 _ _ _ hP hD hS (lv_sub hl [0, 1] rfl)
  · rw [if_neg c61] at hF
    refine lv_iconst (v := (1 : Int32)) hx hb dX10_put_7 (by decide) ?_
    refine lv_goto (tgt := 12) hx hb dX10_put_8 (by decide) ?_
    obtain rfl := Option.some.inj hF
    exact J2 _ _ _ hP hD hS (lv_sub hl [0, 1] rfl)
set_option maxRecDepth 20000 in
theorem gX10_putByte_J7_copyOf_9075b : GoodIn wuX10_putByte (va_wsS RX10 66 yJ7_copyOf_9075b wuJ7_copyOf_9075b) := gu_S mw_1148 mw_1149 mw_182 mw_1150
theorem dX10_putByte_0 : decode cX10_putByte 0 = .ok (.aload_n 0, 1) := by decide +kernel
theorem dX10_putByte_1 : decode cX10_putByte 1 = .ok (.getfield 63, 3) := by decide +kernel
theorem dX10_putByte_4 : decode cX10_putByte 4 = .ok (.aload_n 0, 1) := by decide +kernel
theorem dX10_putByte_5 : decode cX10_putByte 5 = .ok (.getfield 9, 3) := by decide +kernel
theorem dX10_putByte_8 : decode cX10_putByte 8 = .ok (.arraylength, 1) := by decide +kernel
theorem dX10_putByte_9 : decode cX10_putByte 9 = .ok (.if_icmp .lt 21, 3) := by decide +kernel
theorem dX10_putByte_12 : decode cX10_putByte 12 = .ok (.aload_n 0, 1) := by decide +kernel
theorem dX10_putByte_13 : decode cX10_putByte 13 = .ok (.aload_n 0, 1) := by decide +kernel
theorem dX10_putByte_14 : decode cX10_putByte 14 = .ok (.getfield 9, 3) := by decide +kernel
theorem dX10_putByte_17 : decode cX10_putByte 17 = .ok (.iconst 2, 1) := by decide +kernel
theorem dX10_putByte_18 : decode cX10_putByte 18 = .ok (.aload_n 0, 1) := by decide +kernel
theorem dX10_putByte_19 : decode cX10_putByte 19 = .ok (.getfield 9, 3) := by decide +kernel
theorem dX10_putByte_22 : decode cX10_putByte 22 = .ok (.arraylength, 1) := by decide +kernel
theorem dX10_putByte_23 : decode cX10_putByte 23 = .ok (.imul, 1) := by decide +kernel
theorem dX10_putByte_24 : decode cX10_putByte 24 = .ok (.invokestatic 66, 3) := by decide +kernel
theorem dX10_putByte_27 : decode cX10_putByte 27 = .ok (.putfield 9, 3) := by decide +kernel
theorem dX10_putByte_30 : decode cX10_putByte 30 = .ok (.aload_n 0, 1) := by decide +kernel
theorem dX10_putByte_31 : decode cX10_putByte 31 = .ok (.getfield 9, 3) := by decide +kernel
theorem dX10_putByte_34 : decode cX10_putByte 34 = .ok (.aload_n 0, 1) := by decide +kernel
theorem dX10_putByte_35 : decode cX10_putByte 35 = .ok (.dup, 1) := by decide +kernel
theorem dX10_putByte_36 : decode cX10_putByte 36 = .ok (.getfield 63, 3) := by decide +kernel
theorem dX10_putByte_39 : decode cX10_putByte 39 = .ok (.dup_x1, 1) := by decide +kernel
theorem dX10_putByte_40 : decode cX10_putByte 40 = .ok (.iconst 1, 1) := by decide +kernel
theorem dX10_putByte_41 : decode cX10_putByte 41 = .ok (.iadd, 1) := by decide +kernel
theorem dX10_putByte_42 : decode cX10_putByte 42 = .ok (.putfield 63, 3) := by decide +kernel
theorem dX10_putByte_45 : decode cX10_putByte 45 = .ok (.iload_n 1, 1) := by decide +kernel
theorem dX10_putByte_46 : decode cX10_putByte 46 = .ok (.i2b, 1) := by decide +kernel
theorem dX10_putByte_47 : decode cX10_putByte 47 = .ok (.bastore, 1) := by decide +kernel
theorem dX10_putByte_48 : decode cX10_putByte 48 = .ok (.return_, 1) := by decide +kernel
noncomputable def FX10_putByte (G : GG) (M : DD) (a : Nat) (p0 : Int32) : Option (NN × DD) :=
  ltt (M.1 a 1) fun x1 =>
  dr (xt G []) 12 ((M.2 a 0)) fun b2 =>
  ltt (Int32.ofNat ((xt G []).2.2 b2)) fun x3 =>
  bnd (if x1 < x3 then (some ([], M)) else
  (ltt (Int32.ofNat ((xt G []).2.2 b2)) fun x16 =>
  ltt ((((2 : Int32)) * x16)) fun x17 =>
  bnd (FJ7_copyOf_9075b (xt G []) M (some b2) x17) fun y18 =>
  app y18.1 <|
  ltt ([] ++ y18.1) fun L20 =>
  ltt (uP y18.2.1 a 0 y18.2.2) fun M23 =>
  some ([], M23))) fun (y4 : NN × DD) =>
  app y4.1 <|
  ltt ([] ++ y4.1) fun L6 =>
  ltt (y4.2.1 a 1) fun x8 =>
  ltt ((x8 + ((1 : Int32)))) fun x9 =>
  ltt (uI y4.2 a 1 x9) fun M10 =>
  ltt (p0.toInt8.toInt32) fun x11 =>
  dr (xt G L6) 12 ((y4.2.2 a 0)) fun b12 =>
  chk (¬ (x8 < 0 ∨ (xt G L6).2.2 b12 ≤ x8.toNatClampNeg)) <|
  ltt (uI M10 b12 x8.toNatClampNeg (vp_nar .byte x11)) fun M13 =>
  some ([], M13)
set_option maxHeartbeats 4000000 in
set_option maxRecDepth 100000 in
theorem kX10_putByte (l : Launch) (D : va_G) (ct : CT) (ad : Nat → Nat) (Z : Nat → Nat) (G : GG) (M : DD) (sz : Nat) (a : Nat) (p0 : Int32) (y : NN × DD) (hc : a < G.1) (hk : G.2.1 a = 10) (hF : FX10_putByte G M a p0 = some y) : Met l yX10_putByte wuX10_putByte ({ frames := 2, cells := y.1.length, slots := wt y.1, locals := 102 }) (va_Pc [.ref (ad a), .int p0] (kB D ct ad Z G M sz)) (va_Qv (fun (u : Nat → Nat) => agr G.1 ad u) (fun u t => kE D ct u (xt G y.1) (wA ad G sz) y.2 t) (wA ad G sz)) y.1.length (wt y.1) (wA ad G sz) := by
  refine Met.ofW (cc := cX10_putByte) (maxL := 2) (ret := none) (by decide) rfl ?_
  intro p e s m args below meth c s₁ B hml hv
  obtain ⟨rfl, hsz, hP, hK, hD0, hZ, hN⟩ := hv
  have hx := B.exec
  have hb := B.bytes
  have hr := B.returns
  have hts := atoms_spec (ws := wuX10_putByte) B.pre
  have hown : s.vm.findClass RX10 = some m.cls := findClass_of_methodNamed B.named
  have hlocks := B.notSynchronized
  subst hsz
  have hD := wD_self (sz := s.heap.size) hD0
  have hA9 : ∀ q, s.heap.size ≤ q → wA ad G s.heap.size q := fun q h => Or.inr h
  generalize hAe : wA ad G s.heap.size = A at hD hA9 hZ ⊢
  have hS : va_S A s.heap s.heap [] := va_S.rf
  have hl := lv_entry ([.ref (ad a), .int p0]) (n := 2) (Nat.le_of_ble_eq_true rfl)
  rw [lg_entry_eq]
  generalize (lg_sl ([.ref (ad a), .int p0]) ++ List.replicate (2 - (lg_sl ([.ref (ad a), .int p0])).length) Slot.unset).toArray = ls at hl ⊢
  have hl : lv_has ls 2 [(0, .ref (ad a)), (1, .int p0)] := hl
  unfold FX10_putByte at hF
  rw [← wld_0 ct ad G M] at hP hD
  have hk := xt_k0 hc hk
  have hc := xt_l0 hc
  have hag := agr_rf G.1 ad
  obtain ⟨w0, hw0⟩ : ∃ z, z = y := ⟨_, rfl⟩
  rw [← hw0] at hF
  have hT : y.1 = [] ++ w0.1 := by rw [hw0]; rfl
  have h2 : y.2 = w0.2 := by rw [hw0]
  have hbl : y.1.length ≤ y.1.length ∧ wt y.1 ≤ wt y.1 := ⟨Nat.le_refl _, Nat.le_refl _⟩
  refine lv_aload_n hx hb dX10_putByte_0 rfl (lv_at hl 0 rfl) ?_
  refine va_get (D := D) (ci := 10) (v := .int (M.1 a 1)) (C := RX10) (T := TX10) (N := 20) hx hb hts (mus hf_X10) hown hK hP a (wld_o ct ad (xt G []) M hc hk (by decide)) rfl 1 (by decide) (hts (.fieldLink RX10 63 "VideoSuite$Writer" "length" "I") (mu mw_737)) (fun _ h9 => h9) rfl dX10_putByte_1 ?_
  obtain ⟨x1, ex1, hF⟩ := ltt_some hF
  refine lv_topi (fun zx1 ezx1 => ?_)
  obtain rfl : x1 = zx1 := ex1.trans ezx1.symm
  refine lv_aload_n hx hb dX10_putByte_4 rfl (lv_at hl 0 rfl) ?_
  refine va_get (D := D) (ci := 10) (v := va_re ad (M.2 a 0)) (C := RX10) (T := TX10) (N := 20) hx hb hts (mus hf_X10) hown hK hP a (wld_o ct ad (xt G []) M hc hk (by decide)) rfl 0 (by decide) (hts (.fieldLink RX10 9 "VideoSuite$Writer" "made" "[B") (mu mw_735)) (fun _ h9 => h9) rfl dX10_putByte_5 ?_
  obtain ⟨b2, ho2, hc2, hk2, hF⟩ := dr_some hF
  refine W_st (st' := [.ref (ad b2), .int x1]) (by rw [va_some ho2]) ?_
  refine va_alen (v := Int32.ofNat ((xt G []).2.2 b2)) hx hb hK hP b2 0 (wld_b ct ad (xt G []) M hc2 hk2) rfl rfl dX10_putByte_8 ?_
  obtain ⟨x3, ex3, hF⟩ := ltt_some hF
  refine lv_topi (fun zx3 ezx3 => ?_)
  obtain rfl : x3 = zx3 := ex3.trans ezx3.symm
  obtain ⟨y4, hy4, hF⟩ := bnd_some hF
  obtain ⟨w5, hF, ew5⟩ := app_some hF
  obtain ⟨L6, eL6, hF⟩ := ltt_some hF
  have hT6 : y.1 = ([] ++ y4.1) ++ w5.1 := by rw [hT, ew5]; simp only [List.append_assoc]
  have hbl6 : L6.length ≤ y.1.length ∧ wt L6 ≤ wt y.1 := by rw [eL6]; exact room_d hT6 hbl
  have J4 : ∀ (ad7 : Nat → Nat), agr G.1 ad ad7 → ∀ (H : Heap) (locs : List Loc) (ls : Array Slot), va_P D classes (wld ct ad7 (xt G L6) y4.2) H → va_D A (wld ct ad7 (xt G L6) y4.2) → va_S A s.heap H locs → lv_has ls 2 [(0, .ref (ad7 a)), (1, .int p0)] → W p l e (headSpec wuX10_putByte ({ frames := 2, cells := y.1.length, slots := wt y.1, locals := 102 })).room s m ([.ref (ad a), .int p0] : List Value).toArray below meth c H locs (L6 : NN).length (wt L6) (MQ below (va_Qv (fun (u : Nat → Nat) => agr G.1 ad u) (fun u t => kE D ct u (xt G y.1) A y.2 t) A) ([.ref (ad a), .int p0] : List Value).toArray s y.1.length (wt y.1) A) (F0 m 30 ls []) := by
    intro ad7 hag H locs ls hP hD hS hl
    have hT : y.1 = L6 ++ w5.1 := by rw [hT6, eL6]
    have h2 : y.2 = w5.2 := by rw [h2, ew5]
    have hk : (xt G L6).2.1 a = 10 := by rw [eL6]; exact xt_k _ hc hk
    have hc : a < (xt G L6).1 := by rw [eL6]; exact xt_l _ hc
    have hk2 : (xt G L6).2.1 b2 = 12 := by rw [eL6]; exact xt_k _ hc2 hk2
    have hc2 : b2 < (xt G L6).1 := by rw [eL6]; exact xt_l _ hc2
    refine lv_aload_n hx hb dX10_putByte_30 rfl (lv_at hl 0 rfl) ?_
    refine va_get (D := D) (ci := 10) (v := va_re ad7 (y4.2.2 a 0)) (C := RX10) (T := TX10) (N := 20) hx hb hts (mus hf_X10) hown hK hP a (wld_o ct ad7 (xt G L6) y4.2 hc hk (by decide)) rfl 0 (by decide) (hts (.fieldLink RX10 9 "VideoSuite$Writer" "made" "[B") (mu mw_735)) (fun _ h9 => h9) rfl dX10_putByte_31 ?_
    refine lv_aload_n hx hb dX10_putByte_34 rfl (lv_at hl 0 rfl) ?_
    refine lv_dup hx hb dX10_putByte_35 rfl ?_
    refine va_get (D := D) (ci := 10) (v := .int (y4.2.1 a 1)) (C := RX10) (T := TX10) (N := 20) hx hb hts (mus hf_X10) hown hK hP a (wld_o ct ad7 (xt G L6) y4.2 hc hk (by decide)) rfl 1 (by decide) (hts (.fieldLink RX10 63 "VideoSuite$Writer" "length" "I") (mu mw_737)) (fun _ h9 => h9) rfl dX10_putByte_36 ?_
    obtain ⟨x8, ex8, hF⟩ := ltt_some hF
    refine lv_topi (fun zx8 ezx8 => ?_)
    obtain rfl : x8 = zx8 := ex8.trans ezx8.symm
    refine lv_dup_x1 hx hb dX10_putByte_39 rfl rfl ?_
    refine lv_iconst (v := (1 : Int32)) hx hb dX10_putByte_40 (by decide) ?_
    refine lv_iadd hx hb dX10_putByte_41 ?_
    obtain ⟨x9, ex9, hF⟩ := ltt_some hF
    refine lv_topi (fun zx9 ezx9 => ?_)
    obtain rfl : x9 = zx9 := ex9.trans ezx9.symm
    refine va_put (D := D) (ci := 10) (v := .int x9) (ty := .int) (C := RX10) (T := TX10) (N := 20) hx hb hts (mus hf_X10) tyX10 tyX10_ok nmX10 hown hK hP hD hS a (wld_o ct ad7 (xt G L6) y4.2 hc hk (by decide)) rfl 1 (by decide) (hts (.fieldLink RX10 63 "VideoSuite$Writer" "length" "I") (mu mw_737)) (fun _ h9 => h9) rfl (by decide +kernel) rfl rfl (Nat.le_of_ble_eq_true rfl) dX10_putByte_42 (fun H locs hP hD hS => ?_)
    obtain ⟨M10, eM10, hF⟩ := ltt_some hF
    rw [set_oI ct ad7 (xt G L6) y4.2 hc hk (by decide) (by rfl), ← eM10] at hP hD
    refine lv_iload_n hx hb dX10_putByte_45 rfl (lv_at hl 1 rfl) ?_
    refine lv_i2b hx hb dX10_putByte_46 rfl ?_
    obtain ⟨x11, ex11, hF⟩ := ltt_some hF
    refine lv_topi (fun zx11 ezx11 => ?_)
    obtain rfl : x11 = zx11 := ex11.trans ezx11.symm
    obtain ⟨b12, ho12, hc12, hk12, hF⟩ := dr_some hF
    refine W_st (st' := [.int x11, .int x8, .ref (ad7 b12)]) (by rw [va_some ho12]) ?_
    obtain ⟨hvc, hF⟩ := chk_some hF
    refine va_bast hx hb hK hP hD hS b12 0 (wld_b ct ad7 (xt G L6) M10 hc12 hk12) rfl hvc dX10_putByte_47 (fun H locs hP hD hS => ?_)
    obtain ⟨M13, eM13, hF⟩ := ltt_some hF
    rw [set_b ct ad7 (xt G L6) M10 hc12 hk12, ← eM13] at hP hD
    obtain rfl := Option.some.inj hF
    have e1 : y.1 = L6 := by rw [hT]; exact List.append_nil _
    have e2 : y.2 = M13 := h2
    refine W.widen (k := y.1.length) (n := wt y.1) (Nat.le_of_eq (by rw [e1])) (Nat.le_of_eq (by rw [e1])) ?_
    exact W.vret hx hb hr (fun t ht hW => ⟨⟨ad7, rfl, hag, (by unfold kE; rw [e1, e2]; exact ⟨by rw [ht]; exact hP, va_K.moved hW.alike hK, hD⟩)⟩, hS.F ht⟩) hS.2.2 dX10_putByte_48
  clear hF
  obtain ⟨w14, hw14⟩ : ∃ z, z = y4 := ⟨_, rfl⟩
  have hF := hy4
  rw [← hw14] at hF
  clear hy4
  have hT : L6 = [] ++ w14.1 := by rw [eL6, hw14]
  have h2 : y4.2 = w14.2 := by rw [hw14]
  have hbl := hbl6
  refine lv_icmp_lt (tgt := 30) hx hb dX10_putByte_9 (by decide) (fun c15 => ?_) (fun c15 => ?_)
  · rw [if_pos c15] at hF
    obtain rfl := Option.some.inj hF
    have e1 : L6 = [] := by rw [hT]; exact List.append_nil _
    have e2 : y4.2 = M := h2
    rw [e1] at J4
    try rw [e2] at J4
    exact J4 _ hag _ _ _ hP hD hS (lv_sub hl [0, 1] rfl)
  · rw [if_neg c15] at hF
    refine lv_aload_n hx hb dX10_putByte_12 rfl (lv_at hl 0 rfl) ?_
    refine lv_aload_n hx hb dX10_putByte_13 rfl (lv_at hl 0 rfl) ?_
    refine va_get (D := D) (ci := 10) (v := va_re ad (M.2 a 0)) (C := RX10) (T := TX10) (N := 20) hx hb hts (mus hf_X10) hown hK hP a (wld_o ct ad (xt G []) M hc hk (by decide)) rfl 0 (by decide) (hts (.fieldLink RX10 9 "VideoSuite$Writer" "made" "[B") (mu mw_735)) (fun _ h9 => h9) rfl dX10_putByte_14 ?_
    refine lv_iconst (v := (2 : Int32)) hx hb dX10_putByte_17 (by decide) ?_
    refine lv_aload_n hx hb dX10_putByte_18 rfl (lv_at hl 0 rfl) ?_
    refine va_get (D := D) (ci := 10) (v := va_re ad (M.2 a 0)) (C := RX10) (T := TX10) (N := 20) hx hb hts (mus hf_X10) hown hK hP a (wld_o ct ad (xt G []) M hc hk (by decide)) rfl 0 (by decide) (hts (.fieldLink RX10 9 "VideoSuite$Writer" "made" "[B") (mu mw_735)) (fun _ h9 => h9) rfl dX10_putByte_19 ?_
    refine W_st (st' := [.ref (ad b2), .int (2 : Int32), .ref (ad b2), .ref (ad a)]) (by rw [va_some ho2]) ?_
    refine va_alen (v := Int32.ofNat ((xt G []).2.2 b2)) hx hb hK hP b2 0 (wld_b ct ad (xt G []) M hc2 hk2) rfl rfl dX10_putByte_22 ?_
    obtain ⟨x16, ex16, hF⟩ := ltt_some hF
    refine lv_topi (fun zx16 ezx16 => ?_)
    obtain rfl : x16 = zx16 := ex16.trans ezx16.symm
    refine lv_imul hx hb dX10_putByte_23 ?_
    obtain ⟨x17, ex17, hF⟩ := ltt_some hF
    refine lv_topi (fun zx17 ezx17 => ?_)
    obtain rfl : x17 = zx17 := ex17.trans ezx17.symm
    obtain ⟨y18, hy18, hF⟩ := bnd_some hF
    obtain ⟨w19, hF, ew19⟩ := app_some hF
    obtain ⟨L20, eL20, hF⟩ := ltt_some hF
    have hT20 : L6 = ([] ++ y18.1) ++ w19.1 := by rw [hT, ew19]; simp only [List.append_assoc]
    have hf9 := wA_in hD hA9 hS
    refine va_callr (va_runS (As := [.ref (ad b2), .int x17]) (rest := [.ref (ad a)]) ⟨hx, hb, hml, hown, hts⟩ (kJ7_copyOf_9075b l D ct ad Z (xt G []) M _ (some b2) x17 y18 hy18) (va_cwS 2 hts gX10_putByte_J7_copyOf_9075b rfl rfl rfl (by decide +kernel) ⟨Nat.le_of_ble_eq_true rfl, Nat.le_of_ble_eq_true rfl⟩) ⟨fun a U g mk q => by obtain ⟨q0, q1, qP, qK, qD, qZ, qN⟩ := q; exact ⟨q0, q1, qP, va_K.moved (u := U) (U := U.calling g mk a) (Vm.Alike.refl U.vm) qK, qD, sF.moved (u := U) (U := U.calling g mk a) (Vm.Alike.refl U.vm) qZ, nF.same rfl qN⟩, fun U hU hW => ⟨rfl, by rw [hU], by rw [hU]; exact hP, va_K.moved hW.alike hK, hD.weaken (fun _ _ _ _ => trivial), by rw [hU]; exact ((hZ.kept hS.2.1).narrow hf9).moved hW.alike, hN.warm hW⟩⟩ rfl rfl hl.1 rfl (lv_room (Nat.le_of_ble_eq_true rfl)) dX10_putByte_24 (room_s hT20 hbl)) hS (fun q _ h => hf9 q h) hf9 (fun ad21 ra t H locs ht hvm hw hB hz1 hk1 hS => ?_)
    obtain ⟨⟨rb, hrb, rfl⟩, hB⟩ := hB
    have hn22 := hw
    obtain ⟨hP, hK9, hD9⟩ := hB
    rw [ht] at hP
    have hD := hD9.weaken (fun _ q _ h => hf9 q.1 h)
    rw [xt_xt, ← eL20] at hP hD
    refine W_cs (k := L20.length) (n := wt L20) (by rw [eL20]; exact (len_s [] y18.1).symm) (by rw [eL20]; exact (wt_app [] y18.1).symm) ?_
    refine W_st (st' := [va_re ad21 y18.2.2, .ref (ad a)]) (by rw [hrb]; rfl) ?_
    have hT : L6 = L20 ++ w19.1 := by rw [hT20, eL20]
    have h2 : y4.2 = w19.2 := by rw [h2, ew19]
    have hl := lv_sub (l' := [(0, .ref (ad a)), (1, .int p0)]) hl [0, 1] rfl
    have e9 : ([(0, .ref (ad a)), (1, .int p0)] : List (Nat × Value)) = [(0, .ref (ad21 a)), (1, .int p0)] := (by first | rfl | simp only [hn22 a hc])
    rw [e9] at hl
    clear e9
    refine W_st (st' := [va_re ad21 y18.2.2, .ref (ad21 a)]) (by first | rfl | simp only [hn22 a hc]) ?_
    have hk : (xt G L20).2.1 a = 10 := by rw [eL20]; exact xt_k _ hc hk
    have hc : a < (xt G L20).1 := by rw [eL20]; exact xt_l _ hc
    have hk2 : (xt G L20).2.1 b2 = 12 := by rw [eL20]; exact xt_k _ hc2 hk2
    have hc2 : b2 < (xt G L20).1 := by rw [eL20]; exact xt_l _ hc2
    have hag := agr_t (xt_ge _ _) hag hn22
    refine va_put (D := D) (ci := 10) (v := va_re ad21 y18.2.2) (ty := (.array .byte)) (C := RX10) (T := TX10) (N := 20) hx hb hts (mus hf_X10) tyX10 tyX10_ok nmX10 hown hK hP hD hS a (wld_o ct ad21 (xt G L20) y18.2.1 hc hk (by decide)) rfl 0 (by decide) (hts (.fieldLink RX10 9 "VideoSuite$Writer" "made" "[B") (mu mw_735)) (fun _ h9 => h9) rfl (by decide +kernel) (nar_q ad21 (Or.inr ⟨_, rfl⟩) y18.2.2).1 (nar_q ad21 (Or.inr ⟨_, rfl⟩) y18.2.2).2 (Nat.le_of_ble_eq_true rfl) dX10_putByte_27 (fun H locs hP hD hS => ?_)
    obtain ⟨M23, eM23, hF⟩ := ltt_some hF
    rw [set_oP ct ad21 (xt G L20) y18.2.1 hc hk (by decide) (by rfl), ← eM23] at hP hD
    obtain rfl := Option.some.inj hF
    have e1 : L6 = L20 := by rw [hT]; exact List.append_nil _
    have e2 : y4.2 = M23 := h2
    rw [e1] at J4
    try rw [e2] at J4
    exact J4 _ hag _ _ _ hP hD hS (lv_sub hl [0, 1] rfl)
set_option maxRecDepth 20000 in
theorem gX10_widen_X10_put : GoodIn wuX10_widen (wsV RX10 50 RX10 yX10_put wuX10_put) := gu_V mw_1144 mw_1146 mw_26 mw_176 mw_1147
theorem dX10_widen_0 : decode cX10_widen 0 = .ok (.iconst 0, 1) := by decide +kernel
theorem dX10_widen_1 : decode cX10_widen 1 = .ok (.istore_n 1, 1) := by decide +kernel
theorem dX10_widen_2 : decode cX10_widen 2 = .ok (.iload_n 1, 1) := by decide +kernel
theorem dX10_widen_3 : decode cX10_widen 3 = .ok (.bipush 9, 2) := by decide +kernel
theorem dX10_widen_5 : decode cX10_widen 5 = .ok (.if_icmp .ge 109, 3) := by decide +kernel
theorem dX10_widen_8 : decode cX10_widen 8 = .ok (.aload_n 0, 1) := by decide +kernel
theorem dX10_widen_9 : decode cX10_widen 9 = .ok (.getfield 75, 3) := by decide +kernel
theorem dX10_widen_12 : decode cX10_widen 12 = .ok (.sipush 256, 3) := by decide +kernel
theorem dX10_widen_15 : decode cX10_widen 15 = .ok (.if_icmp .ge 99, 3) := by decide +kernel
theorem dX10_widen_18 : decode cX10_widen 18 = .ok (.aload_n 0, 1) := by decide +kernel
theorem dX10_widen_19 : decode cX10_widen 19 = .ok (.getfield 78, 3) := by decide +kernel
theorem dX10_widen_22 : decode cX10_widen 22 = .ok (.sipush 256, 3) := by decide +kernel
theorem dX10_widen_25 : decode cX10_widen 25 = .ok (.if_icmp .ge 11, 3) := by decide +kernel
theorem dX10_widen_28 : decode cX10_widen 28 = .ok (.aload_n 0, 1) := by decide +kernel
theorem dX10_widen_29 : decode cX10_widen 29 = .ok (.iconst 0, 1) := by decide +kernel
theorem dX10_widen_30 : decode cX10_widen 30 = .ok (.invokevirtual 50, 3) := by decide +kernel
theorem dX10_widen_33 : decode cX10_widen 33 = .ok (.goto 55, 3) := by decide +kernel
theorem dX10_widen_36 : decode cX10_widen 36 = .ok (.aload_n 0, 1) := by decide +kernel
theorem dX10_widen_37 : decode cX10_widen 37 = .ok (.getfield 78, 3) := by decide +kernel
theorem dX10_widen_40 : decode cX10_widen 40 = .ok (.sipush 512, 3) := by decide +kernel
theorem dX10_widen_43 : decode cX10_widen 43 = .ok (.if_icmp .lt 23, 3) := by decide +kernel
theorem dX10_widen_46 : decode cX10_widen 46 = .ok (.aload_n 0, 1) := by decide +kernel
theorem dX10_widen_47 : decode cX10_widen 47 = .ok (.iconst 1, 1) := by decide +kernel
theorem dX10_widen_48 : decode cX10_widen 48 = .ok (.invokevirtual 50, 3) := by decide +kernel
theorem dX10_widen_51 : decode cX10_widen 51 = .ok (.aload_n 0, 1) := by decide +kernel
theorem dX10_widen_52 : decode cX10_widen 52 = .ok (.dup, 1) := by decide +kernel
theorem dX10_widen_53 : decode cX10_widen 53 = .ok (.getfield 78, 3) := by decide +kernel
theorem dX10_widen_56 : decode cX10_widen 56 = .ok (.sipush 512, 3) := by decide +kernel
theorem dX10_widen_59 : decode cX10_widen 59 = .ok (.isub, 1) := by decide +kernel
theorem dX10_widen_60 : decode cX10_widen 60 = .ok (.putfield 78, 3) := by decide +kernel
theorem dX10_widen_63 : decode cX10_widen 63 = .ok (.goto 25, 3) := by decide +kernel
theorem dX10_widen_66 : decode cX10_widen 66 = .ok (.aload_n 0, 1) := by decide +kernel
theorem dX10_widen_67 : decode cX10_widen 67 = .ok (.dup, 1) := by decide +kernel
theorem dX10_widen_68 : decode cX10_widen 68 = .ok (.getfield 37, 3) := by decide +kernel
theorem dX10_widen_71 : decode cX10_widen 71 = .ok (.iconst 1, 1) := by decide +kernel
theorem dX10_widen_72 : decode cX10_widen 72 = .ok (.iadd, 1) := by decide +kernel
theorem dX10_widen_73 : decode cX10_widen 73 = .ok (.putfield 37, 3) := by decide +kernel
theorem dX10_widen_76 : decode cX10_widen 76 = .ok (.aload_n 0, 1) := by decide +kernel
theorem dX10_widen_77 : decode cX10_widen 77 = .ok (.dup, 1) := by decide +kernel
theorem dX10_widen_78 : decode cX10_widen 78 = .ok (.getfield 78, 3) := by decide +kernel
theorem dX10_widen_81 : decode cX10_widen 81 = .ok (.sipush 256, 3) := by decide +kernel
theorem dX10_widen_84 : decode cX10_widen 84 = .ok (.isub, 1) := by decide +kernel
theorem dX10_widen_85 : decode cX10_widen 85 = .ok (.putfield 78, 3) := by decide +kernel
theorem dX10_widen_88 : decode cX10_widen 88 = .ok (.aload_n 0, 1) := by decide +kernel
theorem dX10_widen_89 : decode cX10_widen 89 = .ok (.dup, 1) := by decide +kernel
theorem dX10_widen_90 : decode cX10_widen 90 = .ok (.getfield 75, 3) := by decide +kernel
theorem dX10_widen_93 : decode cX10_widen 93 = .ok (.iconst 1, 1) := by decide +kernel
theorem dX10_widen_94 : decode cX10_widen 94 = .ok (.ishl, 1) := by decide +kernel
theorem dX10_widen_95 : decode cX10_widen 95 = .ok (.putfield 75, 3) := by decide +kernel
theorem dX10_widen_98 : decode cX10_widen 98 = .ok (.aload_n 0, 1) := by decide +kernel
theorem dX10_widen_99 : decode cX10_widen 99 = .ok (.dup, 1) := by decide +kernel
theorem dX10_widen_100 : decode cX10_widen 100 = .ok (.getfield 78, 3) := by decide +kernel
theorem dX10_widen_103 : decode cX10_widen 103 = .ok (.iconst 1, 1) := by decide +kernel
theorem dX10_widen_104 : decode cX10_widen 104 = .ok (.ishl, 1) := by decide +kernel
theorem dX10_widen_105 : decode cX10_widen 105 = .ok (.putfield 78, 3) := by decide +kernel
theorem dX10_widen_108 : decode cX10_widen 108 = .ok (.iinc 1 1, 3) := by decide +kernel
theorem dX10_widen_111 : decode cX10_widen 111 = .ok (.goto (-109), 3) := by decide +kernel
theorem dX10_widen_114 : decode cX10_widen 114 = .ok (.return_, 1) := by decide +kernel
noncomputable def FX10_widen (G : GG) (M : DD) (a : Nat)  : Option (NN × DD) :=
  bnd (itrA (fun (s2 : NN × Int32 × DD) => ((if ((9 : Int32)) ≤ s2.2.1 then (some ([], .inr ((s2.2.1, s2.2.2)))) else
  (ltt (s2.2.2.1 a 10) fun x12 =>
  if ((256 : Int32)) ≤ x12 then (some ([], .inr ((s2.2.1, s2.2.2)))) else
  (ltt (s2.2.2.1 a 9) fun x14 =>
  bnd (if ((256 : Int32)) ≤ x14 then (ltt (s2.2.2.1 a 9) fun x28 =>
  bnd (if x28 < ((512 : Int32)) then (ltt (s2.2.2.1 a 11) fun x35 =>
  ltt ((x35 + ((1 : Int32)))) fun x36 =>
  ltt (uI s2.2.2 a 11 x36) fun M37 =>
  ltt (M37.1 a 9) fun x38 =>
  ltt ((x38 - ((256 : Int32)))) fun x39 =>
  ltt (uI M37 a 9 x39) fun M40 =>
  some ([], M40)) else
  (bnd (FX10_put (xt G s2.1) s2.2.2 a ((1 : Int32))) fun y41 =>
  app y41.1 <|
  ltt (s2.1 ++ y41.1) fun L43 =>
  ltt (y41.2.1 a 9) fun x46 =>
  ltt ((x46 - ((512 : Int32)))) fun x47 =>
  ltt (uI y41.2 a 9 x47) fun M48 =>
  some ([], M48))) fun (y29 : NN × DD) =>
  app y29.1 <|
  ltt (s2.1 ++ y29.1) fun L31 =>
  some ([], y29.2)) else
  (bnd (FX10_put (xt G s2.1) s2.2.2 a ((0 : Int32))) fun y49 =>
  app y49.1 <|
  ltt (s2.1 ++ y49.1) fun L51 =>
  some ([], y49.2))) fun (y15 : NN × DD) =>
  app y15.1 <|
  ltt (s2.1 ++ y15.1) fun L17 =>
  ltt (y15.2.1 a 10) fun x19 =>
  ltt ((x19 <<< (((1 : Int32)) &&& 31))) fun x20 =>
  ltt (uI y15.2 a 10 x20) fun M21 =>
  ltt (M21.1 a 9) fun x22 =>
  ltt ((x22 <<< (((1 : Int32)) &&& 31))) fun x23 =>
  ltt (uI M21 a 9 x23) fun M24 =>
  ltt (s2.2.1 + (1 : Int32)) fun x25 =>
  some ([], .inl (L17, (x25, M24)))))) : Option (NN × ((NN × Int32 × DD) ⊕ (Int32 × DD))))) 1000000 ([], ((0 : Int32), M))) fun (y1 : NN × Int32 × DD) =>
  app y1.1 <|
  ltt ([] ++ y1.1) fun L4 =>
  some ([], y1.2.2)
set_option maxHeartbeats 4000000 in
set_option maxRecDepth 100000 in
theorem kX10_widen (l : Launch) (D : va_G) (ct : CT) (ad : Nat → Nat) (Z : Nat → Nat) (G : GG) (M : DD) (sz : Nat) (a : Nat)  (y : NN × DD) (hc : a < G.1) (hk : G.2.1 a = 10) (hF : FX10_widen G M a  = some y) : Met l yX10_widen wuX10_widen ({ frames := 3, cells := y.1.length, slots := wt y.1, locals := 124 }) (va_Pc [.ref (ad a)] (kB D ct ad Z G M sz)) (va_Qv (fun (u : Nat → Nat) => agr G.1 ad u) (fun u t => kE D ct u (xt G y.1) (wA ad G sz) y.2 t) (wA ad G sz)) y.1.length (wt y.1) (wA ad G sz) := by
  refine Met.ofW (cc := cX10_widen) (maxL := 2) (ret := none) (by decide) rfl ?_
  intro p e s m args below meth c s₁ B hml hv
  obtain ⟨rfl, hsz, hP, hK, hD0, hZ, hN⟩ := hv
  have hx := B.exec
  have hb := B.bytes
  have hr := B.returns
  have hts := atoms_spec (ws := wuX10_widen) B.pre
  have hown : s.vm.findClass RX10 = some m.cls := findClass_of_methodNamed B.named
  have hlocks := B.notSynchronized
  subst hsz
  have hD := wD_self (sz := s.heap.size) hD0
  have hA9 : ∀ q, s.heap.size ≤ q → wA ad G s.heap.size q := fun q h => Or.inr h
  generalize hAe : wA ad G s.heap.size = A at hD hA9 hZ ⊢
  have hS : va_S A s.heap s.heap [] := va_S.rf
  have hl := lv_entry ([.ref (ad a)]) (n := 2) (Nat.le_of_ble_eq_true rfl)
  rw [lg_entry_eq]
  generalize (lg_sl ([.ref (ad a)]) ++ List.replicate (2 - (lg_sl ([.ref (ad a)])).length) Slot.unset).toArray = ls at hl ⊢
  have hl : lv_has ls 2 [(0, .ref (ad a))] := hl
  unfold FX10_widen at hF
  rw [← wld_0 ct ad G M] at hP hD
  have hk := xt_k0 hc hk
  have hc := xt_l0 hc
  have hag := agr_rf G.1 ad
  obtain ⟨w0, hw0⟩ : ∃ z, z = y := ⟨_, rfl⟩
  rw [← hw0] at hF
  have hT : y.1 = [] ++ w0.1 := by rw [hw0]; rfl
  have h2 : y.2 = w0.2 := by rw [hw0]
  have hbl : y.1.length ≤ y.1.length ∧ wt y.1 ≤ wt y.1 := ⟨Nat.le_refl _, Nat.le_refl _⟩
  refine lv_iconst (v := (0 : Int32)) hx hb dX10_widen_0 (by decide) ?_
  refine lv_istore_n (lv' := [(1, .int (0 : Int32)), (0, .ref (ad a))]) hx hb dX10_widen_1 rfl hl (by decide) rfl (fun ls hl => ?_)
  obtain ⟨y1, hy1, hF⟩ := bnd_some hF
  obtain ⟨w3, hF, ew3⟩ := app_some hF
  obtain ⟨L4, eL4, hF⟩ := ltt_some hF
  have hT4 : y.1 = ([] ++ y1.1) ++ w3.1 := by rw [hT, ew3]; simp only [List.append_assoc]
  have hbl4 : L4.length ≤ y.1.length ∧ wt L4 ≤ wt y.1 := by rw [eL4]; exact room_d hT4 hbl
  have K1 : ∀ (ad5 : Nat → Nat), agr G.1 ad ad5 → ∀ (H : Heap) (locs : List Loc) (ls : Array Slot), va_P D classes (wld ct ad5 (xt G L4) y1.2.2) H → va_D A (wld ct ad5 (xt G L4) y1.2.2) → va_S A s.heap H locs → lv_has ls 2 [] → W p l e (headSpec wuX10_widen ({ frames := 3, cells := y.1.length, slots := wt y.1, locals := 124 })).room s m ([.ref (ad a)] : List Value).toArray below meth c H locs (L4 : NN).length (wt L4) (MQ below (va_Qv (fun (u : Nat → Nat) => agr G.1 ad u) (fun u t => kE D ct u (xt G y.1) A y.2 t) A) ([.ref (ad a)] : List Value).toArray s y.1.length (wt y.1) A) (F0 m 114 ls []) := by
    intro ad5 hag H locs ls hP hD hS hl
    have hT : y.1 = L4 ++ w3.1 := by rw [hT4, eL4]
    have h2 : y.2 = w3.2 := by rw [h2, ew3]
    have hk : (xt G L4).2.1 a = 10 := by rw [eL4]; exact xt_k _ hc hk
    have hc : a < (xt G L4).1 := by rw [eL4]; exact xt_l _ hc
    obtain rfl := Option.some.inj hF
    have e1 : y.1 = L4 := by rw [hT]; exact List.append_nil _
    have e2 : y.2 = y1.2.2 := h2
    refine W.widen (k := y.1.length) (n := wt y.1) (Nat.le_of_eq (by rw [e1])) (Nat.le_of_eq (by rw [e1])) ?_
    exact W.vret hx hb hr (fun t ht hW => ⟨⟨ad5, rfl, hag, (by unfold kE; rw [e1, e2]; exact ⟨by rw [ht]; exact hP, va_K.moved hW.alike hK, hD⟩)⟩, hS.F ht⟩) hS.2.2 dX10_widen_114
  clear hF
  refine itrA_rule (fun (s2 : NN × Int32 × DD) (r7 : NN) => (∃ t, s2.1 = [] ++ t) → L4 = s2.1 ++ r7 → ∀ (ad6 : Nat → Nat), agr G.1 ad ad6 → ∀ (H : Heap) (locs : List Loc) (ls : Array Slot), va_P D classes (wld ct ad6 (xt G s2.1) s2.2.2) H → va_D A (wld ct ad6 (xt G s2.1) s2.2.2) → va_S A s.heap H locs → lv_has ls 2 [(1, .int s2.2.1), (0, .ref (ad6 a))] → W p l e (headSpec wuX10_widen ({ frames := 3, cells := y.1.length, slots := wt y.1, locals := 124 })).room s m ([.ref (ad a)] : List Value).toArray below meth c H locs (s2.1 : NN).length (wt s2.1) (MQ below (va_Qv (fun (u : Nat → Nat) => agr G.1 ad u) (fun u t => kE D ct u (xt G y.1) A y.2 t) A) ([.ref (ad a)] : List Value).toArray s y.1.length (wt y.1) A) (F0 m 2 ls [])) ?_ _ _ _ hy1 ⟨[], (List.append_nil _).symm⟩ eL4 _ hag _ _ _ hP hD hS (lv_sub hl [0, 1] rfl)
  rintro s2 r7 ⟨z8, hF, ⟨t1, et1⟩, hwz8⟩ ⟨u1, eu1⟩ eq1 ad6 hag H locs ls hP hD hS hl
  try dsimp only at hF
  obtain ⟨L9, eL9⟩ : ∃ x, x = s2.1 ++ z8.1 := ⟨_, rfl⟩
  obtain ⟨w10, hw10⟩ : ∃ x, x = z8 := ⟨_, rfl⟩
  rw [← hw10] at hF
  have hbl : L9.length ≤ y.1.length ∧ wt L9 ≤ wt y.1 := room_d (show L4 = L9 ++ t1 by rw [eq1, et1, eL9]; simp only [List.append_assoc]) hbl4
  have hT : L9 = s2.1 ++ w10.1 := by rw [eL9, hw10]
  have h2 : z8.2 = w10.2 := by rw [hw10]
  have hk : (xt G s2.1).2.1 a = 10 := by rw [eu1]; exact xt_k _ hc hk
  have hc : a < (xt G s2.1).1 := by rw [eu1]; exact xt_l _ hc
  refine lv_iload_n hx hb dX10_widen_2 rfl (lv_at hl 0 rfl) ?_
  refine lv_bipush (v := (9 : Int32)) hx hb dX10_widen_3 (by decide) ?_
  refine lv_icmp_ge (tgt := 114) hx hb dX10_widen_5 (by decide) (fun c11 => ?_) (fun c11 => ?_)
  · rw [if_pos c11] at hF
    obtain rfl := Option.some.inj hF
    have e1 : L9 = s2.1 := by rw [hT]; exact List.append_nil _
    have e2 : z8.2 = .inr ((s2.2.1, s2.2.2)) := h2
    rw [e2] at hwz8
    obtain ⟨hw1, hw2⟩ := hwz8
    have e8 : L4 = s2.1 := by rw [eq1, hw2, ← eL9, e1]
    rw [e8] at K1
    try rw [← hw1] at K1
    exact K1 _ hag _ _ _ hP hD hS (lv_sub hl [] rfl)
  · rw [if_neg c11] at hF
    refine lv_aload_n hx hb dX10_widen_8 rfl (lv_at hl 1 rfl) ?_
    refine va_get (D := D) (ci := 10) (v := .int (s2.2.2.1 a 10)) (C := RX10) (T := TX10) (N := 20) hx hb hts (mus hf_X10) hown hK hP a (wld_o ct ad6 (xt G s2.1) s2.2.2 hc hk (by decide)) rfl 10 (by decide) (hts (.fieldLink RX10 75 "VideoSuite$Writer" "range" "I") (mu mw_749)) (fun _ h9 => h9) rfl dX10_widen_9 ?_
    obtain ⟨x12, ex12, hF⟩ := ltt_some hF
    refine lv_topi (fun zx12 ezx12 => ?_)
    obtain rfl : x12 = zx12 := ex12.trans ezx12.symm
    refine lv_sipush (v := (256 : Int32)) hx hb dX10_widen_12 (by decide) ?_
    refine lv_icmp_ge (tgt := 114) hx hb dX10_widen_15 (by decide) (fun c13 => ?_) (fun c13 => ?_)
    · rw [if_pos c13] at hF
      obtain rfl := Option.some.inj hF
      have e1 : L9 = s2.1 := by rw [hT]; exact List.append_nil _
      have e2 : z8.2 = .inr ((s2.2.1, s2.2.2)) := h2
      rw [e2] at hwz8
      obtain ⟨hw1, hw2⟩ := hwz8
      have e8 : L4 = s2.1 := by rw [eq1, hw2, ← eL9, e1]
      rw [e8] at K1
      try rw [← hw1] at K1
      exact K1 _ hag _ _ _ hP hD hS (lv_sub hl [] rfl)
    · rw [if_neg c13] at hF
      refine lv_aload_n hx hb dX10_widen_18 rfl (lv_at hl 1 rfl) ?_
      refine va_get (D := D) (ci := 10) (v := .int (s2.2.2.1 a 9)) (C := RX10) (T := TX10) (N := 20) hx hb hts (mus hf_X10) hown hK hP a (wld_o ct ad6 (xt G s2.1) s2.2.2 hc hk (by decide)) rfl 9 (by decide) (hts (.fieldLink RX10 78 "VideoSuite$Writer" "low" "I") (mu mw_748)) (fun _ h9 => h9) rfl dX10_widen_19 ?_
      obtain ⟨x14, ex14, hF⟩ := ltt_some hF
      refine lv_topi (fun zx14 ezx14 => ?_)
      obtain rfl : x14 = zx14 := ex14.trans ezx14.symm
      refine lv_sipush (v := (256 : Int32)) hx hb dX10_widen_22 (by decide) ?_
      obtain ⟨y15, hy15, hF⟩ := bnd_some hF
      obtain ⟨w16, hF, ew16⟩ := app_some hF
      obtain ⟨L17, eL17, hF⟩ := ltt_some hF
      have hT17 : L9 = (s2.1 ++ y15.1) ++ w16.1 := by rw [hT, ew16]; simp only [List.append_assoc]
      have hbl17 : L17.length ≤ y.1.length ∧ wt L17 ≤ wt y.1 := by rw [eL17]; exact room_d hT17 hbl
      have J15 : ∀ (ad18 : Nat → Nat), agr G.1 ad ad18 → ∀ (H : Heap) (locs : List Loc) (ls : Array Slot), va_P D classes (wld ct ad18 (xt G L17) y15.2) H → va_D A (wld ct ad18 (xt G L17) y15.2) → va_S A s.heap H locs → lv_has ls 2 [(1, .int s2.2.1), (0, .ref (ad18 a))] → W p l e (headSpec wuX10_widen ({ frames := 3, cells := y.1.length, slots := wt y.1, locals := 124 })).room s m ([.ref (ad a)] : List Value).toArray below meth c H locs (L17 : NN).length (wt L17) (MQ below (va_Qv (fun (u : Nat → Nat) => agr G.1 ad u) (fun u t => kE D ct u (xt G y.1) A y.2 t) A) ([.ref (ad a)] : List Value).toArray s y.1.length (wt y.1) A) (F0 m 88 ls []) := by
        intro ad18 hag H locs ls hP hD hS hl
        have hT : L9 = L17 ++ w16.1 := by rw [hT17, eL17]
        have h2 : z8.2 = w16.2 := by rw [h2, ew16]
        have hk : (xt G L17).2.1 a = 10 := by rw [eL17]; exact xt_k _ hc hk
        have hc : a < (xt G L17).1 := by rw [eL17]; exact xt_l _ hc
        refine lv_aload_n hx hb dX10_widen_88 rfl (lv_at hl 1 rfl) ?_
        refine lv_dup hx hb dX10_widen_89 rfl ?_
        refine va_get (D := D) (ci := 10) (v := .int (y15.2.1 a 10)) (C := RX10) (T := TX10) (N := 20) hx hb hts (mus hf_X10) hown hK hP a (wld_o ct ad18 (xt G L17) y15.2 hc hk (by decide)) rfl 10 (by decide) (hts (.fieldLink RX10 75 "VideoSuite$Writer" "range" "I") (mu mw_749)) (fun _ h9 => h9) rfl dX10_widen_90 ?_
        obtain ⟨x19, ex19, hF⟩ := ltt_some hF
        refine lv_topi (fun zx19 ezx19 => ?_)
        obtain rfl : x19 = zx19 := ex19.trans ezx19.symm
        refine lv_iconst (v := (1 : Int32)) hx hb dX10_widen_93 (by decide) ?_
        refine lv_ishl hx hb dX10_widen_94 ?_
        obtain ⟨x20, ex20, hF⟩ := ltt_some hF
        refine lv_topi (fun zx20 ezx20 => ?_)
        obtain rfl : x20 = zx20 := ex20.trans ezx20.symm
        refine va_put (D := D) (ci := 10) (v := .int x20) (ty := .int) (C := RX10) (T := TX10) (N := 20) hx hb hts (mus hf_X10) tyX10 tyX10_ok nmX10 hown hK hP hD hS a (wld_o ct ad18 (xt G L17) y15.2 hc hk (by decide)) rfl 10 (by decide) (hts (.fieldLink RX10 75 "VideoSuite$Writer" "range" "I") (mu mw_749)) (fun _ h9 => h9) rfl (by decide +kernel) rfl rfl (Nat.le_of_ble_eq_true rfl) dX10_widen_95 (fun H locs hP hD hS => ?_)
        obtain ⟨M21, eM21, hF⟩ := ltt_some hF
        rw [set_oI ct ad18 (xt G L17) y15.2 hc hk (by decide) (by rfl), ← eM21] at hP hD
        refine lv_aload_n hx hb dX10_widen_98 rfl (lv_at hl 1 rfl) ?_
        refine lv_dup hx hb dX10_widen_99 rfl ?_
        refine va_get (D := D) (ci := 10) (v := .int (M21.1 a 9)) (C := RX10) (T := TX10) (N := 20) hx hb hts (mus hf_X10) hown hK hP a (wld_o ct ad18 (xt G L17) M21 hc hk (by decide)) rfl 9 (by decide) (hts (.fieldLink RX10 78 "VideoSuite$Writer" "low" "I") (mu mw_748)) (fun _ h9 => h9) rfl dX10_widen_100 ?_
        obtain ⟨x22, ex22, hF⟩ := ltt_some hF
        refine lv_topi (fun zx22 ezx22 => ?_)
        obtain rfl : x22 = zx22 := ex22.trans ezx22.symm
        refine lv_iconst (v := (1 : Int32)) hx hb dX10_widen_103 (by decide) ?_
        refine lv_ishl hx hb dX10_widen_104 ?_
        obtain ⟨x23, ex23, hF⟩ := ltt_some hF
        refine lv_topi (fun zx23 ezx23 => ?_)
        obtain rfl : x23 = zx23 := ex23.trans ezx23.symm
        refine va_put (D := D) (ci := 10) (v := .int x23) (ty := .int) (C := RX10) (T := TX10) (N := 20) hx hb hts (mus hf_X10) tyX10 tyX10_ok nmX10 hown hK hP hD hS a (wld_o ct ad18 (xt G L17) M21 hc hk (by decide)) rfl 9 (by decide) (hts (.fieldLink RX10 78 "VideoSuite$Writer" "low" "I") (mu mw_748)) (fun _ h9 => h9) rfl (by decide +kernel) rfl rfl (Nat.le_of_ble_eq_true rfl) dX10_widen_105 (fun H locs hP hD hS => ?_)
        obtain ⟨M24, eM24, hF⟩ := ltt_some hF
        rw [set_oI ct ad18 (xt G L17) M21 hc hk (by decide) (by rfl), ← eM24] at hP hD
        obtain ⟨x25, ex25, hF⟩ := ltt_some hF
        refine lv_iinc (v := x25) (lv' := [(1, .int x25), (0, .ref (ad18 a))]) hx hb dX10_widen_108 hl (k := 0) rfl (by rw [ex25]; rfl) (by decide) rfl (fun ls hl => ?_)
        refine lv_goto (tgt := 2) hx hb dX10_widen_111 (by decide) ?_
        obtain rfl := Option.some.inj hF
        have e1 : L9 = L17 := by rw [hT]; exact List.append_nil _
        have e2 : z8.2 = .inl (L17, (x25, M24)) := h2
        rw [e2] at hwz8
        obtain ⟨r2, er2, hwz8⟩ := hwz8
        exact hwz8 ⟨u1 ++ z8.1, by show L17 = _; rw [← e1, eL9, eu1]; simp only [List.append_assoc]⟩ (by show L4 = L17 ++ r2; rw [eq1, er2, ← e1, eL9]; simp only [List.append_assoc]) _ hag _ _ _ hP hD hS (lv_sub hl [0, 1] rfl)
      clear hF
      obtain ⟨w26, hw26⟩ : ∃ z, z = y15 := ⟨_, rfl⟩
      have hF := hy15
      rw [← hw26] at hF
      clear hy15
      have hT : L17 = s2.1 ++ w26.1 := by rw [eL17, hw26]
      have h2 : y15.2 = w26.2 := by rw [hw26]
      have hbl := hbl17
      refine lv_icmp_ge (tgt := 36) hx hb dX10_widen_25 (by decide) (fun c27 => ?_) (fun c27 => ?_)
      · rw [if_pos c27] at hF
        refine lv_aload_n hx hb dX10_widen_36 rfl (lv_at hl 1 rfl) ?_
        refine va_get (D := D) (ci := 10) (v := .int (s2.2.2.1 a 9)) (C := RX10) (T := TX10) (N := 20) hx hb hts (mus hf_X10) hown hK hP a (wld_o ct ad6 (xt G s2.1) s2.2.2 hc hk (by decide)) rfl 9 (by decide) (hts (.fieldLink RX10 78 "VideoSuite$Writer" "low" "I") (mu mw_748)) (fun _ h9 => h9) rfl dX10_widen_37 ?_
        obtain ⟨x28, ex28, hF⟩ := ltt_some hF
        refine lv_topi (fun zx28 ezx28 => ?_)
        obtain rfl : x28 = zx28 := ex28.trans ezx28.symm
        refine lv_sipush (v := (512 : Int32)) hx hb dX10_widen_40 (by decide) ?_
        obtain ⟨y29, hy29, hF⟩ := bnd_some hF
        obtain ⟨w30, hF, ew30⟩ := app_some hF
        obtain ⟨L31, eL31, hF⟩ := ltt_some hF
        have hT31 : L17 = (s2.1 ++ y29.1) ++ w30.1 := by rw [hT, ew30]; simp only [List.append_assoc]
        have hbl31 : L31.length ≤ y.1.length ∧ wt L31 ≤ wt y.1 := by rw [eL31]; exact room_d hT31 hbl
        have J29 : ∀ (ad32 : Nat → Nat), agr G.1 ad ad32 → ∀ (H : Heap) (locs : List Loc) (ls : Array Slot), va_P D classes (wld ct ad32 (xt G L31) y29.2) H → va_D A (wld ct ad32 (xt G L31) y29.2) → va_S A s.heap H locs → lv_has ls 2 [(1, .int s2.2.1), (0, .ref (ad32 a))] → W p l e (headSpec wuX10_widen ({ frames := 3, cells := y.1.length, slots := wt y.1, locals := 124 })).room s m ([.ref (ad a)] : List Value).toArray below meth c H locs (L31 : NN).length (wt L31) (MQ below (va_Qv (fun (u : Nat → Nat) => agr G.1 ad u) (fun u t => kE D ct u (xt G y.1) A y.2 t) A) ([.ref (ad a)] : List Value).toArray s y.1.length (wt y.1) A) (F0 m 88 ls []) := by
          intro ad32 hag H locs ls hP hD hS hl
          have hT : L17 = L31 ++ w30.1 := by rw [hT31, eL31]
          have h2 : y15.2 = w30.2 := by rw [h2, ew30]
          have hk : (xt G L31).2.1 a = 10 := by rw [eL31]; exact xt_k _ hc hk
          have hc : a < (xt G L31).1 := by rw [eL31]; exact xt_l _ hc
          obtain rfl := Option.some.inj hF
          have e1 : L17 = L31 := by rw [hT]; exact List.append_nil _
          have e2 : y15.2 = y29.2 := h2
          rw [e1] at J15
          try rw [e2] at J15
          exact J15 _ hag _ _ _ hP hD hS (lv_sub hl [0, 1] rfl)
        clear hF
        obtain ⟨w33, hw33⟩ : ∃ z, z = y29 := ⟨_, rfl⟩
        have hF := hy29
        rw [← hw33] at hF
        clear hy29
        have hT : L31 = s2.1 ++ w33.1 := by rw [eL31, hw33]
        have h2 : y29.2 = w33.2 := by rw [hw33]
        have hbl := hbl31
        refine lv_icmp_lt (tgt := 66) hx hb dX10_widen_43 (by decide) (fun c34 => ?_) (fun c34 => ?_)
        · rw [if_pos c34] at hF
          refine lv_aload_n hx hb dX10_widen_66 rfl (lv_at hl 1 rfl) ?_
          refine lv_dup hx hb dX10_widen_67 rfl ?_
          refine va_get (D := D) (ci := 10) (v := .int (s2.2.2.1 a 11)) (C := RX10) (T := TX10) (N := 20) hx hb hts (mus hf_X10) hown hK hP a (wld_o ct ad6 (xt G s2.1) s2.2.2 hc hk (by decide)) rfl 11 (by decide) (hts (.fieldLink RX10 37 "VideoSuite$Writer" "owed" "I") (mu mw_750)) (fun _ h9 => h9) rfl dX10_widen_68 ?_
          obtain ⟨x35, ex35, hF⟩ := ltt_some hF
          refine lv_topi (fun zx35 ezx35 => ?_)
          obtain rfl : x35 = zx35 := ex35.trans ezx35.symm
          refine lv_iconst (v := (1 : Int32)) hx hb dX10_widen_71 (by decide) ?_
          refine lv_iadd hx hb dX10_widen_72 ?_
          obtain ⟨x36, ex36, hF⟩ := ltt_some hF
          refine lv_topi (fun zx36 ezx36 => ?_)
          obtain rfl : x36 = zx36 := ex36.trans ezx36.symm
          refine va_put (D := D) (ci := 10) (v := .int x36) (ty := .int) (C := RX10) (T := TX10) (N := 20) hx hb hts (mus hf_X10) tyX10 tyX10_ok nmX10 hown hK hP hD hS a (wld_o ct ad6 (xt G s2.1) s2.2.2 hc hk (by decide)) rfl 11 (by decide) (hts (.fieldLink RX10 37 "VideoSuite$Writer" "owed" "I") (mu mw_750)) (fun _ h9 => h9) rfl (by decide +kernel) rfl rfl (Nat.le_of_ble_eq_true rfl) dX10_widen_73 (fun H locs hP hD hS => ?_)
          obtain ⟨M37, eM37, hF⟩ := ltt_some hF
          rw [set_oI ct ad6 (xt G s2.1) s2.2.2 hc hk (by decide) (by rfl), ← eM37] at hP hD
          refine lv_aload_n hx hb dX10_widen_76 rfl (lv_at hl 1 rfl) ?_
          refine lv_dup hx hb dX10_widen_77 rfl ?_
          refine va_get (D := D) (ci := 10) (v := .int (M37.1 a 9)) (C := RX10) (T := TX10) (N := 20) hx hb hts (mus hf_X10) hown hK hP a (wld_o ct ad6 (xt G s2.1) M37 hc hk (by decide)) rfl 9 (by decide) (hts (.fieldLink RX10 78 "VideoSuite$Writer" "low" "I") (mu mw_748)) (fun _ h9 => h9) rfl dX10_widen_78 ?_
          obtain ⟨x38, ex38, hF⟩ := ltt_some hF
          refine lv_topi (fun zx38 ezx38 => ?_)
          obtain rfl : x38 = zx38 := ex38.trans ezx38.symm
          refine lv_sipush (v := (256 : Int32)) hx hb dX10_widen_81 (by decide) ?_
          refine lv_isub hx hb dX10_widen_84 ?_
          obtain ⟨x39, ex39, hF⟩ := ltt_some hF
          refine lv_topi (fun zx39 ezx39 => ?_)
          obtain rfl : x39 = zx39 := ex39.trans ezx39.symm
          refine va_put (D := D) (ci := 10) (v := .int x39) (ty := .int) (C := RX10) (T := TX10) (N := 20) hx hb hts (mus hf_X10) tyX10 tyX10_ok nmX10 hown hK hP hD hS a (wld_o ct ad6 (xt G s2.1) M37 hc hk (by decide)) rfl 9 (by decide) (hts (.fieldLink RX10 78 "VideoSuite$Writer" "low" "I") (mu mw_748)) (fun _ h9 => h9) rfl (by decide +kernel) rfl rfl (Nat.le_of_ble_eq_true rfl) dX10_widen_85 (fun H locs hP hD hS => ?_)
          obtain ⟨M40, eM40, hF⟩ := ltt_some hF
          rw [set_oI ct ad6 (xt G s2.1) M37 hc hk (by decide) (by rfl), ← eM40] at hP hD
          obtain rfl := Option.some.inj hF
          have e1 : L31 = s2.1 := by rw [hT]; exact List.append_nil _
          have e2 : y29.2 = M40 := h2
          rw [e1] at J29
          try rw [e2] at J29
          exact J29 _ hag _ _ _ hP hD hS (lv_sub hl [0, 1] rfl)
        · rw [if_neg c34] at hF
          refine lv_aload_n hx hb dX10_widen_46 rfl (lv_at hl 1 rfl) ?_
          refine lv_iconst (v := (1 : Int32)) hx hb dX10_widen_47 (by decide) ?_
          obtain ⟨y41, hy41, hF⟩ := bnd_some hF
          obtain ⟨w42, hF, ew42⟩ := app_some hF
          obtain ⟨L43, eL43, hF⟩ := ltt_some hF
          have hT43 : L31 = (s2.1 ++ y41.1) ++ w42.1 := by rw [hT, ew42]; simp only [List.append_assoc]
          have hf9 := wA_in hD hA9 hS
          refine va_callv (va_runV (As := [.int (1 : Int32)]) (rest := []) ⟨hx, hb, hml, hown, hts⟩ (kX10_put l D ct ad6 Z (xt G s2.1) s2.2.2 _ a ((1 : Int32)) y41 hc hk hy41) (cwV 1 hts gX10_widen_X10_put rfl rfl rfl (by decide +kernel) ⟨Nat.le_of_ble_eq_true rfl, Nat.le_of_ble_eq_true rfl⟩) ⟨fun a U g mk q => by obtain ⟨q0, q1, qP, qK, qD, qZ, qN⟩ := q; exact ⟨q0, q1, qP, va_K.moved (u := U) (U := U.calling g mk a) (Vm.Alike.refl U.vm) qK, qD, sF.moved (u := U) (U := U.calling g mk a) (Vm.Alike.refl U.vm) qZ, nF.same rfl qN⟩, va_recv hK hP (ci := 10) (q0 := a) rfl (wld_o ct ad6 (xt G s2.1) s2.2.2 hc hk (by decide)), fun U hU hW => ⟨rfl, by rw [hU], by rw [hU]; exact hP, va_K.moved hW.alike hK, hD.weaken (fun _ _ _ _ => trivial), by rw [hU]; exact ((hZ.kept hS.2.1).narrow hf9).moved hW.alike, hN.warm hW⟩⟩ rfl rfl hl.1 rfl (lv_room (Nat.le_of_ble_eq_true rfl)) dX10_widen_48 (room_s hT43 hbl)) hS (fun q _ h => hf9 q h) hf9 (fun ad44 t H locs ht hvm hw hB hz1 hk1 hS => ?_)
          have hn45 := hw
          obtain ⟨hP, hK9, hD9⟩ := hB
          rw [ht] at hP
          have hD := hD9.weaken (fun _ q _ h => hf9 q.1 h)
          rw [xt_xt, ← eL43] at hP hD
          refine W_cs (k := L43.length) (n := wt L43) (by rw [eL43]; exact (len_s s2.1 y41.1).symm) (by rw [eL43]; exact (wt_app s2.1 y41.1).symm) ?_
          have hT : L31 = L43 ++ w42.1 := by rw [hT43, eL43]
          have h2 : y29.2 = w42.2 := by rw [h2, ew42]
          have hl := lv_sub (l' := [(1, .int s2.2.1), (0, .ref (ad6 a))]) hl [0, 1] rfl
          have e9 : ([(1, .int s2.2.1), (0, .ref (ad6 a))] : List (Nat × Value)) = [(1, .int s2.2.1), (0, .ref (ad44 a))] := (by first | rfl | simp only [hn45 a hc])
          rw [e9] at hl
          clear e9
          have hk : (xt G L43).2.1 a = 10 := by rw [eL43]; exact xt_k _ hc hk
          have hc : a < (xt G L43).1 := by rw [eL43]; exact xt_l _ hc
          have hag := agr_t (xt_ge _ _) hag hn45
          refine lv_aload_n hx hb dX10_widen_51 rfl (lv_at hl 1 rfl) ?_
          refine lv_dup hx hb dX10_widen_52 rfl ?_
          refine va_get (D := D) (ci := 10) (v := .int (y41.2.1 a 9)) (C := RX10) (T := TX10) (N := 20) hx hb hts (mus hf_X10) hown hK hP a (wld_o ct ad44 (xt G L43) y41.2 hc hk (by decide)) rfl 9 (by decide) (hts (.fieldLink RX10 78 "VideoSuite$Writer" "low" "I") (mu mw_748)) (fun _ h9 => h9) rfl dX10_widen_53 ?_
          obtain ⟨x46, ex46, hF⟩ := ltt_some hF
          refine lv_topi (fun zx46 ezx46 => ?_)
          obtain rfl : x46 = zx46 := ex46.trans ezx46.symm
          refine lv_sipush (v := (512 : Int32)) hx hb dX10_widen_56 (by decide) ?_
          refine lv_isub hx hb dX10_widen_59 ?_
          obtain ⟨x47, ex47, hF⟩ := ltt_some hF
          refine lv_topi (fun zx47 ezx47 => ?_)
          obtain rfl : x47 = zx47 := ex47.trans ezx47.symm
          refine va_put (D := D) (ci := 10) (v := .int x47) (ty := .int) (C := RX10) (T := TX10) (N := 20) hx hb hts (mus hf_X10) tyX10 tyX10_ok nmX10 hown hK hP hD hS a (wld_o ct ad44 (xt G L43) y41.2 hc hk (by decide)) rfl 9 (by decide) (hts (.fieldLink RX10 78 "VideoSuite$Writer" "low" "I") (mu mw_748)) (fun _ h9 => h9) rfl (by decide +kernel) rfl rfl (Nat.le_of_ble_eq_true rfl) dX10_widen_60 (fun H locs hP hD hS => ?_)
          obtain ⟨M48, eM48, hF⟩ := ltt_some hF
          rw [set_oI ct ad44 (xt G L43) y41.2 hc hk (by decide) (by rfl), ← eM48] at hP hD
          refine lv_goto (tgt := 88) hx hb dX10_widen_63 (by decide) ?_
          obtain rfl := Option.some.inj hF
          have e1 : L31 = L43 := by rw [hT]; exact List.append_nil _
          have e2 : y29.2 = M48 := h2
          rw [e1] at J29
          try rw [e2] at J29
          exact J29 _ hag _ _ _ hP hD hS (lv_sub hl [0, 1] rfl)
      · rw [if_neg c27] at hF
        refine lv_aload_n hx hb dX10_widen_28 rfl (lv_at hl 1 rfl) ?_
        refine lv_iconst (v := (0 : Int32)) hx hb dX10_widen_29 (by decide) ?_
        obtain ⟨y49, hy49, hF⟩ := bnd_some hF
        obtain ⟨w50, hF, ew50⟩ := app_some hF
        obtain ⟨L51, eL51, hF⟩ := ltt_some hF
        have hT51 : L17 = (s2.1 ++ y49.1) ++ w50.1 := by rw [hT, ew50]; simp only [List.append_assoc]
        have hf9 := wA_in hD hA9 hS
        refine va_callv (va_runV (As := [.int (0 : Int32)]) (rest := []) ⟨hx, hb, hml, hown, hts⟩ (kX10_put l D ct ad6 Z (xt G s2.1) s2.2.2 _ a ((0 : Int32)) y49 hc hk hy49) (cwV 1 hts gX10_widen_X10_put rfl rfl rfl (by decide +kernel) ⟨Nat.le_of_ble_eq_true rfl, Nat.le_of_ble_eq_true rfl⟩) ⟨fun a U g mk q => by obtain ⟨q0, q1, qP, qK, qD, qZ, qN⟩ := q; exact ⟨q0, q1, qP, va_K.moved (u := U) (U := U.calling g mk a) (Vm.Alike.refl U.vm) qK, qD, sF.moved (u := U) (U := U.calling g mk a) (Vm.Alike.refl U.vm) qZ, nF.same rfl qN⟩, va_recv hK hP (ci := 10) (q0 := a) rfl (wld_o ct ad6 (xt G s2.1) s2.2.2 hc hk (by decide)), fun U hU hW => ⟨rfl, by rw [hU], by rw [hU]; exact hP, va_K.moved hW.alike hK, hD.weaken (fun _ _ _ _ => trivial), by rw [hU]; exact ((hZ.kept hS.2.1).narrow hf9).moved hW.alike, hN.warm hW⟩⟩ rfl rfl hl.1 rfl (lv_room (Nat.le_of_ble_eq_true rfl)) dX10_widen_30 (room_s hT51 hbl)) hS (fun q _ h => hf9 q h) hf9 (fun ad52 t H locs ht hvm hw hB hz1 hk1 hS => ?_)
        have hn53 := hw
        obtain ⟨hP, hK9, hD9⟩ := hB
        rw [ht] at hP
        have hD := hD9.weaken (fun _ q _ h => hf9 q.1 h)
        rw [xt_xt, ← eL51] at hP hD
        refine W_cs (k := L51.length) (n := wt L51) (by rw [eL51]; exact (len_s s2.1 y49.1).symm) (by rw [eL51]; exact (wt_app s2.1 y49.1).symm) ?_
        have hT : L17 = L51 ++ w50.1 := by rw [hT51, eL51]
        have h2 : y15.2 = w50.2 := by rw [h2, ew50]
        have hl := lv_sub (l' := [(1, .int s2.2.1), (0, .ref (ad6 a))]) hl [0, 1] rfl
        have e9 : ([(1, .int s2.2.1), (0, .ref (ad6 a))] : List (Nat × Value)) = [(1, .int s2.2.1), (0, .ref (ad52 a))] := (by first | rfl | simp only [hn53 a hc])
        rw [e9] at hl
        clear e9
        have hk : (xt G L51).2.1 a = 10 := by rw [eL51]; exact xt_k _ hc hk
        have hc : a < (xt G L51).1 := by rw [eL51]; exact xt_l _ hc
        have hag := agr_t (xt_ge _ _) hag hn53
        refine lv_goto (tgt := 88) hx hb dX10_widen_33 (by decide) ?_
        obtain rfl := Option.some.inj hF
        have e1 : L17 = L51 := by rw [hT]; exact List.append_nil _
        have e2 : y15.2 = y49.2 := h2
        rw [e1] at J15
        try rw [e2] at J15
        exact J15 _ hag _ _ _ hP hD hS (lv_sub hl [0, 1] rfl)
theorem dX11_clamp_0 : decode cX11_clamp 0 = .ok (.iload_n 2, 1) := by decide +kernel
theorem dX11_clamp_1 : decode cX11_clamp 1 = .ok (.iload_n 0, 1) := by decide +kernel
theorem dX11_clamp_2 : decode cX11_clamp 2 = .ok (.if_icmp .ge 7, 3) := by decide +kernel
theorem dX11_clamp_5 : decode cX11_clamp 5 = .ok (.iload_n 0, 1) := by decide +kernel
theorem dX11_clamp_6 : decode cX11_clamp 6 = .ok (.goto 13, 3) := by decide +kernel
theorem dX11_clamp_9 : decode cX11_clamp 9 = .ok (.iload_n 2, 1) := by decide +kernel
theorem dX11_clamp_10 : decode cX11_clamp 10 = .ok (.iload_n 1, 1) := by decide +kernel
theorem dX11_clamp_11 : decode cX11_clamp 11 = .ok (.if_icmp .le 7, 3) := by decide +kernel
theorem dX11_clamp_14 : decode cX11_clamp 14 = .ok (.iload_n 1, 1) := by decide +kernel
theorem dX11_clamp_15 : decode cX11_clamp 15 = .ok (.goto 4, 3) := by decide +kernel
theorem dX11_clamp_18 : decode cX11_clamp 18 = .ok (.iload_n 2, 1) := by decide +kernel
theorem dX11_clamp_19 : decode cX11_clamp 19 = .ok (.ireturn, 1) := by decide +kernel
def FX11_clamp (G : GG) (M : DD) (p0 : Int32) (p1 : Int32) (p2 : Int32) : Option (DD × Int32) :=
  bnd (if p0 ≤ p2 then (bnd (if p2 ≤ p1 then (some (p2)) else
  (some (p1))) fun (y3 : Int32) =>
  some (y3)) else
  (some (p0))) fun (y1 : Int32) =>
  some (M, y1)
set_option maxHeartbeats 4000000 in
set_option maxRecDepth 100000 in
theorem kX11_clamp (l : Launch) (D : va_G) (ct : CT) (ad : Nat → Nat) (Z : Nat → Nat) (G : GG) (M : DD) (sz : Nat) (p0 : Int32) (p1 : Int32) (p2 : Int32) (y : DD × Int32) (hF : FX11_clamp G M p0 p1 p2 = some y) : Met l yX11_clamp wuX11_clamp ({ frames := 0, cells := 0, slots := 0, locals := 0 }) (va_Pc [.int p0, .int p1, .int p2] (kB D ct ad Z G M sz)) (va_Qi (fun (q : Int32) (_ : Unit) => q = y.2) (fun _ t => kE D ct ad G (wA ad G sz) y.1 t) (wA ad G sz)) 0 0 (wA ad G sz) := by
  refine Met.ofW (cc := cX11_clamp) (maxL := 3) (ret := (some .int)) (by decide) rfl ?_
  intro p e s m args below meth c s₁ B hml hv
  obtain ⟨rfl, hsz, hP, hK, hD0, hZ, hN⟩ := hv
  have hx := B.exec
  have hb := B.bytes
  have hr := B.returns
  have hts := atoms_spec (ws := wuX11_clamp) B.pre
  have hown : s.vm.findClass RX11 = some m.cls := findClass_of_methodNamed B.named
  have hlocks := B.notSynchronized
  subst hsz
  have hD := wD_self (sz := s.heap.size) hD0
  have hA9 : ∀ q, s.heap.size ≤ q → wA ad G s.heap.size q := fun q h => Or.inr h
  generalize hAe : wA ad G s.heap.size = A at hD hA9 hZ ⊢
  have hS : va_S A s.heap s.heap [] := va_S.rf
  have hl := lv_entry ([.int p0, .int p1, .int p2]) (n := 3) (Nat.le_of_ble_eq_true rfl)
  rw [lg_entry_eq]
  generalize (lg_sl ([.int p0, .int p1, .int p2]) ++ List.replicate (3 - (lg_sl ([.int p0, .int p1, .int p2])).length) Slot.unset).toArray = ls at hl ⊢
  have hl : lv_has ls 3 [(0, .int p0), (1, .int p1), (2, .int p2)] := hl
  unfold FX11_clamp at hF
  refine lv_iload_n hx hb dX11_clamp_0 rfl (lv_at hl 2 rfl) ?_
  refine lv_iload_n hx hb dX11_clamp_1 rfl (lv_at hl 0 rfl) ?_
  obtain ⟨y1, hy1, hF⟩ := bnd_some hF
  have J1 : ∀ (H : Heap) (locs : List Loc) (ls : Array Slot), va_P D classes (wld ct ad G M) H → va_D A (wld ct ad G M) → va_S A s.heap H locs → lv_has ls 3 [(0, .int p0), (1, .int p1), (2, .int p2)] → W p l e (headSpec wuX11_clamp ({ frames := 0, cells := 0, slots := 0, locals := 0 })).room s m ([.int p0, .int p1, .int p2] : List Value).toArray below meth c H locs 0 0 (MQ below (va_Qi (fun (q : Int32) (_ : Unit) => q = y.2) (fun _ t => kE D ct ad G A y.1 t) A) ([.int p0, .int p1, .int p2] : List Value).toArray s 0 0 A) (F0 m 19 ls [.int y1]) := by
    intro H locs ls hP hD hS hl
    obtain rfl := Option.some.inj hF
    exact W.iret (v := y1) hx hb hr (fun t ht hW => ⟨⟨_, (), rfl, rfl, ⟨by rw [ht]; exact hP, va_K.moved hW.alike hK, hD⟩⟩, hS.F ht⟩) hS.2.2 dX11_clamp_19
  clear hF
  have hF := hy1
  clear hy1
  refine lv_icmp_ge (tgt := 9) hx hb dX11_clamp_2 (by decide) (fun c2 => ?_) (fun c2 => ?_)
  · rw [if_pos c2] at hF
    refine lv_iload_n hx hb dX11_clamp_9 rfl (lv_at hl 2 rfl) ?_
    refine lv_iload_n hx hb dX11_clamp_10 rfl (lv_at hl 1 rfl) ?_
    obtain ⟨y3, hy3, hF⟩ := bnd_some hF
    have J3 : ∀ (H : Heap) (locs : List Loc) (ls : Array Slot), va_P D classes (wld ct ad G M) H → va_D A (wld ct ad G M) → va_S A s.heap H locs → lv_has ls 3 [(0, .int p0), (1, .int p1), (2, .int p2)] → W p l e (headSpec wuX11_clamp ({ frames := 0, cells := 0, slots := 0, locals := 0 })).room s m ([.int p0, .int p1, .int p2] : List Value).toArray below meth c H locs 0 0 (MQ below (va_Qi (fun (q : Int32) (_ : Unit) => q = y.2) (fun _ t => kE D ct ad G A y.1 t) A) ([.int p0, .int p1, .int p2] : List Value).toArray s 0 0 A) (F0 m 19 ls [.int y3]) := by
      intro H locs ls hP hD hS hl
      obtain rfl := Option.some.inj hF
      exact J1 _ _ _ hP hD hS (lv_sub hl [0, 1, 2] rfl)
    clear hF
    have hF := hy3
    clear hy3
    refine lv_icmp_le (tgt := 18) hx hb dX11_clamp_11 (by decide) (fun c4 => ?_) (fun c4 => ?_)
    · rw [if_pos c4] at hF
      refine lv_iload_n hx hb dX11_clamp_18 rfl (lv_at hl 2 rfl) ?_
      obtain rfl := Option.some.inj hF
      exact J3 _ _ _ hP hD hS (lv_sub hl [0, 1, 2] rfl)
    · rw [if_neg c4] at hF
      refine lv_iload_n hx hb dX11_clamp_14 rfl (lv_at hl 1 rfl) ?_
      refine lv_goto (tgt := 19) hx hb dX11_clamp_15 (by decide) ?_
      obtain rfl := Option.some.inj hF
      exact J3 _ _ _ hP hD hS (lv_sub hl [0, 1, 2] rfl)
  · rw [if_neg c2] at hF
    refine lv_iload_n hx hb dX11_clamp_5 rfl (lv_at hl 0 rfl) ?_
    refine lv_goto (tgt := 19) hx hb dX11_clamp_6 (by decide) ?_
    obtain rfl := Option.some.inj hF
    exact J1 _ _ _ hP hD hS (lv_sub hl [0, 1, 2] rfl)
theorem dX11_clip_0 : decode cX11_clip 0 = .ok (.iload_n 0, 1) := by decide +kernel
theorem dX11_clip_1 : decode cX11_clip 1 = .ok (.ifCond .ge 7, 3) := by decide +kernel
theorem dX11_clip_4 : decode cX11_clip 4 = .ok (.iconst 0, 1) := by decide +kernel
theorem dX11_clip_5 : decode cX11_clip 5 = .ok (.goto 17, 3) := by decide +kernel
theorem dX11_clip_8 : decode cX11_clip 8 = .ok (.iload_n 0, 1) := by decide +kernel
theorem dX11_clip_9 : decode cX11_clip 9 = .ok (.sipush 255, 3) := by decide +kernel
theorem dX11_clip_12 : decode cX11_clip 12 = .ok (.if_icmp .le 9, 3) := by decide +kernel
theorem dX11_clip_15 : decode cX11_clip 15 = .ok (.sipush 255, 3) := by decide +kernel
theorem dX11_clip_18 : decode cX11_clip 18 = .ok (.goto 4, 3) := by decide +kernel
theorem dX11_clip_21 : decode cX11_clip 21 = .ok (.iload_n 0, 1) := by decide +kernel
theorem dX11_clip_22 : decode cX11_clip 22 = .ok (.ireturn, 1) := by decide +kernel
def FX11_clip (G : GG) (M : DD) (p0 : Int32) : Option (DD × Int32) :=
  bnd (if ((0 : Int32)) ≤ p0 then (bnd (if p0 ≤ ((255 : Int32)) then (some (p0)) else
  (some ((255 : Int32)))) fun (y3 : Int32) =>
  some (y3)) else
  (some ((0 : Int32)))) fun (y1 : Int32) =>
  some (M, y1)
set_option maxHeartbeats 4000000 in
set_option maxRecDepth 100000 in
theorem kX11_clip (l : Launch) (D : va_G) (ct : CT) (ad : Nat → Nat) (Z : Nat → Nat) (G : GG) (M : DD) (sz : Nat) (p0 : Int32) (y : DD × Int32) (hF : FX11_clip G M p0 = some y) : Met l yX11_clip wuX11_clip ({ frames := 0, cells := 0, slots := 0, locals := 0 }) (va_Pc [.int p0] (kB D ct ad Z G M sz)) (va_Qi (fun (q : Int32) (_ : Unit) => q = y.2) (fun _ t => kE D ct ad G (wA ad G sz) y.1 t) (wA ad G sz)) 0 0 (wA ad G sz) := by
  refine Met.ofW (cc := cX11_clip) (maxL := 1) (ret := (some .int)) (by decide) rfl ?_
  intro p e s m args below meth c s₁ B hml hv
  obtain ⟨rfl, hsz, hP, hK, hD0, hZ, hN⟩ := hv
  have hx := B.exec
  have hb := B.bytes
  have hr := B.returns
  have hts := atoms_spec (ws := wuX11_clip) B.pre
  have hown : s.vm.findClass RX11 = some m.cls := findClass_of_methodNamed B.named
  have hlocks := B.notSynchronized
  subst hsz
  have hD := wD_self (sz := s.heap.size) hD0
  have hA9 : ∀ q, s.heap.size ≤ q → wA ad G s.heap.size q := fun q h => Or.inr h
  generalize hAe : wA ad G s.heap.size = A at hD hA9 hZ ⊢
  have hS : va_S A s.heap s.heap [] := va_S.rf
  have hl := lv_entry ([.int p0]) (n := 1) (Nat.le_of_ble_eq_true rfl)
  rw [lg_entry_eq]
  generalize (lg_sl ([.int p0]) ++ List.replicate (1 - (lg_sl ([.int p0])).length) Slot.unset).toArray = ls at hl ⊢
  have hl : lv_has ls 1 [(0, .int p0)] := hl
  unfold FX11_clip at hF
  refine lv_iload_n hx hb dX11_clip_0 rfl (lv_at hl 0 rfl) ?_
  obtain ⟨y1, hy1, hF⟩ := bnd_some hF
  have J1 : ∀ (H : Heap) (locs : List Loc) (ls : Array Slot), va_P D classes (wld ct ad G M) H → va_D A (wld ct ad G M) → va_S A s.heap H locs → lv_has ls 1 [(0, .int p0)] → W p l e (headSpec wuX11_clip ({ frames := 0, cells := 0, slots := 0, locals := 0 })).room s m ([.int p0] : List Value).toArray below meth c H locs 0 0 (MQ below (va_Qi (fun (q : Int32) (_ : Unit) => q = y.2) (fun _ t => kE D ct ad G A y.1 t) A) ([.int p0] : List Value).toArray s 0 0 A) (F0 m 22 ls [.int y1]) := by
    intro H locs ls hP hD hS hl
    obtain rfl := Option.some.inj hF
    exact W.iret (v := y1) hx hb hr (fun t ht hW => ⟨⟨_, (), rfl, rfl, ⟨by rw [ht]; exact hP, va_K.moved hW.alike hK, hD⟩⟩, hS.F ht⟩) hS.2.2 dX11_clip_22
  clear hF
  have hF := hy1
  clear hy1
  refine lv_if_ge (tgt := 8) hx hb dX11_clip_1 (by decide) (fun c2 => ?_) (fun c2 => ?_)
  · rw [if_pos c2] at hF
    refine lv_iload_n hx hb dX11_clip_8 rfl (lv_at hl 0 rfl) ?_
    refine lv_sipush (v := (255 : Int32)) hx hb dX11_clip_9 (by decide) ?_
    obtain ⟨y3, hy3, hF⟩ := bnd_some hF
    have J3 : ∀ (H : Heap) (locs : List Loc) (ls : Array Slot), va_P D classes (wld ct ad G M) H → va_D A (wld ct ad G M) → va_S A s.heap H locs → lv_has ls 1 [(0, .int p0)] → W p l e (headSpec wuX11_clip ({ frames := 0, cells := 0, slots := 0, locals := 0 })).room s m ([.int p0] : List Value).toArray below meth c H locs 0 0 (MQ below (va_Qi (fun (q : Int32) (_ : Unit) => q = y.2) (fun _ t => kE D ct ad G A y.1 t) A) ([.int p0] : List Value).toArray s 0 0 A) (F0 m 22 ls [.int y3]) := by
      intro H locs ls hP hD hS hl
      obtain rfl := Option.some.inj hF
      exact J1 _ _ _ hP hD hS (lv_sub hl [0] rfl)
    clear hF
    have hF := hy3
    clear hy3
    refine lv_icmp_le (tgt := 21) hx hb dX11_clip_12 (by decide) (fun c4 => ?_) (fun c4 => ?_)
    · rw [if_pos c4] at hF
      refine lv_iload_n hx hb dX11_clip_21 rfl (lv_at hl 0 rfl) ?_
      obtain rfl := Option.some.inj hF
      exact J3 _ _ _ hP hD hS (lv_sub hl [0] rfl)
    · rw [if_neg c4] at hF
      refine lv_sipush (v := (255 : Int32)) hx hb dX11_clip_15 (by decide) ?_
      refine lv_goto (tgt := 22) hx hb dX11_clip_18 (by decide) ?_
      obtain rfl := Option.some.inj hF
      exact J3 _ _ _ hP hD hS (lv_sub hl [0] rfl)
  · rw [if_neg c2] at hF
    refine lv_iconst (v := (0 : Int32)) hx hb dX11_clip_4 (by decide) ?_
    refine lv_goto (tgt := 22) hx hb dX11_clip_5 (by decide) ?_
    obtain rfl := Option.some.inj hF
    exact J1 _ _ _ hP hD hS (lv_sub hl [0] rfl)
theorem dX11_coded_0 : decode cX11_coded 0 = .ok (.iload_n 2, 1) := by decide +kernel
theorem dX11_coded_1 : decode cX11_coded 1 = .ok (.ifCond .lt 9, 3) := by decide +kernel
theorem dX11_coded_4 : decode cX11_coded 4 = .ok (.iload_n 2, 1) := by decide +kernel
theorem dX11_coded_5 : decode cX11_coded 5 = .ok (.bipush 6, 2) := by decide +kernel
theorem dX11_coded_7 : decode cX11_coded 7 = .ok (.if_icmp .le 13, 3) := by decide +kernel
theorem dX11_coded_10 : decode cX11_coded 10 = .ok (.new 51, 3) := by decide +kernel
theorem dX11_coded_13 : decode cX11_coded 13 = .ok (.dup, 1) := by decide +kernel
theorem dX11_coded_14 : decode cX11_coded 14 = .ok (.ldc 85, 2) := by decide +kernel
theorem dX11_coded_16 : decode cX11_coded 16 = .ok (.invokespecial 55, 3) := by decide +kernel
theorem dX11_coded_19 : decode cX11_coded 19 = .ok (.athrow, 1) := by decide +kernel
theorem dX11_coded_20 : decode cX11_coded 20 = .ok (.iload_n 1, 1) := by decide +kernel
theorem dX11_coded_21 : decode cX11_coded 21 = .ok (.ifCond .lt 20, 3) := by decide +kernel
theorem dX11_coded_24 : decode cX11_coded 24 = .ok (.iload_n 1, 1) := by decide +kernel
theorem dX11_coded_25 : decode cX11_coded 25 = .ok (.aload_n 0, 1) := by decide +kernel
theorem dX11_coded_26 : decode cX11_coded 26 = .ok (.getfield 31, 3) := by decide +kernel
theorem dX11_coded_29 : decode cX11_coded 29 = .ok (.getfield 370, 3) := by decide +kernel
theorem dX11_coded_32 : decode cX11_coded 32 = .ok (.if_icmp .ge 9, 3) := by decide +kernel
theorem dX11_coded_35 : decode cX11_coded 35 = .ok (.iload_n 1, 1) := by decide +kernel
theorem dX11_coded_36 : decode cX11_coded 36 = .ok (.bipush 60, 2) := by decide +kernel
theorem dX11_coded_38 : decode cX11_coded 38 = .ok (.if_icmp .lt 14, 3) := by decide +kernel
theorem dX11_coded_41 : decode cX11_coded 41 = .ok (.new 91, 3) := by decide +kernel
theorem dX11_coded_44 : decode cX11_coded 44 = .ok (.dup, 1) := by decide +kernel
theorem dX11_coded_45 : decode cX11_coded 45 = .ok (.ldc_w 265, 3) := by decide +kernel
theorem dX11_coded_48 : decode cX11_coded 48 = .ok (.invokespecial 95, 3) := by decide +kernel
theorem dX11_coded_51 : decode cX11_coded 51 = .ok (.athrow, 1) := by decide +kernel
theorem dX11_coded_52 : decode cX11_coded 52 = .ok (.aload_n 0, 1) := by decide +kernel
theorem dX11_coded_53 : decode cX11_coded 53 = .ok (.getfield 31, 3) := by decide +kernel
theorem dX11_coded_56 : decode cX11_coded 56 = .ok (.getfield 387, 3) := by decide +kernel
theorem dX11_coded_59 : decode cX11_coded 59 = .ok (.bipush 7, 2) := by decide +kernel
theorem dX11_coded_61 : decode cX11_coded 61 = .ok (.iload_n 1, 1) := by decide +kernel
theorem dX11_coded_62 : decode cX11_coded 62 = .ok (.imul, 1) := by decide +kernel
theorem dX11_coded_63 : decode cX11_coded 63 = .ok (.iload_n 2, 1) := by decide +kernel
theorem dX11_coded_64 : decode cX11_coded 64 = .ok (.iadd, 1) := by decide +kernel
theorem dX11_coded_65 : decode cX11_coded 65 = .ok (.iaload, 1) := by decide +kernel
theorem dX11_coded_66 : decode cX11_coded 66 = .ok (.ireturn, 1) := by decide +kernel
def FX11_coded (G : GG) (M : DD) (a : Nat) (p0 : Int32) (p1 : Int32) : Option (DD × Int32) :=
  bnd (if p1 < ((0 : Int32)) then (none) else
  (some ())) fun (y1 : Unit) =>
  bnd (if p1 ≤ ((6 : Int32)) then (some ()) else
  (none)) fun (y2 : Unit) =>
  bnd (if p0 < ((0 : Int32)) then (none) else
  (some ())) fun (y3 : Unit) =>
  dr G 0 ((M.2 a 4)) fun b4 =>
  ltt (M.1 b4 16) fun x5 =>
  bnd (if x5 ≤ p0 then (none) else
  (some ())) fun (y6 : Unit) =>
  bnd (if p0 < ((60 : Int32)) then (some ()) else
  (none)) fun (y7 : Unit) =>
  ltt ((((7 : Int32)) * p0)) fun x8 =>
  ltt ((x8 + p1)) fun x9 =>
  dr G 13 ((M.2 b4 17)) fun b10 =>
  chk (¬ (x9 < 0 ∨ G.2.2 b10 ≤ x9.toNatClampNeg)) <|
  ltt (M.1 b10 x9.toNatClampNeg) fun x11 =>
  some (M, x11)
set_option maxHeartbeats 4000000 in
set_option maxRecDepth 100000 in
theorem kX11_coded (l : Launch) (D : va_G) (ct : CT) (ad : Nat → Nat) (Z : Nat → Nat) (G : GG) (M : DD) (sz : Nat) (a : Nat) (p0 : Int32) (p1 : Int32) (y : DD × Int32) (hc : a < G.1) (hk : G.2.1 a = 11) (hF : FX11_coded G M a p0 p1 = some y) : Met l yX11_coded wuX11_coded ({ frames := 0, cells := 0, slots := 0, locals := 0 }) (va_Pc [.ref (ad a), .int p0, .int p1] (kB D ct ad Z G M sz)) (va_Qi (fun (q : Int32) (_ : Unit) => q = y.2) (fun _ t => kE D ct ad G (wA ad G sz) y.1 t) (wA ad G sz)) 0 0 (wA ad G sz) := by
  refine Met.ofW (cc := cX11_coded) (maxL := 3) (ret := (some .int)) (by decide) rfl ?_
  intro p e s m args below meth c s₁ B hml hv
  obtain ⟨rfl, hsz, hP, hK, hD0, hZ, hN⟩ := hv
  have hx := B.exec
  have hb := B.bytes
  have hr := B.returns
  have hts := atoms_spec (ws := wuX11_coded) B.pre
  have hown : s.vm.findClass RX11 = some m.cls := findClass_of_methodNamed B.named
  have hlocks := B.notSynchronized
  subst hsz
  have hD := wD_self (sz := s.heap.size) hD0
  have hA9 : ∀ q, s.heap.size ≤ q → wA ad G s.heap.size q := fun q h => Or.inr h
  generalize hAe : wA ad G s.heap.size = A at hD hA9 hZ ⊢
  have hS : va_S A s.heap s.heap [] := va_S.rf
  have hl := lv_entry ([.ref (ad a), .int p0, .int p1]) (n := 3) (Nat.le_of_ble_eq_true rfl)
  rw [lg_entry_eq]
  generalize (lg_sl ([.ref (ad a), .int p0, .int p1]) ++ List.replicate (3 - (lg_sl ([.ref (ad a), .int p0, .int p1])).length) Slot.unset).toArray = ls at hl ⊢
  have hl : lv_has ls 3 [(0, .ref (ad a)), (1, .int p0), (2, .int p1)] := hl
  unfold FX11_coded at hF
  refine lv_iload_n hx hb dX11_coded_0 rfl (lv_at hl 2 rfl) ?_
  obtain ⟨y1, hy1, hF⟩ := bnd_some hF
  have J1 : ∀ (H : Heap) (locs : List Loc) (ls : Array Slot), va_P D classes (wld ct ad G M) H → va_D A (wld ct ad G M) → va_S A s.heap H locs → lv_has ls 3 [(0, .ref (ad a)), (1, .int p0), (2, .int p1)] → W p l e (headSpec wuX11_coded ({ frames := 0, cells := 0, slots := 0, locals := 0 })).room s m ([.ref (ad a), .int p0, .int p1] : List Value).toArray below meth c H locs 0 0 (MQ below (va_Qi (fun (q : Int32) (_ : Unit) => q = y.2) (fun _ t => kE D ct ad G A y.1 t) A) ([.ref (ad a), .int p0, .int p1] : List Value).toArray s 0 0 A) (F0 m 4 ls []) := by
    intro H locs ls hP hD hS hl
    refine lv_iload_n hx hb dX11_coded_4 rfl (lv_at hl 2 rfl) ?_
    refine lv_bipush (v := (6 : Int32)) hx hb dX11_coded_5 (by decide) ?_
    obtain ⟨y2, hy2, hF⟩ := bnd_some hF
    have J2 : ∀ (H : Heap) (locs : List Loc) (ls : Array Slot), va_P D classes (wld ct ad G M) H → va_D A (wld ct ad G M) → va_S A s.heap H locs → lv_has ls 3 [(0, .ref (ad a)), (1, .int p0), (2, .int p1)] → W p l e (headSpec wuX11_coded ({ frames := 0, cells := 0, slots := 0, locals := 0 })).room s m ([.ref (ad a), .int p0, .int p1] : List Value).toArray below meth c H locs 0 0 (MQ below (va_Qi (fun (q : Int32) (_ : Unit) => q = y.2) (fun _ t => kE D ct ad G A y.1 t) A) ([.ref (ad a), .int p0, .int p1] : List Value).toArray s 0 0 A) (F0 m 20 ls []) := by
      intro H locs ls hP hD hS hl
      refine lv_iload_n hx hb dX11_coded_20 rfl (lv_at hl 1 rfl) ?_
      obtain ⟨y3, hy3, hF⟩ := bnd_some hF
      have J3 : ∀ (H : Heap) (locs : List Loc) (ls : Array Slot), va_P D classes (wld ct ad G M) H → va_D A (wld ct ad G M) → va_S A s.heap H locs → lv_has ls 3 [(0, .ref (ad a)), (1, .int p0), (2, .int p1)] → W p l e (headSpec wuX11_coded ({ frames := 0, cells := 0, slots := 0, locals := 0 })).room s m ([.ref (ad a), .int p0, .int p1] : List Value).toArray below meth c H locs 0 0 (MQ below (va_Qi (fun (q : Int32) (_ : Unit) => q = y.2) (fun _ t => kE D ct ad G A y.1 t) A) ([.ref (ad a), .int p0, .int p1] : List Value).toArray s 0 0 A) (F0 m 24 ls []) := by
        intro H locs ls hP hD hS hl
        refine lv_iload_n hx hb dX11_coded_24 rfl (lv_at hl 1 rfl) ?_
        refine lv_aload_n hx hb dX11_coded_25 rfl (lv_at hl 0 rfl) ?_
        refine va_get (D := D) (ci := 11) (v := va_re ad (M.2 a 4)) (C := RX11) (T := TX11) (N := 5) hx hb hts (mus hf_X11) hown hK hP a (wld_o ct ad G M hc hk (by decide)) rfl 4 (by decide) (hts (.fieldLink RX11 31 "VideoSuite" "coder" "LVideoSuite$Coder;") (mu mw_886)) (fun _ h9 => h9) rfl dX11_coded_26 ?_
        obtain ⟨b4, ho4, hc4, hk4, hF⟩ := dr_some hF
        refine W_st (st' := [.ref (ad b4), .int p0]) (by rw [va_some ho4]) ?_
        refine va_get (D := D) (ci := 0) (v := .int (M.1 b4 16)) (C := RX0) (T := TX0) (N := 21) hx hb hts (mus hf_X0) hown hK hP b4 (wld_o ct ad G M hc4 hk4 (by decide)) rfl 16 (by decide) (hts (.fieldLink RX11 370 "VideoSuite$Coder" "codedCount" "I") (mu mw_833)) (fun _ h9 => h9) rfl dX11_coded_29 ?_
        obtain ⟨x5, ex5, hF⟩ := ltt_some hF
        refine lv_topi (fun zx5 ezx5 => ?_)
        obtain rfl : x5 = zx5 := ex5.trans ezx5.symm
        obtain ⟨y6, hy6, hF⟩ := bnd_some hF
        have J6 : ∀ (H : Heap) (locs : List Loc) (ls : Array Slot), va_P D classes (wld ct ad G M) H → va_D A (wld ct ad G M) → va_S A s.heap H locs → lv_has ls 3 [(0, .ref (ad a)), (1, .int p0), (2, .int p1)] → W p l e (headSpec wuX11_coded ({ frames := 0, cells := 0, slots := 0, locals := 0 })).room s m ([.ref (ad a), .int p0, .int p1] : List Value).toArray below meth c H locs 0 0 (MQ below (va_Qi (fun (q : Int32) (_ : Unit) => q = y.2) (fun _ t => kE D ct ad G A y.1 t) A) ([.ref (ad a), .int p0, .int p1] : List Value).toArray s 0 0 A) (F0 m 35 ls []) := by
          intro H locs ls hP hD hS hl
          refine lv_iload_n hx hb dX11_coded_35 rfl (lv_at hl 1 rfl) ?_
          refine lv_bipush (v := (60 : Int32)) hx hb dX11_coded_36 (by decide) ?_
          obtain ⟨y7, hy7, hF⟩ := bnd_some hF
          have J7 : ∀ (H : Heap) (locs : List Loc) (ls : Array Slot), va_P D classes (wld ct ad G M) H → va_D A (wld ct ad G M) → va_S A s.heap H locs → lv_has ls 3 [(0, .ref (ad a)), (1, .int p0), (2, .int p1)] → W p l e (headSpec wuX11_coded ({ frames := 0, cells := 0, slots := 0, locals := 0 })).room s m ([.ref (ad a), .int p0, .int p1] : List Value).toArray below meth c H locs 0 0 (MQ below (va_Qi (fun (q : Int32) (_ : Unit) => q = y.2) (fun _ t => kE D ct ad G A y.1 t) A) ([.ref (ad a), .int p0, .int p1] : List Value).toArray s 0 0 A) (F0 m 52 ls []) := by
            intro H locs ls hP hD hS hl
            refine lv_aload_n hx hb dX11_coded_52 rfl (lv_at hl 0 rfl) ?_
            refine va_get (D := D) (ci := 11) (v := va_re ad (M.2 a 4)) (C := RX11) (T := TX11) (N := 5) hx hb hts (mus hf_X11) hown hK hP a (wld_o ct ad G M hc hk (by decide)) rfl 4 (by decide) (hts (.fieldLink RX11 31 "VideoSuite" "coder" "LVideoSuite$Coder;") (mu mw_886)) (fun _ h9 => h9) rfl dX11_coded_53 ?_
            refine W_st (st' := [.ref (ad b4)]) (by rw [va_some ho4]) ?_
            refine va_get (D := D) (ci := 0) (v := va_re ad (M.2 b4 17)) (C := RX0) (T := TX0) (N := 21) hx hb hts (mus hf_X0) hown hK hP b4 (wld_o ct ad G M hc4 hk4 (by decide)) rfl 17 (by decide) (hts (.fieldLink RX11 387 "VideoSuite$Coder" "codedFact" "[I") (mu mw_835)) (fun _ h9 => h9) rfl dX11_coded_56 ?_
            refine lv_bipush (v := (7 : Int32)) hx hb dX11_coded_59 (by decide) ?_
            refine lv_iload_n hx hb dX11_coded_61 rfl (lv_at hl 1 rfl) ?_
            refine lv_imul hx hb dX11_coded_62 ?_
            obtain ⟨x8, ex8, hF⟩ := ltt_some hF
            refine lv_topi (fun zx8 ezx8 => ?_)
            obtain rfl : x8 = zx8 := ex8.trans ezx8.symm
            refine lv_iload_n hx hb dX11_coded_63 rfl (lv_at hl 2 rfl) ?_
            refine lv_iadd hx hb dX11_coded_64 ?_
            obtain ⟨x9, ex9, hF⟩ := ltt_some hF
            refine lv_topi (fun zx9 ezx9 => ?_)
            obtain rfl : x9 = zx9 := ex9.trans ezx9.symm
            obtain ⟨b10, ho10, hc10, hk10, hF⟩ := dr_some hF
            refine W_st (st' := [.int x9, .ref (ad b10)]) (by rw [va_some ho10]) ?_
            obtain ⟨hvc, hF⟩ := chk_some hF
            refine va_iald hx hb hK hP b10 1 (wld_i ct ad G M hc10 hk10) rfl hvc dX11_coded_65 ?_
            obtain ⟨x11, ex11, hF⟩ := ltt_some hF
            refine lv_topi (fun zx11 ezx11 => ?_)
            obtain rfl : x11 = zx11 := ex11.trans ezx11.symm
            obtain rfl := Option.some.inj hF
            exact W.iret (v := x11) hx hb hr (fun t ht hW => ⟨⟨_, (), rfl, rfl, ⟨by rw [ht]; exact hP, va_K.moved hW.alike hK, hD⟩⟩, hS.F ht⟩) hS.2.2 dX11_coded_66
          clear hF
          have hF := hy7
          clear hy7
          refine lv_icmp_lt (tgt := 52) hx hb dX11_coded_38 (by decide) (fun c12 => ?_) (fun c12 => ?_)
          · rw [if_pos c12] at hF
            obtain rfl := Option.some.inj hF
            exact J7 _ _ _ hP hD hS (lv_sub hl [0, 1, 2] rfl)
          · rw [if_neg c12] at hF
            cases hF
        clear hF
        have hF := hy6
        clear hy6
        refine lv_icmp_ge (tgt := 41) hx hb dX11_coded_32 (by decide) (fun c13 => ?_) (fun c13 => ?_)
        · rw [if_pos c13] at hF
          cases hF
        · rw [if_neg c13] at hF
          obtain rfl := Option.some.inj hF
          exact J6 _ _ _ hP hD hS (lv_sub hl [0, 1, 2] rfl)
      clear hF
      have hF := hy3
      clear hy3
      refine lv_if_lt (tgt := 41) hx hb dX11_coded_21 (by decide) (fun c14 => ?_) (fun c14 => ?_)
      · rw [if_pos c14] at hF
        cases hF
      · rw [if_neg c14] at hF
        obtain rfl := Option.some.inj hF
        exact J3 _ _ _ hP hD hS (lv_sub hl [0, 1, 2] rfl)
    clear hF
    have hF := hy2
    clear hy2
    refine lv_icmp_le (tgt := 20) hx hb dX11_coded_7 (by decide) (fun c15 => ?_) (fun c15 => ?_)
    · rw [if_pos c15] at hF
      obtain rfl := Option.some.inj hF
      exact J2 _ _ _ hP hD hS (lv_sub hl [0, 1, 2] rfl)
    · rw [if_neg c15] at hF
      cases hF
  clear hF
  have hF := hy1
  clear hy1
  refine lv_if_lt (tgt := 10) hx hb dX11_coded_1 (by decide) (fun c16 => ?_) (fun c16 => ?_)
  · rw [if_pos c16] at hF
    cases hF
  · rw [if_neg c16] at hF
    obtain rfl := Option.some.inj hF
    exact J1 _ _ _ hP hD hS (lv_sub hl [0, 1, 2] rfl)
