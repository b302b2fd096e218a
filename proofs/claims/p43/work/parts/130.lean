set_option maxRecDepth 20000 in
theorem gX11_init_X8_init_n16 : GoodIn wuX11_init wuX8_init := gu_P mw_209
set_option maxRecDepth 20000 in
set_option maxRecDepth 20000 in
theorem gX11_init_X1_init_n23 : GoodIn wuX11_init wuX1_init := gu_P mw_271
set_option maxRecDepth 20000 in
set_option maxRecDepth 20000 in
theorem gX11_init_X0_init : GoodIn wuX11_init wuX0_init := gu_P mw_718
theorem dX11_init_0 : decode cX11_init 0 = .ok (.aload_n 0, 1) := by decide +kernel
theorem dX11_init_1 : decode cX11_init 1 = .ok (.invokespecial 1, 3) := by decide +kernel
theorem dX11_init_4 : decode cX11_init 4 = .ok (.aload_n 0, 1) := by decide +kernel
theorem dX11_init_5 : decode cX11_init 5 = .ok (.ldc 9, 2) := by decide +kernel
theorem dX11_init_7 : decode cX11_init 7 = .ok (.newarray .byte, 2) := by decide +kernel
theorem dX11_init_9 : decode cX11_init 9 = .ok (.putfield 10, 3) := by decide +kernel
theorem dX11_init_12 : decode cX11_init 12 = .ok (.aload_n 0, 1) := by decide +kernel
theorem dX11_init_13 : decode cX11_init 13 = .ok (.new 14, 3) := by decide +kernel
theorem dX11_init_16 : decode cX11_init 16 = .ok (.dup, 1) := by decide +kernel
theorem dX11_init_17 : decode cX11_init 17 = .ok (.invokespecial 16, 3) := by decide +kernel
theorem dX11_init_20 : decode cX11_init 20 = .ok (.putfield 17, 3) := by decide +kernel
theorem dX11_init_23 : decode cX11_init 23 = .ok (.aload_n 0, 1) := by decide +kernel
theorem dX11_init_24 : decode cX11_init 24 = .ok (.new 21, 3) := by decide +kernel
theorem dX11_init_27 : decode cX11_init 27 = .ok (.dup, 1) := by decide +kernel
theorem dX11_init_28 : decode cX11_init 28 = .ok (.invokespecial 23, 3) := by decide +kernel
theorem dX11_init_31 : decode cX11_init 31 = .ok (.putfield 24, 3) := by decide +kernel
theorem dX11_init_34 : decode cX11_init 34 = .ok (.aload_n 0, 1) := by decide +kernel
theorem dX11_init_35 : decode cX11_init 35 = .ok (.new 28, 3) := by decide +kernel
theorem dX11_init_38 : decode cX11_init 38 = .ok (.dup, 1) := by decide +kernel
theorem dX11_init_39 : decode cX11_init 39 = .ok (.invokespecial 30, 3) := by decide +kernel
theorem dX11_init_42 : decode cX11_init 42 = .ok (.putfield 31, 3) := by decide +kernel
theorem dX11_init_45 : decode cX11_init 45 = .ok (.return_, 1) := by decide +kernel
noncomputable def FX11_init (G : GG) (M : DD) (a : Nat)  : Option (NN × DD) :=
  chkP (Clo (xt G []) M) <|
  chk (¬ ((65536 : Int32)) < 0 ∧ ((65536 : Int32)).toNatClampNeg * 4 ≤ 536870912) <|
  ltt ((xt G []).1) fun c2 =>
  app [(12, ((65536 : Int32)).toNatClampNeg)] <|
  ltt ([] ++ [(12, ((65536 : Int32)).toNatClampNeg)]) fun L4 =>
  ltt (rO M c2) fun M5 =>
  ltt (uP M5 a 0 (some c2)) fun M8 =>
  chkP (Clo (xt G L4) M8) <|
  ltt ((xt G L4).1) fun c10 =>
  app [(8, 0)] <|
  ltt (L4 ++ [(8, 0)]) fun L12 =>
  ltt (rO M8 c10) fun M13 =>
  bnd (FX8_init (xt G L12) M13 c10) fun y16 =>
  app y16.1 <|
  ltt (L12 ++ y16.1) fun L18 =>
  ltt (uP y16.2 a 2 (some c10)) fun M21 =>
  chkP (Clo (xt G L18) M21) <|
  ltt ((xt G L18).1) fun c23 =>
  app [(1, 0)] <|
  ltt (L18 ++ [(1, 0)]) fun L25 =>
  ltt (rO M21 c23) fun M26 =>
  bnd (FX1_init (xt G L25) M26 c23) fun y29 =>
  app y29.1 <|
  ltt (L25 ++ y29.1) fun L31 =>
  ltt (uP y29.2 a 3 (some c23)) fun M34 =>
  chkP (Clo (xt G L31) M34) <|
  ltt ((xt G L31).1) fun c36 =>
  app [(0, 0)] <|
  ltt (L31 ++ [(0, 0)]) fun L38 =>
  ltt (rO M34 c36) fun M39 =>
  bnd (FX0_init (xt G L38) M39 c36) fun y42 =>
  app y42.1 <|
  ltt (L38 ++ y42.1) fun L44 =>
  ltt (uP y42.2 a 4 (some c36)) fun M47 =>
  some ([], M47)
set_option maxHeartbeats 4000000 in
set_option maxRecDepth 100000 in
theorem kX11_init (l : Launch) (D : va_G) (ct : CT) (ad : Nat → Nat) (Z : Nat → Nat) (G : GG) (M : DD) (sz : Nat) (a : Nat)  (y : NN × DD) (hc : a < G.1) (hk : G.2.1 a = 11) (hF : FX11_init G M a  = some y) : Met l yX11_init wuX11_init ({ frames := 3, cells := y.1.length, slots := wt y.1, locals := 72 }) (va_Pc [.ref (ad a)] (kB D ct ad Z G M sz)) (va_Qv (fun (u : Nat → Nat) => agr G.1 ad u) (fun u t => kE D ct u (xt G y.1) (wA ad G sz) y.2 t) (wA ad G sz)) y.1.length (wt y.1) (wA ad G sz) := by
  refine Met.ofW (cc := cX11_init) (maxL := 1) (ret := none) (by decide) rfl ?_
  intro p e s m args below meth c s₁ B hml hv
  obtain ⟨rfl, hsz, hP, hK, hD0, hZ, hN⟩ := hv
  have hx := B.exec
  have hb := B.bytes
  have hr := B.returns
  have hts := atoms_spec (ws := wuX11_init) B.pre
  have hown : s.vm.findClass RX11 = some m.cls := findClass_of_methodNamed B.named
  have hlocks := B.notSynchronized
  have hin : meth.name = "<init>" := (name_of_methodNamed B.named B.method).1
  subst hsz
  have hD := wD_self (sz := s.heap.size) hD0
  have hA9 : ∀ q, s.heap.size ≤ q → wA ad G s.heap.size q := fun q h => Or.inr h
  generalize hAe : wA ad G s.heap.size = A at hD hA9 hZ ⊢
  have hS : va_S A s.heap s.heap [] := va_S.rf
  have hl := lv_entry ([.ref (ad a)]) (n := 1) (Nat.le_of_ble_eq_true rfl)
  rw [lg_entry_eq]
  generalize (lg_sl ([.ref (ad a)]) ++ List.replicate (1 - (lg_sl ([.ref (ad a)])).length) Slot.unset).toArray = ls at hl ⊢
  have hl : lv_has ls 1 [(0, .ref (ad a))] := hl
  unfold FX11_init at hF
  rw [← wld_0 ct ad G M] at hP hD
  have hk := xt_k0 hc hk
  have hc := xt_l0 hc
  have hag := agr_rf G.1 ad
  obtain ⟨w0, hw0⟩ : ∃ z, z = y := ⟨_, rfl⟩
  rw [← hw0] at hF
  have hT : y.1 = [] ++ w0.1 := by rw [hw0]; rfl
  have h2 : y.2 = w0.2 := by rw [hw0]
  have hbl : y.1.length ≤ y.1.length ∧ wt y.1 ≤ wt y.1 := ⟨Nat.le_refl _, Nat.le_refl _⟩
  refine lv_aload_n hx hb dX11_init_0 rfl (lv_at hl 0 rfl) ?_
  refine W.objInit hx hb hown (hts (.methodLink RX11 1 objectInit) (mu mw_201)) (hts (.instanceMethod objectInit) (mu mw_202)) (hts (.code objectInit ⟨#[0xb1]⟩ 1 none) (mu mw_203)) rfl (by rw [hml]; exact hl.1) rfl dX11_init_1 (Nat.le_of_ble_eq_true rfl) (Nat.le_of_ble_eq_true rfl) ?_
  refine W.eq (g2 := F0 m 4 ls []) rfl ?_
  refine lv_aload_n hx hb dX11_init_4 rfl (lv_at hl 0 rfl) ?_
  refine lv_ldc (v := (65536 : Int32)) hx hb hown (hts (.constant RX11 9 (65536 : Int32)) (mu mw_204)) dX11_init_5 ?_
  obtain ⟨hC1, hF⟩ := chkP_some hF
  obtain ⟨hz9, hF⟩ := chk_some hF
  obtain ⟨c2, ec2, hF⟩ := ltt_some hF
  obtain ⟨w3, hF, ew3⟩ := app_some hF
  obtain ⟨L4, eL4, hF⟩ := ltt_some hF
  have hT4 : y.1 = ([] ++ [(12, ((65536 : Int32)).toNatClampNeg)]) ++ w3.1 := by rw [hT, ew3]; simp only [List.append_assoc]
  obtain ⟨M5, eM5, hF⟩ := ltt_some hF
  refine new_b hx hb (hts (.arrayClass .byte) (mu mw_265)) hK hP hD hS hA9 hz9.1 hz9.2 hC1 (room_1s hT4 hbl) dX11_init_7 (fun ad6 H hn7 hP hD hS => ?_)
  rw [← ec2, ← eL4, ← eM5] at hP hD
  refine W_cs (k := L4.length) (n := wt L4) (by rw [eL4]) (by rw [eL4]) ?_
  refine W_st (st' := [.ref (ad6 c2), .ref (ad a)]) (by rw [ec2]) ?_
  have hT : y.1 = L4 ++ w3.1 := by rw [hT4, eL4]
  have h2 : y.2 = w3.2 := by rw [h2, ew3]
  have hl := lv_sub (l' := [(0, .ref (ad a))]) hl [0] rfl
  have e9 : ([(0, .ref (ad a))] : List (Nat × Value)) = [(0, .ref (ad6 a))] := (by first | rfl | simp only [hn7 a hc])
  rw [e9] at hl
  clear e9
  refine W_st (st' := [.ref (ad6 c2), .ref (ad6 a)]) (by first | rfl | simp only [hn7 a hc]) ?_
  have hk : (xt G L4).2.1 a = 11 := by rw [eL4]; exact xt_k _ hc hk
  have hc : a < (xt G L4).1 := by rw [eL4]; exact xt_l _ hc
  have hag := agr_t (xt_ge _ _) hag hn7
  have hc2 : c2 < (xt G L4).1 := by rw [ec2, eL4]; exact cnt_new _ _ _
  have hk2 : (xt G L4).2.1 c2 = 12 := by rw [ec2, eL4]; exact (kind_new _ _ _ _).1
  refine va_putF (D := D) (ci := 11) (v := va_re ad6 (some c2)) (ty := (.array .byte)) (C := RX11) (T := TX11) (N := 5) hx hb hts (mus hf_X11) tyX11 tyX11_ok nmX11 hown hK hP hD hS a (wld_o ct ad6 (xt G L4) M5 hc hk (by decide)) rfl 0 (by decide) (hts (.fieldLink RX11 10 "VideoSuite" "tape" "[B") (mu mw_882)) (fun _ h9 => h9) rfl hin rfl (by decide +kernel) (nar_q ad6 (Or.inr ⟨_, rfl⟩) (some c2)).1 (nar_q ad6 (Or.inr ⟨_, rfl⟩) (some c2)).2 (Nat.le_of_ble_eq_true rfl) dX11_init_9 (fun H locs hP hD hS => ?_)
  obtain ⟨M8, eM8, hF⟩ := ltt_some hF
  rw [set_oP ct ad6 (xt G L4) M5 hc hk (by decide) (by rfl), ← eM8] at hP hD
  refine lv_aload_n hx hb dX11_init_12 rfl (lv_at hl 0 rfl) ?_
  obtain ⟨hC9, hF⟩ := chkP_some hF
  obtain ⟨c10, ec10, hF⟩ := ltt_some hF
  obtain ⟨w11, hF, ew11⟩ := app_some hF
  obtain ⟨L12, eL12, hF⟩ := ltt_some hF
  have hT12 : y.1 = (L4 ++ [(8, 0)]) ++ w11.1 := by rw [hT, ew11]; simp only [List.append_assoc]
  obtain ⟨M13, eM13, hF⟩ := ltt_some hF
  refine new_o (T := TX8) (κ := 8) hx hb hts (mus hf_X8) tyX8 tyX8_ok hown (hts (.classLink RX11 14 RX8) (mu mw_205)) (hts (.instantiable RX8 15) (mu mw_206)) (hts (.initialized RX8) (mu mw_167)) hK hP hD hS hA9 rfl (by decide) rfl dfX8 hC9 (room_1s hT12 hbl) dX11_init_13 (fun ad14 H hn15 hP hD hS => ?_)
  rw [← ec10, ← eL12, ← eM13] at hP hD
  refine W_cs (k := L12.length) (n := wt L12) (by rw [eL12]) (by rw [eL12]) ?_
  refine W_st (st' := [.ref (ad14 c10), .ref (ad6 a)]) (by rw [ec10]) ?_
  have hT : y.1 = L12 ++ w11.1 := by rw [hT12, eL12]
  have h2 : y.2 = w11.2 := by rw [h2, ew11]
  have hl := lv_sub (l' := [(0, .ref (ad6 a))]) hl [0] rfl
  have e9 : ([(0, .ref (ad6 a))] : List (Nat × Value)) = [(0, .ref (ad14 a))] := (by first | rfl | simp only [hn15 a hc])
  rw [e9] at hl
  clear e9
  refine W_st (st' := [.ref (ad14 c10), .ref (ad14 a)]) (by first | rfl | simp only [hn15 a hc]) ?_
  have hk : (xt G L12).2.1 a = 11 := by rw [eL12]; exact xt_k _ hc hk
  have hc : a < (xt G L12).1 := by rw [eL12]; exact xt_l _ hc
  have hk2 : (xt G L12).2.1 c2 = 12 := by rw [eL12]; exact xt_k _ hc2 hk2
  have hc2 : c2 < (xt G L12).1 := by rw [eL12]; exact xt_l _ hc2
  have hag := agr_t (xt_ge _ _) hag hn15
  have hc10 : c10 < (xt G L12).1 := by rw [ec10, eL12]; exact cnt_new _ _ _
  have hk10 : (xt G L12).2.1 c10 = 8 := by rw [ec10, eL12]; exact (kind_new _ _ _ _).1
  refine lv_dup hx hb dX11_init_16 rfl ?_
  obtain ⟨y16, hy16, hF⟩ := bnd_some hF
  obtain ⟨w17, hF, ew17⟩ := app_some hF
  obtain ⟨L18, eL18, hF⟩ := ltt_some hF
  have hT18 : y.1 = (L12 ++ y16.1) ++ w17.1 := by rw [hT, ew17]; simp only [List.append_assoc]
  have hf9 := wA_in hD hA9 hS
  refine va_callv (va_runIN (As := []) (rest := [.ref (ad14 c10), .ref (ad14 a)]) ⟨hx, hb, hml, hown, hts⟩ (kX8_init l D ct ad14 Z (xt G L12) M13 _ c10 y16 hc10 hk10 hy16) ⟨va_cnB 0 hts gX11_init_X8_init_n16 rfl rfl rfl (hN.1 (RX11, 16, yX8_init, RX11) (List.mem_of_getElem? (i := 0) rfl)) (hts (.initialized RX8) (mu mw_167)) (by decide +kernel) ⟨Nat.le_of_ble_eq_true rfl, Nat.le_of_ble_eq_true rfl⟩, rfl, (hts (.instanceMethod yX8_init) (mu mw_208))⟩ ⟨fun a U g mk q => by obtain ⟨q0, q1, qP, qK, qD, qZ, qN⟩ := q; exact ⟨q0, q1, qP, va_K.moved (u := U) (U := U.calling g mk a) (Vm.Alike.refl U.vm) qK, qD, sF.moved (u := U) (U := U.calling g mk a) (Vm.Alike.refl U.vm) qZ, nF.same rfl qN⟩, fun U hU hW => ⟨rfl, by rw [hU], by rw [hU]; exact hP, va_K.moved hW.alike hK, hD.weaken (fun _ _ _ _ => trivial), by rw [hU]; exact ((hZ.kept hS.2.1).narrow hf9).moved hW.alike, hN.warm hW⟩⟩ rfl rfl hl.1 rfl (lv_room (Nat.le_of_ble_eq_true rfl)) dX11_init_17 (room_s hT18 hbl)) hS (fun q _ h => hf9 q h) hf9 (fun ad19 t H locs ht hvm hw hB hz1 hk1 hS => ?_)
  have hn20 := hw
  obtain ⟨hP, hK9, hD9⟩ := hB
  rw [ht] at hP
  have hD := hD9.weaken (fun _ q _ h => hf9 q.1 h)
  rw [xt_xt, ← eL18] at hP hD
  refine W_cs (k := L18.length) (n := wt L18) (by rw [eL18]; exact (len_s L12 y16.1).symm) (by rw [eL18]; exact (wt_app L12 y16.1).symm) ?_
  have hT : y.1 = L18 ++ w17.1 := by rw [hT18, eL18]
  have h2 : y.2 = w17.2 := by rw [h2, ew17]
  have hl := lv_sub (l' := [(0, .ref (ad14 a))]) hl [0] rfl
  have e9 : ([(0, .ref (ad14 a))] : List (Nat × Value)) = [(0, .ref (ad19 a))] := (by first | rfl | simp only [hn20 a hc])
  rw [e9] at hl
  clear e9
  refine W_st (st' := [.ref (ad19 c10), .ref (ad19 a)]) (by first | rfl | simp only [hn20 c10 hc10, hn20 a hc]) ?_
  have hk : (xt G L18).2.1 a = 11 := by rw [eL18]; exact xt_k _ hc hk
  have hc : a < (xt G L18).1 := by rw [eL18]; exact xt_l _ hc
  have hk2 : (xt G L18).2.1 c2 = 12 := by rw [eL18]; exact xt_k _ hc2 hk2
  have hc2 : c2 < (xt G L18).1 := by rw [eL18]; exact xt_l _ hc2
  have hk10 : (xt G L18).2.1 c10 = 8 := by rw [eL18]; exact xt_k _ hc10 hk10
  have hc10 : c10 < (xt G L18).1 := by rw [eL18]; exact xt_l _ hc10
  have hag := agr_t (xt_ge _ _) hag hn20
  refine va_putF (D := D) (ci := 11) (v := va_re ad19 (some c10)) (ty := (.object "VideoSuite$Units")) (C := RX11) (T := TX11) (N := 5) hx hb hts (mus hf_X11) tyX11 tyX11_ok nmX11 hown hK hP hD hS a (wld_o ct ad19 (xt G L18) y16.2 hc hk (by decide)) rfl 2 (by decide) (hts (.fieldLink RX11 17 "VideoSuite" "units" "LVideoSuite$Units;") (mu mw_884)) (fun _ h9 => h9) rfl hin rfl (by decide +kernel) (nar_q ad19 (Or.inl ⟨_, rfl⟩) (some c10)).1 (nar_q ad19 (Or.inl ⟨_, rfl⟩) (some c10)).2 (Nat.le_of_ble_eq_true rfl) dX11_init_20 (fun H locs hP hD hS => ?_)
  obtain ⟨M21, eM21, hF⟩ := ltt_some hF
  rw [set_oP ct ad19 (xt G L18) y16.2 hc hk (by decide) (by rfl), ← eM21] at hP hD
  refine lv_aload_n hx hb dX11_init_23 rfl (lv_at hl 0 rfl) ?_
  obtain ⟨hC22, hF⟩ := chkP_some hF
  obtain ⟨c23, ec23, hF⟩ := ltt_some hF
  obtain ⟨w24, hF, ew24⟩ := app_some hF
  obtain ⟨L25, eL25, hF⟩ := ltt_some hF
  have hT25 : y.1 = (L18 ++ [(1, 0)]) ++ w24.1 := by rw [hT, ew24]; simp only [List.append_assoc]
  obtain ⟨M26, eM26, hF⟩ := ltt_some hF
  refine new_o (T := TX1) (κ := 1) hx hb hts (mus hf_X1) tyX1 tyX1_ok hown (hts (.classLink RX11 21 RX1) (mu mw_267)) (hts (.instantiable RX1 22) (mu mw_268)) (hts (.initialized RX1) (mu mw_168)) hK hP hD hS hA9 rfl (by decide) rfl dfX1 hC22 (room_1s hT25 hbl) dX11_init_24 (fun ad27 H hn28 hP hD hS => ?_)
  rw [← ec23, ← eL25, ← eM26] at hP hD
  refine W_cs (k := L25.length) (n := wt L25) (by rw [eL25]) (by rw [eL25]) ?_
  refine W_st (st' := [.ref (ad27 c23), .ref (ad19 a)]) (by rw [ec23]) ?_
  have hT : y.1 = L25 ++ w24.1 := by rw [hT25, eL25]
  have h2 : y.2 = w24.2 := by rw [h2, ew24]
  have hl := lv_sub (l' := [(0, .ref (ad19 a))]) hl [0] rfl
  have e9 : ([(0, .ref (ad19 a))] : List (Nat × Value)) = [(0, .ref (ad27 a))] := (by first | rfl | simp only [hn28 a hc])
  rw [e9] at hl
  clear e9
  refine W_st (st' := [.ref (ad27 c23), .ref (ad27 a)]) (by first | rfl | simp only [hn28 a hc]) ?_
  have hk : (xt G L25).2.1 a = 11 := by rw [eL25]; exact xt_k _ hc hk
  have hc : a < (xt G L25).1 := by rw [eL25]; exact xt_l _ hc
  have hk2 : (xt G L25).2.1 c2 = 12 := by rw [eL25]; exact xt_k _ hc2 hk2
  have hc2 : c2 < (xt G L25).1 := by rw [eL25]; exact xt_l _ hc2
  have hk10 : (xt G L25).2.1 c10 = 8 := by rw [eL25]; exact xt_k _ hc10 hk10
  have hc10 : c10 < (xt G L25).1 := by rw [eL25]; exact xt_l _ hc10
  have hag := agr_t (xt_ge _ _) hag hn28
  have hc23 : c23 < (xt G L25).1 := by rw [ec23, eL25]; exact cnt_new _ _ _
  have hk23 : (xt G L25).2.1 c23 = 1 := by rw [ec23, eL25]; exact (kind_new _ _ _ _).1
  refine lv_dup hx hb dX11_init_27 rfl ?_
  obtain ⟨y29, hy29, hF⟩ := bnd_some hF
  obtain ⟨w30, hF, ew30⟩ := app_some hF
  obtain ⟨L31, eL31, hF⟩ := ltt_some hF
  have hT31 : y.1 = (L25 ++ y29.1) ++ w30.1 := by rw [hT, ew30]; simp only [List.append_assoc]
  have hf9 := wA_in hD hA9 hS
  refine va_callv (va_runIN (As := []) (rest := [.ref (ad27 c23), .ref (ad27 a)]) ⟨hx, hb, hml, hown, hts⟩ (kX1_init l D ct ad27 Z (xt G L25) M26 _ c23 y29 hc23 hk23 hy29) ⟨va_cnB 0 hts gX11_init_X1_init_n23 rfl rfl rfl (hN.1 (RX11, 23, yX1_init, RX11) (List.mem_of_getElem? (i := 1) rfl)) (hts (.initialized RX1) (mu mw_168)) (by decide +kernel) ⟨Nat.le_of_ble_eq_true rfl, Nat.le_of_ble_eq_true rfl⟩, rfl, (hts (.instanceMethod yX1_init) (mu mw_270))⟩ ⟨fun a U g mk q => by obtain ⟨q0, q1, qP, qK, qD, qZ, qN⟩ := q; exact ⟨q0, q1, qP, va_K.moved (u := U) (U := U.calling g mk a) (Vm.Alike.refl U.vm) qK, qD, sF.moved (u := U) (U := U.calling g mk a) (Vm.Alike.refl U.vm) qZ, nF.same rfl qN⟩, fun U hU hW => ⟨rfl, by rw [hU], by rw [hU]; exact hP, va_K.moved hW.alike hK, hD.weaken (fun _ _ _ _ => trivial), by rw [hU]; exact ((hZ.kept hS.2.1).narrow hf9).moved hW.alike, hN.warm hW⟩⟩ rfl rfl hl.1 rfl (lv_room (Nat.le_of_ble_eq_true rfl)) dX11_init_28 (room_s hT31 hbl)) hS (fun q _ h => hf9 q h) hf9 (fun ad32 t H locs ht hvm hw hB hz1 hk1 hS => ?_)
  have hn33 := hw
  obtain ⟨hP, hK9, hD9⟩ := hB
  rw [ht] at hP
  have hD := hD9.weaken (fun _ q _ h => hf9 q.1 h)
  rw [xt_xt, ← eL31] at hP hD
  refine W_cs (k := L31.length) (n := wt L31) (by rw [eL31]; exact (len_s L25 y29.1).symm) (by rw [eL31]; exact (wt_app L25 y29.1).symm) ?_
  have hT : y.1 = L31 ++ w30.1 := by rw [hT31, eL31]
  have h2 : y.2 = w30.2 := by rw [h2, ew30]
  have hl := lv_sub (l' := [(0, .ref (ad27 a))]) hl [0] rfl
  have e9 : ([(0, .ref (ad27 a))] : List (Nat × Value)) = [(0, .ref (ad32 a))] := (by first | rfl | simp only [hn33 a hc])
  rw [e9] at hl
  clear e9
  refine W_st (st' := [.ref (ad32 c23), .ref (ad32 a)]) (by first | rfl | simp only [hn33 c23 hc23, hn33 a hc]) ?_
  have hk : (xt G L31).2.1 a = 11 := by rw [eL31]; exact xt_k _ hc hk
  have hc : a < (xt G L31).1 := by rw [eL31]; exact xt_l _ hc
  have hk2 : (xt G L31).2.1 c2 = 12 := by rw [eL31]; exact xt_k _ hc2 hk2
  have hc2 : c2 < (xt G L31).1 := by rw [eL31]; exact xt_l _ hc2
  have hk10 : (xt G L31).2.1 c10 = 8 := by rw [eL31]; exact xt_k _ hc10 hk10
  have hc10 : c10 < (xt G L31).1 := by rw [eL31]; exact xt_l _ hc10
  have hk23 : (xt G L31).2.1 c23 = 1 := by rw [eL31]; exact xt_k _ hc23 hk23
  have hc23 : c23 < (xt G L31).1 := by rw [eL31]; exact xt_l _ hc23
  have hag := agr_t (xt_ge _ _) hag hn33
  refine va_putF (D := D) (ci := 11) (v := va_re ad32 (some c23)) (ty := (.object "VideoSuite$Decoder")) (C := RX11) (T := TX11) (N := 5) hx hb hts (mus hf_X11) tyX11 tyX11_ok nmX11 hown hK hP hD hS a (wld_o ct ad32 (xt G L31) y29.2 hc hk (by decide)) rfl 3 (by decide) (hts (.fieldLink RX11 24 "VideoSuite" "decoder" "LVideoSuite$Decoder;") (mu mw_885)) (fun _ h9 => h9) rfl hin rfl (by decide +kernel) (nar_q ad32 (Or.inl ⟨_, rfl⟩) (some c23)).1 (nar_q ad32 (Or.inl ⟨_, rfl⟩) (some c23)).2 (Nat.le_of_ble_eq_true rfl) dX11_init_31 (fun H locs hP hD hS => ?_)
  obtain ⟨M34, eM34, hF⟩ := ltt_some hF
  rw [set_oP ct ad32 (xt G L31) y29.2 hc hk (by decide) (by rfl), ← eM34] at hP hD
  refine lv_aload_n hx hb dX11_init_34 rfl (lv_at hl 0 rfl) ?_
  obtain ⟨hC35, hF⟩ := chkP_some hF
  obtain ⟨c36, ec36, hF⟩ := ltt_some hF
  obtain ⟨w37, hF, ew37⟩ := app_some hF
  obtain ⟨L38, eL38, hF⟩ := ltt_some hF
  have hT38 : y.1 = (L31 ++ [(0, 0)]) ++ w37.1 := by rw [hT, ew37]; simp only [List.append_assoc]
  obtain ⟨M39, eM39, hF⟩ := ltt_some hF
  refine new_o (T := TX0) (κ := 0) hx hb hts (mus hf_X0) tyX0 tyX0_ok hown (hts (.classLink RX11 28 RX0) (mu mw_714)) (hts (.instantiable RX0 21) (mu mw_715)) (hts (.initialized RX0) (mu mw_175)) hK hP hD hS hA9 rfl (by decide) rfl dfX0 hC35 (room_1s hT38 hbl) dX11_init_35 (fun ad40 H hn41 hP hD hS => ?_)
  rw [← ec36, ← eL38, ← eM39] at hP hD
  refine W_cs (k := L38.length) (n := wt L38) (by rw [eL38]) (by rw [eL38]) ?_
  refine W_st (st' := [.ref (ad40 c36), .ref (ad32 a)]) (by rw [ec36]) ?_
  have hT : y.1 = L38 ++ w37.1 := by rw [hT38, eL38]
  have h2 : y.2 = w37.2 := by rw [h2, ew37]
  have hl := lv_sub (l' := []) hl [] rfl
  refine W_st (st' := [.ref (ad40 c36), .ref (ad40 a)]) (by first | rfl | simp only [hn41 a hc]) ?_
  have hk : (xt G L38).2.1 a = 11 := by rw [eL38]; exact xt_k _ hc hk
  have hc : a < (xt G L38).1 := by rw [eL38]; exact xt_l _ hc
  have hk2 : (xt G L38).2.1 c2 = 12 := by rw [eL38]; exact xt_k _ hc2 hk2
  have hc2 : c2 < (xt G L38).1 := by rw [eL38]; exact xt_l _ hc2
  have hk10 : (xt G L38).2.1 c10 = 8 := by rw [eL38]; exact xt_k _ hc10 hk10
  have hc10 : c10 < (xt G L38).1 := by rw [eL38]; exact xt_l _ hc10
  have hk23 : (xt G L38).2.1 c23 = 1 := by rw [eL38]; exact xt_k _ hc23 hk23
  have hc23 : c23 < (xt G L38).1 := by rw [eL38]; exact xt_l _ hc23
  have hag := agr_t (xt_ge _ _) hag hn41
  have hc36 : c36 < (xt G L38).1 := by rw [ec36, eL38]; exact cnt_new _ _ _
  have hk36 : (xt G L38).2.1 c36 = 0 := by rw [ec36, eL38]; exact (kind_new _ _ _ _).1
  refine lv_dup hx hb dX11_init_38 rfl ?_
  obtain ⟨y42, hy42, hF⟩ := bnd_some hF
  obtain ⟨w43, hF, ew43⟩ := app_some hF
  obtain ⟨L44, eL44, hF⟩ := ltt_some hF
  have hT44 : y.1 = (L38 ++ y42.1) ++ w43.1 := by rw [hT, ew43]; simp only [List.append_assoc]
  have hf9 := wA_in hD hA9 hS
  refine va_callv (va_runI (As := []) (rest := [.ref (ad40 c36), .ref (ad40 a)]) ⟨hx, hb, hml, hown, hts⟩ (kX0_init l D ct ad40 Z (xt G L38) M39 _ c36 y42 hc36 hk36 hy42) (cwI 0 hts gX11_init_X0_init rfl rfl rfl (hts (.initialized RX0) (mu mw_175)) (hts (.methodLink RX11 30 yX0_init) (mu mw_716)) (hts (.instanceMethod yX0_init) (mu mw_717)) rfl (by decide +kernel) ⟨Nat.le_of_ble_eq_true rfl, Nat.le_of_ble_eq_true rfl⟩) ⟨fun a U g mk q => by obtain ⟨q0, q1, qP, qK, qD, qZ, qN⟩ := q; exact ⟨q0, q1, qP, va_K.moved (u := U) (U := U.calling g mk a) (Vm.Alike.refl U.vm) qK, qD, sF.moved (u := U) (U := U.calling g mk a) (Vm.Alike.refl U.vm) qZ, nF.same rfl qN⟩, fun U hU hW => ⟨rfl, by rw [hU], by rw [hU]; exact hP, va_K.moved hW.alike hK, hD.weaken (fun _ _ _ _ => trivial), by rw [hU]; exact ((hZ.kept hS.2.1).narrow hf9).moved hW.alike, hN.warm hW⟩⟩ rfl rfl hl.1 rfl (lv_room (Nat.le_of_ble_eq_true rfl)) dX11_init_39 (room_s hT44 hbl)) hS (fun q _ h => hf9 q h) hf9 (fun ad45 t H locs ht hvm hw hB hz1 hk1 hS => ?_)
  have hn46 := hw
  obtain ⟨hP, hK9, hD9⟩ := hB
  rw [ht] at hP
  have hD := hD9.weaken (fun _ q _ h => hf9 q.1 h)
  rw [xt_xt, ← eL44] at hP hD
  refine W_cs (k := L44.length) (n := wt L44) (by rw [eL44]; exact (len_s L38 y42.1).symm) (by rw [eL44]; exact (wt_app L38 y42.1).symm) ?_
  have hT : y.1 = L44 ++ w43.1 := by rw [hT44, eL44]
  have h2 : y.2 = w43.2 := by rw [h2, ew43]
  have hl := lv_sub (l' := []) hl [] rfl
  refine W_st (st' := [.ref (ad45 c36), .ref (ad45 a)]) (by first | rfl | simp only [hn46 c36 hc36, hn46 a hc]) ?_
  have hk : (xt G L44).2.1 a = 11 := by rw [eL44]; exact xt_k _ hc hk
  have hc : a < (xt G L44).1 := by rw [eL44]; exact xt_l _ hc
  have hk2 : (xt G L44).2.1 c2 = 12 := by rw [eL44]; exact xt_k _ hc2 hk2
  have hc2 : c2 < (xt G L44).1 := by rw [eL44]; exact xt_l _ hc2
  have hk10 : (xt G L44).2.1 c10 = 8 := by rw [eL44]; exact xt_k _ hc10 hk10
  have hc10 : c10 < (xt G L44).1 := by rw [eL44]; exact xt_l _ hc10
  have hk23 : (xt G L44).2.1 c23 = 1 := by rw [eL44]; exact xt_k _ hc23 hk23
  have hc23 : c23 < (xt G L44).1 := by rw [eL44]; exact xt_l _ hc23
  have hk36 : (xt G L44).2.1 c36 = 0 := by rw [eL44]; exact xt_k _ hc36 hk36
  have hc36 : c36 < (xt G L44).1 := by rw [eL44]; exact xt_l _ hc36
  have hag := agr_t (xt_ge _ _) hag hn46
  refine va_putF (D := D) (ci := 11) (v := va_re ad45 (some c36)) (ty := (.object "VideoSuite$Coder")) (C := RX11) (T := TX11) (N := 5) hx hb hts (mus hf_X11) tyX11 tyX11_ok nmX11 hown hK hP hD hS a (wld_o ct ad45 (xt G L44) y42.2 hc hk (by decide)) rfl 4 (by decide) (hts (.fieldLink RX11 31 "VideoSuite" "coder" "LVideoSuite$Coder;") (mu mw_886)) (fun _ h9 => h9) rfl hin rfl (by decide +kernel) (nar_q ad45 (Or.inl ⟨_, rfl⟩) (some c36)).1 (nar_q ad45 (Or.inl ⟨_, rfl⟩) (some c36)).2 (Nat.le_of_ble_eq_true rfl) dX11_init_42 (fun H locs hP hD hS => ?_)
  obtain ⟨M47, eM47, hF⟩ := ltt_some hF
  rw [set_oP ct ad45 (xt G L44) y42.2 hc hk (by decide) (by rfl), ← eM47] at hP hD
  obtain rfl := Option.some.inj hF
  have e1 : y.1 = L44 := by rw [hT]; exact List.append_nil _
  have e2 : y.2 = M47 := h2
  refine W.widen (k := y.1.length) (n := wt y.1) (Nat.le_of_eq (by rw [e1])) (Nat.le_of_eq (by rw [e1])) ?_
  exact W.vret hx hb hr (fun t ht hW => ⟨⟨ad45, rfl, hag, (by unfold kE; rw [e1, e2]; exact ⟨by rw [ht]; exact hP, va_K.moved hW.alike hK, hD⟩)⟩, hS.F ht⟩) hS.2.2 dX11_init_45
set_option maxRecDepth 20000 in
theorem gX1_readBlock_X5_number : GoodIn wuX1_readBlock (wsV RX1 179 RX5 yX5_number wuX5_number) := gu_V mw_1327 mw_1328 mw_1329 mw_169 mw_1330
set_option maxRecDepth 20000 in
set_option maxRecDepth 20000 in
theorem gX1_readBlock_X9_plan : GoodIn wuX1_readBlock (wsV RX1 406 RX9 yX9_plan wuX9_plan) := gu_V mw_2200 mw_1944 mw_1945 mw_171 mw_1946
set_option maxRecDepth 20000 in
theorem gX1_readBlock_X9_direct : GoodIn wuX1_readBlock (wsV RX1 380 RX9 yX9_direct wuX9_direct) := gu_V mw_1874 mw_1875 mw_1876 mw_171 mw_1877
set_option maxRecDepth 20000 in
set_option maxRecDepth 20000 in
theorem gX1_readBlock_X1_readSubs : GoodIn wuX1_readBlock (wsV RX1 403 RX1 yX1_readSubs wuX1_readSubs) := gu_V mw_2195 mw_2197 mw_97 mw_168 mw_2198
set_option maxRecDepth 20000 in
set_option maxRecDepth 20000 in
theorem gX1_readBlock_X1_readFour : GoodIn wuX1_readBlock (wsV RX1 400 RX1 yX1_readFour wuX1_readFour) := gu_V mw_2180 mw_2182 mw_95 mw_168 mw_2183
set_option maxRecDepth 20000 in
set_option maxRecDepth 20000 in
theorem gX1_readBlock_X1_readSixteen : GoodIn wuX1_readBlock (wsV RX1 397 RX1 yX1_readSixteen wuX1_readSixteen) := gu_V mw_2164 mw_2166 mw_93 mw_168 mw_2167
set_option maxRecDepth 20000 in
theorem dX1_readBlock_0 : decode cX1_readBlock 0 = .ok (.aload_n 0, 1) := by decide +kernel
theorem dX1_readBlock_1 : decode cX1_readBlock 1 = .ok (.iload_n 1, 1) := by decide +kernel
theorem dX1_readBlock_2 : decode cX1_readBlock 2 = .ok (.putfield 130, 3) := by decide +kernel
theorem dX1_readBlock_5 : decode cX1_readBlock 5 = .ok (.aload_n 0, 1) := by decide +kernel
theorem dX1_readBlock_6 : decode cX1_readBlock 6 = .ok (.getfield 28, 3) := by decide +kernel
theorem dX1_readBlock_9 : decode cX1_readBlock 9 = .ok (.iconst 0, 1) := by decide +kernel
theorem dX1_readBlock_10 : decode cX1_readBlock 10 = .ok (.putfield 391, 3) := by decide +kernel
theorem dX1_readBlock_13 : decode cX1_readBlock 13 = .ok (.aload_n 0, 1) := by decide +kernel
theorem dX1_readBlock_14 : decode cX1_readBlock 14 = .ok (.getfield 28, 3) := by decide +kernel
theorem dX1_readBlock_17 : decode cX1_readBlock 17 = .ok (.iconst 0, 1) := by decide +kernel
theorem dX1_readBlock_18 : decode cX1_readBlock 18 = .ok (.putfield 394, 3) := by decide +kernel
theorem dX1_readBlock_21 : decode cX1_readBlock 21 = .ok (.aload_n 0, 1) := by decide +kernel
theorem dX1_readBlock_22 : decode cX1_readBlock 22 = .ok (.getfield 72, 3) := by decide +kernel
theorem dX1_readBlock_25 : decode cX1_readBlock 25 = .ok (.getfield 212, 3) := by decide +kernel
theorem dX1_readBlock_28 : decode cX1_readBlock 28 = .ok (.iconst 1, 1) := by decide +kernel
theorem dX1_readBlock_29 : decode cX1_readBlock 29 = .ok (.iaload, 1) := by decide +kernel
theorem dX1_readBlock_30 : decode cX1_readBlock 30 = .ok (.istore_n 2, 1) := by decide +kernel
theorem dX1_readBlock_31 : decode cX1_readBlock 31 = .ok (.iload_n 2, 1) := by decide +kernel
theorem dX1_readBlock_32 : decode cX1_readBlock 32 = .ok (.iconst 2, 1) := by decide +kernel
theorem dX1_readBlock_33 : decode cX1_readBlock 33 = .ok (.if_icmp .ne 7, 3) := by decide +kernel
theorem dX1_readBlock_36 : decode cX1_readBlock 36 = .ok (.iconst 0, 1) := by decide +kernel
theorem dX1_readBlock_37 : decode cX1_readBlock 37 = .ok (.goto 13, 3) := by decide +kernel
theorem dX1_readBlock_40 : decode cX1_readBlock 40 = .ok (.iload_n 2, 1) := by decide +kernel
theorem dX1_readBlock_41 : decode cX1_readBlock 41 = .ok (.ifCond .ne 7, 3) := by decide +kernel
theorem dX1_readBlock_44 : decode cX1_readBlock 44 = .ok (.iconst 5, 1) := by decide +kernel
theorem dX1_readBlock_45 : decode cX1_readBlock 45 = .ok (.goto 5, 3) := by decide +kernel
theorem dX1_readBlock_48 : decode cX1_readBlock 48 = .ok (.bipush 23, 2) := by decide +kernel
theorem dX1_readBlock_50 : decode cX1_readBlock 50 = .ok (.istore_n 3, 1) := by decide +kernel
theorem dX1_readBlock_51 : decode cX1_readBlock 51 = .ok (.aload_n 0, 1) := by decide +kernel
theorem dX1_readBlock_52 : decode cX1_readBlock 52 = .ok (.getfield 12, 3) := by decide +kernel
theorem dX1_readBlock_55 : decode cX1_readBlock 55 = .ok (.iconst 1, 1) := by decide +kernel
theorem dX1_readBlock_56 : decode cX1_readBlock 56 = .ok (.iconst 0, 1) := by decide +kernel
theorem dX1_readBlock_57 : decode cX1_readBlock 57 = .ok (.lconst 0, 1) := by decide +kernel
theorem dX1_readBlock_58 : decode cX1_readBlock 58 = .ok (.bipush 25, 2) := by decide +kernel
theorem dX1_readBlock_60 : decode cX1_readBlock 60 = .ok (.iload_n 3, 1) := by decide +kernel
theorem dX1_readBlock_61 : decode cX1_readBlock 61 = .ok (.iadd, 1) := by decide +kernel
theorem dX1_readBlock_62 : decode cX1_readBlock 62 = .ok (.i2l, 1) := by decide +kernel
theorem dX1_readBlock_63 : decode cX1_readBlock 63 = .ok (.invokevirtual 179, 3) := by decide +kernel
theorem dX1_readBlock_66 : decode cX1_readBlock 66 = .ok (.istore 4, 2) := by decide +kernel
theorem dX1_readBlock_68 : decode cX1_readBlock 68 = .ok (.aload_n 0, 1) := by decide +kernel
theorem dX1_readBlock_69 : decode cX1_readBlock 69 = .ok (.getfield 28, 3) := by decide +kernel
theorem dX1_readBlock_72 : decode cX1_readBlock 72 = .ok (.getfield 355, 3) := by decide +kernel
theorem dX1_readBlock_75 : decode cX1_readBlock 75 = .ok (.bipush 8, 2) := by decide +kernel
theorem dX1_readBlock_77 : decode cX1_readBlock 77 = .ok (.iload_n 1, 1) := by decide +kernel
theorem dX1_readBlock_78 : decode cX1_readBlock 78 = .ok (.imul, 1) := by decide +kernel
theorem dX1_readBlock_79 : decode cX1_readBlock 79 = .ok (.iconst 1, 1) := by decide +kernel
theorem dX1_readBlock_80 : decode cX1_readBlock 80 = .ok (.iadd, 1) := by decide +kernel
theorem dX1_readBlock_81 : decode cX1_readBlock 81 = .ok (.iload 4, 2) := by decide +kernel
theorem dX1_readBlock_83 : decode cX1_readBlock 83 = .ok (.iastore, 1) := by decide +kernel
theorem dX1_readBlock_84 : decode cX1_readBlock 84 = .ok (.iload 4, 2) := by decide +kernel
theorem dX1_readBlock_86 : decode cX1_readBlock 86 = .ok (.iload_n 3, 1) := by decide +kernel
theorem dX1_readBlock_87 : decode cX1_readBlock 87 = .ok (.bipush 25, 2) := by decide +kernel
theorem dX1_readBlock_89 : decode cX1_readBlock 89 = .ok (.iadd, 1) := by decide +kernel
theorem dX1_readBlock_90 : decode cX1_readBlock 90 = .ok (.if_icmp .ne 21, 3) := by decide +kernel
theorem dX1_readBlock_93 : decode cX1_readBlock 93 = .ok (.aload_n 0, 1) := by decide +kernel
theorem dX1_readBlock_94 : decode cX1_readBlock 94 = .ok (.getfield 28, 3) := by decide +kernel
theorem dX1_readBlock_97 : decode cX1_readBlock 97 = .ok (.getfield 355, 3) := by decide +kernel
theorem dX1_readBlock_100 : decode cX1_readBlock 100 = .ok (.bipush 8, 2) := by decide +kernel
theorem dX1_readBlock_102 : decode cX1_readBlock 102 = .ok (.iload_n 1, 1) := by decide +kernel
theorem dX1_readBlock_103 : decode cX1_readBlock 103 = .ok (.imul, 1) := by decide +kernel
theorem dX1_readBlock_104 : decode cX1_readBlock 104 = .ok (.iconst 0, 1) := by decide +kernel
theorem dX1_readBlock_105 : decode cX1_readBlock 105 = .ok (.iadd, 1) := by decide +kernel
theorem dX1_readBlock_106 : decode cX1_readBlock 106 = .ok (.iconst 2, 1) := by decide +kernel
theorem dX1_readBlock_107 : decode cX1_readBlock 107 = .ok (.iastore, 1) := by decide +kernel
theorem dX1_readBlock_108 : decode cX1_readBlock 108 = .ok (.goto 143, 3) := by decide +kernel
theorem dX1_readBlock_111 : decode cX1_readBlock 111 = .ok (.iload 4, 2) := by decide +kernel
theorem dX1_readBlock_113 : decode cX1_readBlock 113 = .ok (.iload_n 3, 1) := by decide +kernel
theorem dX1_readBlock_114 : decode cX1_readBlock 114 = .ok (.if_icmp .le 17, 3) := by decide +kernel
theorem dX1_readBlock_117 : decode cX1_readBlock 117 = .ok (.aload_n 0, 1) := by decide +kernel
theorem dX1_readBlock_118 : decode cX1_readBlock 118 = .ok (.iload_n 1, 1) := by decide +kernel
theorem dX1_readBlock_119 : decode cX1_readBlock 119 = .ok (.iload 4, 2) := by decide +kernel
theorem dX1_readBlock_121 : decode cX1_readBlock 121 = .ok (.iload_n 3, 1) := by decide +kernel
theorem dX1_readBlock_122 : decode cX1_readBlock 122 = .ok (.isub, 1) := by decide +kernel
theorem dX1_readBlock_123 : decode cX1_readBlock 123 = .ok (.iconst 1, 1) := by decide +kernel
theorem dX1_readBlock_124 : decode cX1_readBlock 124 = .ok (.isub, 1) := by decide +kernel
theorem dX1_readBlock_125 : decode cX1_readBlock 125 = .ok (.invokevirtual 397, 3) := by decide +kernel
theorem dX1_readBlock_128 : decode cX1_readBlock 128 = .ok (.goto 123, 3) := by decide +kernel
theorem dX1_readBlock_131 : decode cX1_readBlock 131 = .ok (.iload 4, 2) := by decide +kernel
theorem dX1_readBlock_133 : decode cX1_readBlock 133 = .ok (.iload_n 3, 1) := by decide +kernel
theorem dX1_readBlock_134 : decode cX1_readBlock 134 = .ok (.if_icmp .ne 11, 3) := by decide +kernel
theorem dX1_readBlock_137 : decode cX1_readBlock 137 = .ok (.aload_n 0, 1) := by decide +kernel
theorem dX1_readBlock_138 : decode cX1_readBlock 138 = .ok (.iload_n 1, 1) := by decide +kernel
theorem dX1_readBlock_139 : decode cX1_readBlock 139 = .ok (.invokevirtual 400, 3) := by decide +kernel
theorem dX1_readBlock_142 : decode cX1_readBlock 142 = .ok (.goto 109, 3) := by decide +kernel
theorem dX1_readBlock_145 : decode cX1_readBlock 145 = .ok (.aload_n 0, 1) := by decide +kernel
theorem dX1_readBlock_146 : decode cX1_readBlock 146 = .ok (.getfield 28, 3) := by decide +kernel
theorem dX1_readBlock_149 : decode cX1_readBlock 149 = .ok (.getfield 355, 3) := by decide +kernel
theorem dX1_readBlock_152 : decode cX1_readBlock 152 = .ok (.bipush 8, 2) := by decide +kernel
theorem dX1_readBlock_154 : decode cX1_readBlock 154 = .ok (.iload_n 1, 1) := by decide +kernel
theorem dX1_readBlock_155 : decode cX1_readBlock 155 = .ok (.imul, 1) := by decide +kernel
theorem dX1_readBlock_156 : decode cX1_readBlock 156 = .ok (.iconst 0, 1) := by decide +kernel
theorem dX1_readBlock_157 : decode cX1_readBlock 157 = .ok (.iadd, 1) := by decide +kernel
theorem dX1_readBlock_158 : decode cX1_readBlock 158 = .ok (.iconst 3, 1) := by decide +kernel
theorem dX1_readBlock_159 : decode cX1_readBlock 159 = .ok (.iastore, 1) := by decide +kernel
theorem dX1_readBlock_160 : decode cX1_readBlock 160 = .ok (.iload_n 2, 1) := by decide +kernel
theorem dX1_readBlock_161 : decode cX1_readBlock 161 = .ok (.iconst 1, 1) := by decide +kernel
theorem dX1_readBlock_162 : decode cX1_readBlock 162 = .ok (.if_icmp .ne 13, 3) := by decide +kernel
theorem dX1_readBlock_165 : decode cX1_readBlock 165 = .ok (.iload 4, 2) := by decide +kernel
theorem dX1_readBlock_167 : decode cX1_readBlock 167 = .ok (.ifCond .ne 8, 3) := by decide +kernel
theorem dX1_readBlock_170 : decode cX1_readBlock 170 = .ok (.bipush 15, 2) := by decide +kernel
theorem dX1_readBlock_172 : decode cX1_readBlock 172 = .ok (.goto 4, 3) := by decide +kernel
theorem dX1_readBlock_175 : decode cX1_readBlock 175 = .ok (.iconst 0, 1) := by decide +kernel
theorem dX1_readBlock_176 : decode cX1_readBlock 176 = .ok (.istore 5, 2) := by decide +kernel
theorem dX1_readBlock_178 : decode cX1_readBlock 178 = .ok (.iload_n 2, 1) := by decide +kernel
theorem dX1_readBlock_179 : decode cX1_readBlock 179 = .ok (.iconst 1, 1) := by decide +kernel
theorem dX1_readBlock_180 : decode cX1_readBlock 180 = .ok (.if_icmp .ne 13, 3) := by decide +kernel
theorem dX1_readBlock_183 : decode cX1_readBlock 183 = .ok (.iload 4, 2) := by decide +kernel
theorem dX1_readBlock_185 : decode cX1_readBlock 185 = .ok (.bipush 22, 2) := by decide +kernel
theorem dX1_readBlock_187 : decode cX1_readBlock 187 = .ok (.if_icmp .ne 21, 3) := by decide +kernel
theorem dX1_readBlock_190 : decode cX1_readBlock 190 = .ok (.goto 9, 3) := by decide +kernel
theorem dX1_readBlock_193 : decode cX1_readBlock 193 = .ok (.iload 4, 2) := by decide +kernel
theorem dX1_readBlock_195 : decode cX1_readBlock 195 = .ok (.iconst 2, 1) := by decide +kernel
theorem dX1_readBlock_196 : decode cX1_readBlock 196 = .ok (.if_icmp .le 12, 3) := by decide +kernel
theorem dX1_readBlock_199 : decode cX1_readBlock 199 = .ok (.aload_n 0, 1) := by decide +kernel
theorem dX1_readBlock_200 : decode cX1_readBlock 200 = .ok (.iload_n 2, 1) := by decide +kernel
theorem dX1_readBlock_201 : decode cX1_readBlock 201 = .ok (.iload 4, 2) := by decide +kernel
theorem dX1_readBlock_203 : decode cX1_readBlock 203 = .ok (.invokevirtual 403, 3) := by decide +kernel
theorem dX1_readBlock_206 : decode cX1_readBlock 206 = .ok (.istore 5, 2) := by decide +kernel
theorem dX1_readBlock_208 : decode cX1_readBlock 208 = .ok (.iload 5, 2) := by decide +kernel
theorem dX1_readBlock_210 : decode cX1_readBlock 210 = .ok (.ifCond .eq 24, 3) := by decide +kernel
theorem dX1_readBlock_213 : decode cX1_readBlock 213 = .ok (.aload_n 0, 1) := by decide +kernel
theorem dX1_readBlock_214 : decode cX1_readBlock 214 = .ok (.getfield 28, 3) := by decide +kernel
theorem dX1_readBlock_217 : decode cX1_readBlock 217 = .ok (.iload_n 1, 1) := by decide +kernel
theorem dX1_readBlock_218 : decode cX1_readBlock 218 = .ok (.iload 5, 2) := by decide +kernel
theorem dX1_readBlock_220 : decode cX1_readBlock 220 = .ok (.invokevirtual 380, 3) := by decide +kernel
theorem dX1_readBlock_223 : decode cX1_readBlock 223 = .ok (.ifCond .ne 11, 3) := by decide +kernel
theorem dX1_readBlock_226 : decode cX1_readBlock 226 = .ok (.aload_n 0, 1) := by decide +kernel
theorem dX1_readBlock_227 : decode cX1_readBlock 227 = .ok (.getfield 12, 3) := by decide +kernel
theorem dX1_readBlock_230 : decode cX1_readBlock 230 = .ok (.iconst 4, 1) := by decide +kernel
theorem dX1_readBlock_231 : decode cX1_readBlock 231 = .ok (.invokevirtual 325, 3) := by decide +kernel
theorem dX1_readBlock_234 : decode cX1_readBlock 234 = .ok (.iload 5, 2) := by decide +kernel
theorem dX1_readBlock_236 : decode cX1_readBlock 236 = .ok (.bipush 15, 2) := by decide +kernel
theorem dX1_readBlock_238 : decode cX1_readBlock 238 = .ok (.if_icmp .eq 13, 3) := by decide +kernel
theorem dX1_readBlock_241 : decode cX1_readBlock 241 = .ok (.aload_n 0, 1) := by decide +kernel
theorem dX1_readBlock_242 : decode cX1_readBlock 242 = .ok (.getfield 28, 3) := by decide +kernel
theorem dX1_readBlock_245 : decode cX1_readBlock 245 = .ok (.iload_n 2, 1) := by decide +kernel
theorem dX1_readBlock_246 : decode cX1_readBlock 246 = .ok (.iload 4, 2) := by decide +kernel
theorem dX1_readBlock_248 : decode cX1_readBlock 248 = .ok (.invokevirtual 406, 3) := by decide +kernel
theorem dX1_readBlock_251 : decode cX1_readBlock 251 = .ok (.return_, 1) := by decide +kernel
def FX1_readBlock (G : GG) (M : DD) (a : Nat) (p0 : Int32) : Option (DD) :=
  ltt (uI M a 21 p0) fun M1 =>
  dr G 9 ((M1.2 a 2)) fun b2 =>
  ltt (uI M1 b2 14 ((0 : Int32))) fun M3 =>
  dr G 9 ((M3.2 a 2)) fun b4 =>
  ltt (uI M3 b4 16 ((0 : Int32))) fun M5 =>
  dr G 3 ((M5.2 a 11)) fun b6 =>
  dr G 13 ((M5.2 b6 0)) fun b7 =>
  chk (¬ (((1 : Int32)) < 0 ∨ G.2.2 b7 ≤ ((1 : Int32)).toNatClampNeg)) <|
  ltt (M5.1 b7 ((1 : Int32)).toNatClampNeg) fun x8 =>
  bnd (if x8 = ((2 : Int32)) then (some ((0 : Int32))) else
  (bnd (if x8 = ((0 : Int32)) then (some ((5 : Int32))) else
  (some ((23 : Int32)))) fun (y63 : Int32) =>
  some (y63))) fun (y9 : Int32) =>
  ltt ((((25 : Int32)) + y9)) fun x10 =>
  ltt (x10.toInt64) fun x11 =>
  dr G 5 ((M5.2 a 0)) fun b12 =>
  bnd (FX5_number G M5 b12 ((1 : Int32)) ((0 : Int32)) ((0 : Int64)) x11) fun y13 =>
  dr G 9 ((y13.1.2 a 2)) fun b14 =>
  ltt ((((8 : Int32)) * p0)) fun x15 =>
  ltt ((x15 + ((1 : Int32)))) fun x16 =>
  dr G 13 ((y13.1.2 b14 6)) fun b17 =>
  chk (¬ (x16 < 0 ∨ G.2.2 b17 ≤ x16.toNatClampNeg)) <|
  ltt (uI y13.1 b17 x16.toNatClampNeg y13.2) fun M18 =>
  ltt ((y9 + ((25 : Int32)))) fun x19 =>
  bnd (if y13.2 = x19 then (dr G 9 ((M18.2 a 2)) fun b57 =>
  ltt ((((8 : Int32)) * p0)) fun x58 =>
  ltt ((x58 + ((0 : Int32)))) fun x59 =>
  dr G 13 ((M18.2 b57 6)) fun b60 =>
  chk (¬ (x59 < 0 ∨ G.2.2 b60 ≤ x59.toNatClampNeg)) <|
  ltt (uI M18 b60 x59.toNatClampNeg ((2 : Int32))) fun M61 =>
  some (M61)) else
  (bnd (if y13.2 ≤ y9 then (bnd (if y13.2 = y9 then (bnd (FX1_readFour G M18 a p0) fun y53 =>
  some (y53)) else
  (dr G 9 ((M18.2 a 2)) fun b26 =>
  ltt ((((8 : Int32)) * p0)) fun x27 =>
  ltt ((x27 + ((0 : Int32)))) fun x28 =>
  dr G 13 ((M18.2 b26 6)) fun b29 =>
  chk (¬ (x28 < 0 ∨ G.2.2 b29 ≤ x28.toNatClampNeg)) <|
  ltt (uI M18 b29 x28.toNatClampNeg ((3 : Int32))) fun M30 =>
  bnd (if x8 = ((1 : Int32)) then (bnd (if y13.2 = ((0 : Int32)) then (some ((15 : Int32))) else
  (some ((0 : Int32)))) fun (y51 : Int32) =>
  some (y51)) else
  (some ((0 : Int32)))) fun (y31 : Int32) =>
  bnd (if x8 = ((1 : Int32)) then (bnd (if y13.2 = ((22 : Int32)) then (bnd (FX1_readSubs G M30 a x8 y13.2) fun y49 =>
  some (y49.2, y49.1)) else
  (some (y31, M30))) fun (y47 : Int32 × DD) =>
  some (y47.1, y47.2)) else
  (bnd (if y13.2 ≤ ((2 : Int32)) then (some (y31, M30)) else
  (bnd (FX1_readSubs G M30 a x8 y13.2) fun y46 =>
  some (y46.2, y46.1))) fun (y44 : Int32 × DD) =>
  some (y44.1, y44.2))) fun (y32 : Int32 × DD) =>
  bnd (if y32.1 = ((0 : Int32)) then (some (y32.2)) else
  (dr G 9 ((y32.2.2 a 2)) fun b39 =>
  bnd (FX9_direct G y32.2 b39 p0 y32.1) fun y40 =>
  bnd (if y40.2 = ((0 : Int32)) then (none) else
  (some (y40.1))) fun (y41 : DD) =>
  some (y41))) fun (y33 : DD) =>
  bnd (if y32.1 = ((15 : Int32)) then (some (y33)) else
  (dr G 9 ((y33.2 a 2)) fun b36 =>
  bnd (FX9_plan G y33 b36 x8 y13.2) fun y37 =>
  some (y37))) fun (y34 : DD) =>
  some (y34))) fun (y24 : DD) =>
  some (y24)) else
  (ltt ((y13.2 - y9)) fun x54 =>
  ltt ((x54 - ((1 : Int32)))) fun x55 =>
  bnd (FX1_readSixteen G M18 a p0 x55) fun y56 =>
  some (y56))) fun (y22 : DD) =>
  some (y22))) fun (y20 : DD) =>
  some y20
set_option maxHeartbeats 4000000 in
set_option maxRecDepth 100000 in
theorem kX1_readBlock (l : Launch) (D : va_G) (ct : CT) (ad : Nat → Nat) (Z : Nat → Nat) (G : GG) (M : DD) (sz : Nat) (a : Nat) (p0 : Int32) (y : DD) (hc : a < G.1) (hk : G.2.1 a = 1) (hF : FX1_readBlock G M a p0 = some y) : Met l yX1_readBlock wuX1_readBlock ({ frames := 4, cells := 0, slots := 0, locals := 109 }) (va_Pc [.ref (ad a), .int p0] (kB D ct ad Z G M sz)) (va_Qv (fun (_ : Unit) => True) (fun _ t => kE D ct ad G (wA ad G sz) y t) (wA ad G sz)) 0 0 (wA ad G sz) := by
  refine Met.ofW (cc := cX1_readBlock) (maxL := 6) (ret := none) (by decide) rfl ?_
  intro p e s m args below meth c s₁ B hml hv
  obtain ⟨rfl, hsz, hP, hK, hD0, hZ, hN⟩ := hv
  have hx := B.exec
  have hb := B.bytes
  have hr := B.returns
  have hts := atoms_spec (ws := wuX1_readBlock) B.pre
  have hown : s.vm.findClass RX1 = some m.cls := findClass_of_methodNamed B.named
  have hlocks := B.notSynchronized
  subst hsz
  have hD := wD_self (sz := s.heap.size) hD0
  have hA9 : ∀ q, s.heap.size ≤ q → wA ad G s.heap.size q := fun q h => Or.inr h
  generalize hAe : wA ad G s.heap.size = A at hD hA9 hZ ⊢
  have hS : va_S A s.heap s.heap [] := va_S.rf
  have hl := lv_entry ([.ref (ad a), .int p0]) (n := 6) (Nat.le_of_ble_eq_true rfl)
  rw [lg_entry_eq]
  generalize (lg_sl ([.ref (ad a), .int p0]) ++ List.replicate (6 - (lg_sl ([.ref (ad a), .int p0])).length) Slot.unset).toArray = ls at hl ⊢
  have hl : lv_has ls 6 [(0, .ref (ad a)), (1, .int p0)] := hl
  unfold FX1_readBlock at hF
  refine lv_aload_n hx hb dX1_readBlock_0 rfl (lv_at hl 0 rfl) ?_
  refine lv_iload_n hx hb dX1_readBlock_1 rfl (lv_at hl 1 rfl) ?_
  refine va_put (D := D) (ci := 1) (v := .int p0) (ty := .int) (C := RX1) (T := TX1) (N := 22) hx hb hts (mus hf_X1) tyX1 tyX1_ok nmX1 hown hK hP hD hS a (wld_o ct ad G M hc hk (by decide)) rfl 21 (by decide) (hts (.fieldLink RX1 130 "VideoSuite$Decoder" "current" "I") (mu mw_668)) (fun _ h9 => h9) rfl (by decide +kernel) rfl rfl (Nat.le_of_ble_eq_true rfl) dX1_readBlock_2 (fun H locs hP hD hS => ?_)
  obtain ⟨M1, eM1, hF⟩ := ltt_some hF
  rw [set_oI ct ad G M hc hk (by decide) (by rfl), ← eM1] at hP hD
  refine lv_aload_n hx hb dX1_readBlock_5 rfl (lv_at hl 0 rfl) ?_
  refine va_get (D := D) (ci := 1) (v := va_re ad (M1.2 a 2)) (C := RX1) (T := TX1) (N := 22) hx hb hts (mus hf_X1) hown hK hP a (wld_o ct ad G M1 hc hk (by decide)) rfl 2 (by decide) (hts (.fieldLink RX1 28 "VideoSuite$Decoder" "work" "LVideoSuite$Work;") (mu mw_644)) (fun _ h9 => h9) rfl dX1_readBlock_6 ?_
  refine lv_iconst (v := (0 : Int32)) hx hb dX1_readBlock_9 (by decide) ?_
  obtain ⟨b2, ho2, hc2, hk2, hF⟩ := dr_some hF
  refine W_st (st' := [.int (0 : Int32), .ref (ad b2)]) (by rw [va_some ho2]) ?_
  refine va_put (D := D) (ci := 9) (v := .int (0 : Int32)) (ty := .int) (C := RX9) (T := TX9) (N := 20) hx hb hts (mus hf_X9) tyX9 tyX9_ok nmX9 hown hK hP hD hS b2 (wld_o ct ad G M1 hc2 hk2 (by decide)) rfl 14 (by decide) (hts (.fieldLink RX1 391 "VideoSuite$Work" "parts" "I") (mu mw_470)) (fun _ h9 => h9) rfl (by decide +kernel) rfl rfl (Nat.le_of_ble_eq_true rfl) dX1_readBlock_10 (fun H locs hP hD hS => ?_)
  obtain ⟨M3, eM3, hF⟩ := ltt_some hF
  rw [set_oI ct ad G M1 hc2 hk2 (by decide) (by rfl), ← eM3] at hP hD
  refine lv_aload_n hx hb dX1_readBlock_13 rfl (lv_at hl 0 rfl) ?_
  refine va_get (D := D) (ci := 1) (v := va_re ad (M3.2 a 2)) (C := RX1) (T := TX1) (N := 22) hx hb hts (mus hf_X1) hown hK hP a (wld_o ct ad G M3 hc hk (by decide)) rfl 2 (by decide) (hts (.fieldLink RX1 28 "VideoSuite$Decoder" "work" "LVideoSuite$Work;") (mu mw_644)) (fun _ h9 => h9) rfl dX1_readBlock_14 ?_
  refine lv_iconst (v := (0 : Int32)) hx hb dX1_readBlock_17 (by decide) ?_
  obtain ⟨b4, ho4, hc4, hk4, hF⟩ := dr_some hF
  refine W_st (st' := [.int (0 : Int32), .ref (ad b4)]) (by rw [va_some ho4]) ?_
  refine va_put (D := D) (ci := 9) (v := .int (0 : Int32)) (ty := .int) (C := RX9) (T := TX9) (N := 20) hx hb hts (mus hf_X9) tyX9 tyX9_ok nmX9 hown hK hP hD hS b4 (wld_o ct ad G M3 hc4 hk4 (by decide)) rfl 16 (by decide) (hts (.fieldLink RX1 394 "VideoSuite$Work" "groups" "I") (mu mw_476)) (fun _ h9 => h9) rfl (by decide +kernel) rfl rfl (Nat.le_of_ble_eq_true rfl) dX1_readBlock_18 (fun H locs hP hD hS => ?_)
  obtain ⟨M5, eM5, hF⟩ := ltt_some hF
  rw [set_oI ct ad G M3 hc4 hk4 (by decide) (by rfl), ← eM5] at hP hD
  refine lv_aload_n hx hb dX1_readBlock_21 rfl (lv_at hl 0 rfl) ?_
  refine va_get (D := D) (ci := 1) (v := va_re ad (M5.2 a 11)) (C := RX1) (T := TX1) (N := 22) hx hb hts (mus hf_X1) hown hK hP a (wld_o ct ad G M5 hc hk (by decide)) rfl 11 (by decide) (hts (.fieldLink RX1 72 "VideoSuite$Decoder" "latest" "LVideoSuite$Header;") (mu mw_653)) (fun _ h9 => h9) rfl dX1_readBlock_22 ?_
  obtain ⟨b6, ho6, hc6, hk6, hF⟩ := dr_some hF
  refine W_st (st' := [.ref (ad b6)]) (by rw [va_some ho6]) ?_
  refine va_get (D := D) (ci := 3) (v := va_re ad (M5.2 b6 0)) (C := RX3) (T := TX3) (N := 4) hx hb hts (mus hf_X3) hown hK hP b6 (wld_o ct ad G M5 hc6 hk6 (by decide)) rfl 0 (by decide) (hts (.fieldLink RX1 212 "VideoSuite$Header" "v" "[I") (mu mw_618)) (fun _ h9 => h9) rfl dX1_readBlock_25 ?_
  refine lv_iconst (v := (1 : Int32)) hx hb dX1_readBlock_28 (by decide) ?_
  obtain ⟨b7, ho7, hc7, hk7, hF⟩ := dr_some hF
  refine W_st (st' := [.int (1 : Int32), .ref (ad b7)]) (by rw [va_some ho7]) ?_
  obtain ⟨hvc, hF⟩ := chk_some hF
  refine va_iald hx hb hK hP b7 1 (wld_i ct ad G M5 hc7 hk7) rfl hvc dX1_readBlock_29 ?_
  obtain ⟨x8, ex8, hF⟩ := ltt_some hF
  refine lv_topi (fun zx8 ezx8 => ?_)
  obtain rfl : x8 = zx8 := ex8.trans ezx8.symm
  refine lv_istore_n (lv' := [(2, .int x8), (0, .ref (ad a)), (1, .int p0)]) hx hb dX1_readBlock_30 rfl hl (by decide) rfl (fun ls hl => ?_)
  refine lv_iload_n hx hb dX1_readBlock_31 rfl (lv_at hl 0 rfl) ?_
  refine lv_iconst (v := (2 : Int32)) hx hb dX1_readBlock_32 (by decide) ?_
  obtain ⟨y9, hy9, hF⟩ := bnd_some hF
  have J9 : ∀ (H : Heap) (locs : List Loc) (ls : Array Slot), va_P D classes (wld ct ad G M5) H → va_D A (wld ct ad G M5) → va_S A s.heap H locs → lv_has ls 6 [(2, .int x8), (0, .ref (ad a)), (1, .int p0)] → W p l e (headSpec wuX1_readBlock ({ frames := 4, cells := 0, slots := 0, locals := 109 })).room s m ([.ref (ad a), .int p0] : List Value).toArray below meth c H locs 0 0 (MQ below (va_Qv (fun (_ : Unit) => True) (fun _ t => kE D ct ad G A y t) A) ([.ref (ad a), .int p0] : List Value).toArray s 0 0 A) (F0 m 50 ls [.int y9]) := by
    intro H locs ls hP hD hS hl
    refine lv_istore_n (lv' := [(3, .int y9), (2, .int x8), (0, .ref (ad a)), (1, .int p0)]) hx hb dX1_readBlock_50 rfl hl (by decide) rfl (fun ls hl => ?_)
    refine lv_aload_n hx hb dX1_readBlock_51 rfl (lv_at hl 2 rfl) ?_
    refine va_get (D := D) (ci := 1) (v := va_re ad (M5.2 a 0)) (C := RX1) (T := TX1) (N := 22) hx hb hts (mus hf_X1) hown hK hP a (wld_o ct ad G M5 hc hk (by decide)) rfl 0 (by decide) (hts (.fieldLink RX1 12 "VideoSuite$Decoder" "reader" "LVideoSuite$Reader;") (mu mw_640)) (fun _ h9 => h9) rfl dX1_readBlock_52 ?_
    refine lv_iconst (v := (1 : Int32)) hx hb dX1_readBlock_55 (by decide) ?_
    refine lv_iconst (v := (0 : Int32)) hx hb dX1_readBlock_56 (by decide) ?_
    refine lv_lconst (v := (0 : Int64)) hx hb dX1_readBlock_57 rfl ?_
    refine lv_bipush (v := (25 : Int32)) hx hb dX1_readBlock_58 (by decide) ?_
    refine lv_iload_n hx hb dX1_readBlock_60 rfl (lv_at hl 0 rfl) ?_
    refine lv_iadd hx hb dX1_readBlock_61 ?_
    obtain ⟨x10, ex10, hF⟩ := ltt_some hF
    refine lv_topi (fun zx10 ezx10 => ?_)
    obtain rfl : x10 = zx10 := ex10.trans ezx10.symm
    refine lv_i2l (v := x10.toInt64) hx hb dX1_readBlock_62 rfl ?_
    obtain ⟨x11, ex11, hF⟩ := ltt_some hF
    refine lv_topl (fun zx11 ezx11 => ?_)
    obtain rfl : x11 = zx11 := ex11.trans ezx11.symm
    obtain ⟨b12, ho12, hc12, hk12, hF⟩ := dr_some hF
    refine W_st (st' := [.long x11, .long (0 : Int64), .int (0 : Int32), .int (1 : Int32), .ref (ad b12)]) (by rw [va_some ho12]) ?_
    obtain ⟨y13, hy13, hF⟩ := bnd_some hF
    have hf9 := wA_in hD hA9 hS
    refine va_calli (va_runV (As := [.int (1 : Int32), .int (0 : Int32), .long (0 : Int64), .long x11]) (rest := []) ⟨hx, hb, hml, hown, hts⟩ (kX5_number l D ct ad Z G M5 H.size b12 ((1 : Int32)) ((0 : Int32)) ((0 : Int64)) x11 y13 hc12 hk12 hy13) (cwV 4 hts gX1_readBlock_X5_number rfl rfl rfl (by decide +kernel) ⟨Nat.le_of_ble_eq_true rfl, Nat.le_of_ble_eq_true rfl⟩) ⟨fun a U g mk q => by obtain ⟨q0, q1, qP, qK, qD, qZ, qN⟩ := q; exact ⟨q0, q1, qP, va_K.moved (u := U) (U := U.calling g mk a) (Vm.Alike.refl U.vm) qK, qD, sF.moved (u := U) (U := U.calling g mk a) (Vm.Alike.refl U.vm) qZ, nF.same rfl qN⟩, va_recv hK hP (ci := 5) (q0 := b12) rfl (wld_o ct ad G M5 hc12 hk12 (by decide)), fun U hU hW => ⟨rfl, by rw [hU], by rw [hU]; exact hP, va_K.moved hW.alike hK, hD.weaken (fun _ _ _ _ => trivial), by rw [hU]; exact ((hZ.kept hS.2.1).narrow hf9).moved hW.alike, hN.warm hW⟩⟩ rfl rfl hl.1 rfl (lv_room (Nat.le_of_ble_eq_true rfl)) dX1_readBlock_63 ⟨(Nat.zero_le _), (Nat.zero_le _)⟩) hS (fun q _ h => hf9 q h) hf9 (fun r u t H locs ht hvm hw hB hz1 hk1 hS => ?_)
    obtain ⟨hP, hK9, hD9⟩ := hB
    rw [ht] at hP
    try dsimp only at hw
    subst hw
    have hD := hD9.weaken (fun _ q _ h => hf9 q.1 h)
    refine lv_istore (lv' := [(4, .int y13.2), (3, .int y9), (2, .int x8), (0, .ref (ad a)), (1, .int p0)]) hx hb dX1_readBlock_66 hl (by decide) rfl (fun ls hl => ?_)
    refine lv_aload_n hx hb dX1_readBlock_68 rfl (lv_at hl 3 rfl) ?_
    refine va_get (D := D) (ci := 1) (v := va_re ad (y13.1.2 a 2)) (C := RX1) (T := TX1) (N := 22) hx hb hts (mus hf_X1) hown hK hP a (wld_o ct ad G y13.1 hc hk (by decide)) rfl 2 (by decide) (hts (.fieldLink RX1 28 "VideoSuite$Decoder" "work" "LVideoSuite$Work;") (mu mw_644)) (fun _ h9 => h9) rfl dX1_readBlock_69 ?_
    obtain ⟨b14, ho14, hc14, hk14, hF⟩ := dr_some hF
    refine W_st (st' := [.ref (ad b14)]) (by rw [va_some ho14]) ?_
    refine va_get (D := D) (ci := 9) (v := va_re ad (y13.1.2 b14 6)) (C := RX9) (T := TX9) (N := 20) hx hb hts (mus hf_X9) hown hK hP b14 (wld_o ct ad G y13.1 hc14 hk14 (by decide)) rfl 6 (by decide) (hts (.fieldLink RX1 355 "VideoSuite$Work" "info" "[I") (mu mw_444)) (fun _ h9 => h9) rfl dX1_readBlock_72 ?_
    refine lv_bipush (v := (8 : Int32)) hx hb dX1_readBlock_75 (by decide) ?_
    refine lv_iload_n hx hb dX1_readBlock_77 rfl (lv_at hl 4 rfl) ?_
    refine lv_imul hx hb dX1_readBlock_78 ?_
    obtain ⟨x15, ex15, hF⟩ := ltt_some hF
    refine lv_topi (fun zx15 ezx15 => ?_)
    obtain rfl : x15 = zx15 := ex15.trans ezx15.symm
    refine lv_iconst (v := (1 : Int32)) hx hb dX1_readBlock_79 (by decide) ?_
    refine lv_iadd hx hb dX1_readBlock_80 ?_
    obtain ⟨x16, ex16, hF⟩ := ltt_some hF
    refine lv_topi (fun zx16 ezx16 => ?_)
    obtain rfl : x16 = zx16 := ex16.trans ezx16.symm
    refine lv_iload hx hb dX1_readBlock_81 (lv_at hl 0 rfl) ?_
    obtain ⟨b17, ho17, hc17, hk17, hF⟩ := dr_some hF
    refine W_st (st' := [.int y13.2, .int x16, .ref (ad b17)]) (by rw [va_some ho17]) ?_
    obtain ⟨hvc, hF⟩ := chk_some hF
    refine va_iast hx hb hK hP hD hS b17 1 (wld_i ct ad G y13.1 hc17 hk17) rfl hvc dX1_readBlock_83 (fun H locs hP hD hS => ?_)
    obtain ⟨M18, eM18, hF⟩ := ltt_some hF
    rw [set_i ct ad G y13.1 hc17 hk17, ← eM18] at hP hD
    refine lv_iload hx hb dX1_readBlock_84 (lv_at hl 0 rfl) ?_
    refine lv_iload_n hx hb dX1_readBlock_86 rfl (lv_at hl 1 rfl) ?_
    refine lv_bipush (v := (25 : Int32)) hx hb dX1_readBlock_87 (by decide) ?_
    refine lv_iadd hx hb dX1_readBlock_89 ?_
    obtain ⟨x19, ex19, hF⟩ := ltt_some hF
    refine lv_topi (fun zx19 ezx19 => ?_)
    obtain rfl : x19 = zx19 := ex19.trans ezx19.symm
    obtain ⟨y20, hy20, hF⟩ := bnd_some hF
    have J20 : ∀ (H : Heap) (locs : List Loc) (ls : Array Slot), va_P D classes (wld ct ad G y20) H → va_D A (wld ct ad G y20) → va_S A s.heap H locs → lv_has ls 6 [(4, .int y13.2), (3, .int y9), (2, .int x8), (0, .ref (ad a)), (1, .int p0)] → W p l e (headSpec wuX1_readBlock ({ frames := 4, cells := 0, slots := 0, locals := 109 })).room s m ([.ref (ad a), .int p0] : List Value).toArray below meth c H locs 0 0 (MQ below (va_Qv (fun (_ : Unit) => True) (fun _ t => kE D ct ad G A y t) A) ([.ref (ad a), .int p0] : List Value).toArray s 0 0 A) (F0 m 251 ls []) := by
      intro H locs ls hP hD hS hl
      obtain rfl := Option.some.inj hF
      exact W.vret hx hb hr (fun t ht hW => ⟨⟨(), rfl, trivial, ⟨by rw [ht]; exact hP, va_K.moved hW.alike hK, hD⟩⟩, hS.F ht⟩) hS.2.2 dX1_readBlock_251
    clear hF
    have hF := hy20
    clear hy20
    refine lv_icmp_ne (tgt := 111) hx hb dX1_readBlock_90 (by decide) (fun c21 => ?_) (fun c21 => ?_)
    · rw [if_neg c21] at hF
      refine lv_iload hx hb dX1_readBlock_111 (lv_at hl 0 rfl) ?_
      refine lv_iload_n hx hb dX1_readBlock_113 rfl (lv_at hl 1 rfl) ?_
      obtain ⟨y22, hy22, hF⟩ := bnd_some hF
      have J22 : ∀ (H : Heap) (locs : List Loc) (ls : Array Slot), va_P D classes (wld ct ad G y22) H → va_D A (wld ct ad G y22) → va_S A s.heap H locs → lv_has ls 6 [(4, .int y13.2), (3, .int y9), (2, .int x8), (0, .ref (ad a)), (1, .int p0)] → W p l e (headSpec wuX1_readBlock ({ frames := 4, cells := 0, slots := 0, locals := 109 })).room s m ([.ref (ad a), .int p0] : List Value).toArray below meth c H locs 0 0 (MQ below (va_Qv (fun (_ : Unit) => True) (fun _ t => kE D ct ad G A y t) A) ([.ref (ad a), .int p0] : List Value).toArray s 0 0 A) (F0 m 251 ls []) := by
        intro H locs ls hP hD hS hl
        obtain rfl := Option.some.inj hF
        exact J20 _ _ _ hP hD hS (lv_sub hl [0, 1, 2, 3, 4] rfl)
      clear hF
      have hF := hy22
      clear hy22
      refine lv_icmp_le (tgt := 131) hx hb dX1_readBlock_114 (by decide) (fun c23 => ?_) (fun c23 => ?_)
      · rw [if_pos c23] at hF
        refine lv_iload hx hb dX1_readBlock_131 (lv_at hl 0 rfl) ?_
        refine lv_iload_n hx hb dX1_readBlock_133 rfl (lv_at hl 1 rfl) ?_
        obtain ⟨y24, hy24, hF⟩ := bnd_some hF
        have J24 : ∀ (H : Heap) (locs : List Loc) (ls : Array Slot), va_P D classes (wld ct ad G y24) H → va_D A (wld ct ad G y24) → va_S A s.heap H locs → lv_has ls 6 [(4, .int y13.2), (3, .int y9), (2, .int x8), (0, .ref (ad a)), (1, .int p0)] → W p l e (headSpec wuX1_readBlock ({ frames := 4, cells := 0, slots := 0, locals := 109 })).room s m ([.ref (ad a), .int p0] : List Value).toArray below meth c H locs 0 0 (MQ below (va_Qv (fun (_ : Unit) => True) (fun _ t => kE D ct ad G A y t) A) ([.ref (ad a), .int p0] : List Value).toArray s 0 0 A) (F0 m 251 ls []) := by
          intro H locs ls hP hD hS hl
          obtain rfl := Option.some.inj hF
          exact J22 _ _ _ hP hD hS (lv_sub hl [0, 1, 2, 3, 4] rfl)
        clear hF
        have hF := hy24
        clear hy24
        refine lv_icmp_ne (tgt := 145) hx hb dX1_readBlock_134 (by decide) (fun c25 => ?_) (fun c25 => ?_)
        · rw [if_neg c25] at hF
          refine lv_aload_n hx hb dX1_readBlock_145 rfl (lv_at hl 3 rfl) ?_
          refine va_get (D := D) (ci := 1) (v := va_re ad (M18.2 a 2)) (C := RX1) (T := TX1) (N := 22) hx hb hts (mus hf_X1) hown hK hP a (wld_o ct ad G M18 hc hk (by decide)) rfl 2 (by decide) (hts (.fieldLink RX1 28 "VideoSuite$Decoder" "work" "LVideoSuite$Work;") (mu mw_644)) (fun _ h9 => h9) rfl dX1_readBlock_146 ?_
          obtain ⟨b26, ho26, hc26, hk26, hF⟩ := dr_some hF
          refine W_st (st' := [.ref (ad b26)]) (by rw [va_some ho26]) ?_
          refine va_get (D := D) (ci := 9) (v := va_re ad (M18.2 b26 6)) (C := RX9) (T := TX9) (N := 20) hx hb hts (mus hf_X9) hown hK hP b26 (wld_o ct ad G M18 hc26 hk26 (by decide)) rfl 6 (by decide) (hts (.fieldLink RX1 355 "VideoSuite$Work" "info" "[I") (mu mw_444)) (fun _ h9 => h9) rfl dX1_readBlock_149 ?_
          refine lv_bipush (v := (8 : Int32)) hx hb dX1_readBlock_152 (by decide) ?_
          refine lv_iload_n hx hb dX1_readBlock_154 rfl (lv_at hl 4 rfl) ?_
          refine lv_imul hx hb dX1_readBlock_155 ?_
          obtain ⟨x27, ex27, hF⟩ := ltt_some hF
          refine lv_topi (fun zx27 ezx27 => ?_)
          obtain rfl : x27 = zx27 := ex27.trans ezx27.symm
          refine lv_iconst (v := (0 : Int32)) hx hb dX1_readBlock_156 (by decide) ?_
          refine lv_iadd hx hb dX1_readBlock_157 ?_
          obtain ⟨x28, ex28, hF⟩ := ltt_some hF
          refine lv_topi (fun zx28 ezx28 => ?_)
          obtain rfl : x28 = zx28 := ex28.trans ezx28.symm
          refine lv_iconst (v := (3 : Int32)) hx hb dX1_readBlock_158 (by decide) ?_
          obtain ⟨b29, ho29, hc29, hk29, hF⟩ := dr_some hF
          refine W_st (st' := [.int (3 : Int32), .int x28, .ref (ad b29)]) (by rw [va_some ho29]) ?_
          obtain ⟨hvc, hF⟩ := chk_some hF
          refine va_iast hx hb hK hP hD hS b29 1 (wld_i ct ad G M18 hc29 hk29) rfl hvc dX1_readBlock_159 (fun H locs hP hD hS => ?_)
          obtain ⟨M30, eM30, hF⟩ := ltt_some hF
          rw [set_i ct ad G M18 hc29 hk29, ← eM30] at hP hD
          refine lv_iload_n hx hb dX1_readBlock_160 rfl (lv_at hl 2 rfl) ?_
          refine lv_iconst (v := (1 : Int32)) hx hb dX1_readBlock_161 (by decide) ?_
          obtain ⟨y31, hy31, hF⟩ := bnd_some hF
          have J31 : ∀ (H : Heap) (locs : List Loc) (ls : Array Slot), va_P D classes (wld ct ad G M30) H → va_D A (wld ct ad G M30) → va_S A s.heap H locs → lv_has ls 6 [(4, .int y13.2), (3, .int y9), (2, .int x8), (0, .ref (ad a)), (1, .int p0)] → W p l e (headSpec wuX1_readBlock ({ frames := 4, cells := 0, slots := 0, locals := 109 })).room s m ([.ref (ad a), .int p0] : List Value).toArray below meth c H locs 0 0 (MQ below (va_Qv (fun (_ : Unit) => True) (fun _ t => kE D ct ad G A y t) A) ([.ref (ad a), .int p0] : List Value).toArray s 0 0 A) (F0 m 176 ls [.int y31]) := by
            intro H locs ls hP hD hS hl
            refine lv_istore (lv' := [(5, .int y31), (4, .int y13.2), (3, .int y9), (2, .int x8), (0, .ref (ad a)), (1, .int p0)]) hx hb dX1_readBlock_176 hl (by decide) rfl (fun ls hl => ?_)
            refine lv_iload_n hx hb dX1_readBlock_178 rfl (lv_at hl 3 rfl) ?_
            refine lv_iconst (v := (1 : Int32)) hx hb dX1_readBlock_179 (by decide) ?_
            obtain ⟨y32, hy32, hF⟩ := bnd_some hF
            have J32 : ∀ (H : Heap) (locs : List Loc) (ls : Array Slot), va_P D classes (wld ct ad G y32.2) H → va_D A (wld ct ad G y32.2) → va_S A s.heap H locs → lv_has ls 6 [(5, .int y32.1), (4, .int y13.2), (3, .int y9), (2, .int x8), (0, .ref (ad a)), (1, .int p0)] → W p l e (headSpec wuX1_readBlock ({ frames := 4, cells := 0, slots := 0, locals := 109 })).room s m ([.ref (ad a), .int p0] : List Value).toArray below meth c H locs 0 0 (MQ below (va_Qv (fun (_ : Unit) => True) (fun _ t => kE D ct ad G A y t) A) ([.ref (ad a), .int p0] : List Value).toArray s 0 0 A) (F0 m 208 ls []) := by
              intro H locs ls hP hD hS hl
              refine lv_iload hx hb dX1_readBlock_208 (lv_at hl 0 rfl) ?_
              obtain ⟨y33, hy33, hF⟩ := bnd_some hF
              have J33 : ∀ (H : Heap) (locs : List Loc) (ls : Array Slot), va_P D classes (wld ct ad G y33) H → va_D A (wld ct ad G y33) → va_S A s.heap H locs → lv_has ls 6 [(5, .int y32.1), (4, .int y13.2), (3, .int y9), (2, .int x8), (0, .ref (ad a)), (1, .int p0)] → W p l e (headSpec wuX1_readBlock ({ frames := 4, cells := 0, slots := 0, locals := 109 })).room s m ([.ref (ad a), .int p0] : List Value).toArray below meth c H locs 0 0 (MQ below (va_Qv (fun (_ : Unit) => True) (fun _ t => kE D ct ad G A y t) A) ([.ref (ad a), .int p0] : List Value).toArray s 0 0 A) (F0 m 234 ls []) := by
                intro H locs ls hP hD hS hl
                refine lv_iload hx hb dX1_readBlock_234 (lv_at hl 0 rfl) ?_
                refine lv_bipush (v := (15 : Int32)) hx hb dX1_readBlock_236 (by decide) ?_
                obtain ⟨y34, hy34, hF⟩ := bnd_some hF
                have J34 : ∀ (H : Heap) (locs : List Loc) (ls : Array Slot), va_P D classes (wld ct ad G y34) H → va_D A (wld ct ad G y34) → va_S A s.heap H locs → lv_has ls 6 [(5, .int y32.1), (4, .int y13.2), (3, .int y9), (2, .int x8), (0, .ref (ad a)), (1, .int p0)] → W p l e (headSpec wuX1_readBlock ({ frames := 4, cells := 0, slots := 0, locals := 109 })).room s m ([.ref (ad a), .int p0] : List Value).toArray below meth c H locs 0 0 (MQ below (va_Qv (fun (_ : Unit) => True) (fun _ t => kE D ct ad G A y t) A) ([.ref (ad a), .int p0] : List Value).toArray s 0 0 A) (F0 m 251 ls []) := by
                  intro H locs ls hP hD hS hl
                  obtain rfl := Option.some.inj hF
                  exact J24 _ _ _ hP hD hS (lv_sub hl [1, 2, 3, 4, 5] rfl)
                clear hF
                have hF := hy34
                clear hy34
                refine lv_icmp_eq (tgt := 251) hx hb dX1_readBlock_238 (by decide) (fun c35 => ?_) (fun c35 => ?_)
                · rw [if_pos c35] at hF
                  obtain rfl := Option.some.inj hF
                  exact J34 _ _ _ hP hD hS (lv_sub hl [0, 1, 2, 3, 4, 5] rfl)
                · rw [if_neg c35] at hF
                  refine lv_aload_n hx hb dX1_readBlock_241 rfl (lv_at hl 4 rfl) ?_
                  refine va_get (D := D) (ci := 1) (v := va_re ad (y33.2 a 2)) (C := RX1) (T := TX1) (N := 22) hx hb hts (mus hf_X1) hown hK hP a (wld_o ct ad G y33 hc hk (by decide)) rfl 2 (by decide) (hts (.fieldLink RX1 28 "VideoSuite$Decoder" "work" "LVideoSuite$Work;") (mu mw_644)) (fun _ h9 => h9) rfl dX1_readBlock_242 ?_
                  refine lv_iload_n hx hb dX1_readBlock_245 rfl (lv_at hl 3 rfl) ?_
                  refine lv_iload hx hb dX1_readBlock_246 (lv_at hl 1 rfl) ?_
                  obtain ⟨b36, ho36, hc36, hk36, hF⟩ := dr_some hF
                  refine W_st (st' := [.int y13.2, .int x8, .ref (ad b36)]) (by rw [va_some ho36]) ?_
                  obtain ⟨y37, hy37, hF⟩ := bnd_some hF
                  have hf9 := wA_in hD hA9 hS
                  refine va_callv (va_runV (As := [.int x8, .int y13.2]) (rest := []) ⟨hx, hb, hml, hown, hts⟩ (kX9_plan l D ct ad Z G y33 H.size b36 x8 y13.2 y37 hc36 hk36 hy37) (cwV 2 hts gX1_readBlock_X9_plan rfl rfl rfl (by decide +kernel) ⟨Nat.le_of_ble_eq_true rfl, Nat.le_of_ble_eq_true rfl⟩) ⟨fun a U g mk q => by obtain ⟨q0, q1, qP, qK, qD, qZ, qN⟩ := q; exact ⟨q0, q1, qP, va_K.moved (u := U) (U := U.calling g mk a) (Vm.Alike.refl U.vm) qK, qD, sF.moved (u := U) (U := U.calling g mk a) (Vm.Alike.refl U.vm) qZ, nF.same rfl qN⟩, va_recv hK hP (ci := 9) (q0 := b36) rfl (wld_o ct ad G y33 hc36 hk36 (by decide)), fun U hU hW => ⟨rfl, by rw [hU], by rw [hU]; exact hP, va_K.moved hW.alike hK, hD.weaken (fun _ _ _ _ => trivial), by rw [hU]; exact ((hZ.kept hS.2.1).narrow hf9).moved hW.alike, hN.warm hW⟩⟩ rfl rfl hl.1 rfl (lv_room (Nat.le_of_ble_eq_true rfl)) dX1_readBlock_248 ⟨(Nat.zero_le _), (Nat.zero_le _)⟩) hS (fun q _ h => hf9 q h) hf9 (fun u t H locs ht hvm hw hB hz1 hk1 hS => ?_)
                  obtain ⟨hP, hK9, hD9⟩ := hB
                  rw [ht] at hP
                  have hD := hD9.weaken (fun _ q _ h => hf9 q.1 h)
                  obtain rfl := Option.some.inj hF
                  exact J34 _ _ _ hP hD hS (lv_sub hl [0, 1, 2, 3, 4, 5] rfl)
              clear hF
              have hF := hy33
              clear hy33
              refine lv_if_eq (tgt := 234) hx hb dX1_readBlock_210 (by decide) (fun c38 => ?_) (fun c38 => ?_)
              · rw [if_pos c38] at hF
                obtain rfl := Option.some.inj hF
                exact J33 _ _ _ hP hD hS (lv_sub hl [0, 1, 2, 3, 4, 5] rfl)
              · rw [if_neg c38] at hF
                refine lv_aload_n hx hb dX1_readBlock_213 rfl (lv_at hl 4 rfl) ?_
                refine va_get (D := D) (ci := 1) (v := va_re ad (y32.2.2 a 2)) (C := RX1) (T := TX1) (N := 22) hx hb hts (mus hf_X1) hown hK hP a (wld_o ct ad G y32.2 hc hk (by decide)) rfl 2 (by decide) (hts (.fieldLink RX1 28 "VideoSuite$Decoder" "work" "LVideoSuite$Work;") (mu mw_644)) (fun _ h9 => h9) rfl dX1_readBlock_214 ?_
                refine lv_iload_n hx hb dX1_readBlock_217 rfl (lv_at hl 5 rfl) ?_
                refine lv_iload hx hb dX1_readBlock_218 (lv_at hl 0 rfl) ?_
                obtain ⟨b39, ho39, hc39, hk39, hF⟩ := dr_some hF
                refine W_st (st' := [.int y32.1, .int p0, .ref (ad b39)]) (by rw [va_some ho39]) ?_
                obtain ⟨y40, hy40, hF⟩ := bnd_some hF
                have hf9 := wA_in hD hA9 hS
                refine va_calli (va_runV (As := [.int p0, .int y32.1]) (rest := []) ⟨hx, hb, hml, hown, hts⟩ (kX9_direct l D ct ad Z G y32.2 H.size b39 p0 y32.1 y40 hc39 hk39 hy40) (cwV 2 hts gX1_readBlock_X9_direct rfl rfl rfl (by decide +kernel) ⟨Nat.le_of_ble_eq_true rfl, Nat.le_of_ble_eq_true rfl⟩) ⟨fun a U g mk q => by obtain ⟨q0, q1, qP, qK, qD, qZ, qN⟩ := q; exact ⟨q0, q1, qP, va_K.moved (u := U) (U := U.calling g mk a) (Vm.Alike.refl U.vm) qK, qD, sF.moved (u := U) (U := U.calling g mk a) (Vm.Alike.refl U.vm) qZ, nF.same rfl qN⟩, va_recv hK hP (ci := 9) (q0 := b39) rfl (wld_o ct ad G y32.2 hc39 hk39 (by decide)), fun U hU hW => ⟨rfl, by rw [hU], by rw [hU]; exact hP, va_K.moved hW.alike hK, hD.weaken (fun _ _ _ _ => trivial), by rw [hU]; exact ((hZ.kept hS.2.1).narrow hf9).moved hW.alike, hN.warm hW⟩⟩ rfl rfl hl.1 rfl (lv_room (Nat.le_of_ble_eq_true rfl)) dX1_readBlock_220 ⟨(Nat.zero_le _), (Nat.zero_le _)⟩) hS (fun q _ h => hf9 q h) hf9 (fun r u t H locs ht hvm hw hB hz1 hk1 hS => ?_)
                obtain ⟨hP, hK9, hD9⟩ := hB
                rw [ht] at hP
                try dsimp only at hw
                subst hw
                have hD := hD9.weaken (fun _ q _ h => hf9 q.1 h)
                obtain ⟨y41, hy41, hF⟩ := bnd_some hF
                have J41 : ∀ (H : Heap) (locs : List Loc) (ls : Array Slot), va_P D classes (wld ct ad G y41) H → va_D A (wld ct ad G y41) → va_S A s.heap H locs → lv_has ls 6 [(5, .int y32.1), (4, .int y13.2), (3, .int y9), (2, .int x8), (0, .ref (ad a)), (1, .int p0)] → W p l e (headSpec wuX1_readBlock ({ frames := 4, cells := 0, slots := 0, locals := 109 })).room s m ([.ref (ad a), .int p0] : List Value).toArray below meth c H locs 0 0 (MQ below (va_Qv (fun (_ : Unit) => True) (fun _ t => kE D ct ad G A y t) A) ([.ref (ad a), .int p0] : List Value).toArray s 0 0 A) (F0 m 234 ls []) := by
                  intro H locs ls hP hD hS hl
                  obtain rfl := Option.some.inj hF
                  exact J33 _ _ _ hP hD hS (lv_sub hl [0, 1, 2, 3, 4, 5] rfl)
                clear hF
                have hF := hy41
                clear hy41
                refine lv_if_ne (tgt := 234) hx hb dX1_readBlock_223 (by decide) (fun c42 => ?_) (fun c42 => ?_)
                · rw [if_neg c42] at hF
                  obtain rfl := Option.some.inj hF
                  exact J41 _ _ _ hP hD hS (lv_sub hl [0, 1, 2, 3, 4, 5] rfl)
                · rw [if_pos c42] at hF
                  refine lv_aload_n hx hb dX1_readBlock_226 rfl (lv_at hl 4 rfl) ?_
                  refine va_get (D := D) (ci := 1) (v := va_re ad (y40.1.2 a 0)) (C := RX1) (T := TX1) (N := 22) hx hb hts (mus hf_X1) hown hK hP a (wld_o ct ad G y40.1 hc hk (by decide)) rfl 0 (by decide) (hts (.fieldLink RX1 12 "VideoSuite$Decoder" "reader" "LVideoSuite$Reader;") (mu mw_640)) (fun _ h9 => h9) rfl dX1_readBlock_227 ?_
                  refine lv_iconst (v := (4 : Int32)) hx hb dX1_readBlock_230 (by decide) ?_
                  cases hF
            clear hF
            have hF := hy32
            clear hy32
            refine lv_icmp_ne (tgt := 193) hx hb dX1_readBlock_180 (by decide) (fun c43 => ?_) (fun c43 => ?_)
            · rw [if_neg c43] at hF
              refine lv_iload hx hb dX1_readBlock_193 (lv_at hl 1 rfl) ?_
              refine lv_iconst (v := (2 : Int32)) hx hb dX1_readBlock_195 (by decide) ?_
              obtain ⟨y44, hy44, hF⟩ := bnd_some hF
              have J44 : ∀ (H : Heap) (locs : List Loc) (ls : Array Slot), va_P D classes (wld ct ad G y44.2) H → va_D A (wld ct ad G y44.2) → va_S A s.heap H locs → lv_has ls 6 [(5, .int y44.1), (4, .int y13.2), (3, .int y9), (2, .int x8), (0, .ref (ad a)), (1, .int p0)] → W p l e (headSpec wuX1_readBlock ({ frames := 4, cells := 0, slots := 0, locals := 109 })).room s m ([.ref (ad a), .int p0] : List Value).toArray below meth c H locs 0 0 (MQ below (va_Qv (fun (_ : Unit) => True) (fun _ t => kE D ct ad G A y t) A) ([.ref (ad a), .int p0] : List Value).toArray s 0 0 A) (F0 m 208 ls []) := by
                intro H locs ls hP hD hS hl
                obtain rfl := Option.some.inj hF
                exact J32 _ _ _ hP hD hS (lv_sub hl [0, 1, 2, 3, 4, 5] rfl)
              clear hF
              have hF := hy44
              clear hy44
              refine lv_icmp_le (tgt := 208) hx hb dX1_readBlock_196 (by decide) (fun c45 => ?_) (fun c45 => ?_)
              · rw [if_pos c45] at hF
                obtain rfl := Option.some.inj hF
                exact J44 _ _ _ hP hD hS (lv_sub hl [0, 1, 2, 3, 4, 5] rfl)
              · rw [if_neg c45] at hF
                refine lv_aload_n hx hb dX1_readBlock_199 rfl (lv_at hl 4 rfl) ?_
                refine lv_iload_n hx hb dX1_readBlock_200 rfl (lv_at hl 3 rfl) ?_
                refine lv_iload hx hb dX1_readBlock_201 (lv_at hl 1 rfl) ?_
                obtain ⟨y46, hy46, hF⟩ := bnd_some hF
                have hf9 := wA_in hD hA9 hS
                refine va_calli (va_runV (As := [.int x8, .int y13.2]) (rest := []) ⟨hx, hb, hml, hown, hts⟩ (kX1_readSubs l D ct ad Z G M30 H.size a x8 y13.2 y46 hc hk hy46) (cwV 2 hts gX1_readBlock_X1_readSubs rfl rfl rfl (by decide +kernel) ⟨Nat.le_of_ble_eq_true rfl, Nat.le_of_ble_eq_true rfl⟩) ⟨fun a U g mk q => by obtain ⟨q0, q1, qP, qK, qD, qZ, qN⟩ := q; exact ⟨q0, q1, qP, va_K.moved (u := U) (U := U.calling g mk a) (Vm.Alike.refl U.vm) qK, qD, sF.moved (u := U) (U := U.calling g mk a) (Vm.Alike.refl U.vm) qZ, nF.same rfl qN⟩, va_recv hK hP (ci := 1) (q0 := a) rfl (wld_o ct ad G M30 hc hk (by decide)), fun U hU hW => ⟨rfl, by rw [hU], by rw [hU]; exact hP, va_K.moved hW.alike hK, hD.weaken (fun _ _ _ _ => trivial), by rw [hU]; exact ((hZ.kept hS.2.1).narrow hf9).moved hW.alike, hN.warm hW⟩⟩ rfl rfl hl.1 rfl (lv_room (Nat.le_of_ble_eq_true rfl)) dX1_readBlock_203 ⟨(Nat.zero_le _), (Nat.zero_le _)⟩) hS (fun q _ h => hf9 q h) hf9 (fun r u t H locs ht hvm hw hB hz1 hk1 hS => ?_)
                obtain ⟨hP, hK9, hD9⟩ := hB
                rw [ht] at hP
                try dsimp only at hw
                subst hw
                have hD := hD9.weaken (fun _ q _ h => hf9 q.1 h)
                refine lv_istore (lv' := [(5, .int y46.2), (4, .int y13.2), (3, .int y9), (2, .int x8), (0, .ref (ad a)), (1, .int p0)]) hx hb dX1_readBlock_206 hl (by decide) rfl (fun ls hl => ?_)
                obtain rfl := Option.some.inj hF
                exact J44 _ _ _ hP hD hS (lv_sub hl [0, 1, 2, 3, 4, 5] rfl)
            · rw [if_pos c43] at hF
              refine lv_iload hx hb dX1_readBlock_183 (lv_at hl 1 rfl) ?_
              refine lv_bipush (v := (22 : Int32)) hx hb dX1_readBlock_185 (by decide) ?_
              obtain ⟨y47, hy47, hF⟩ := bnd_some hF
              have J47 : ∀ (H : Heap) (locs : List Loc) (ls : Array Slot), va_P D classes (wld ct ad G y47.2) H → va_D A (wld ct ad G y47.2) → va_S A s.heap H locs → lv_has ls 6 [(5, .int y47.1), (4, .int y13.2), (3, .int y9), (2, .int x8), (0, .ref (ad a)), (1, .int p0)] → W p l e (headSpec wuX1_readBlock ({ frames := 4, cells := 0, slots := 0, locals := 109 })).room s m ([.ref (ad a), .int p0] : List Value).toArray below meth c H locs 0 0 (MQ below (va_Qv (fun (_ : Unit) => True) (fun _ t => kE D ct ad G A y t) A) ([.ref (ad a), .int p0] : List Value).toArray s 0 0 A) (F0 m 208 ls []) := by
                intro H locs ls hP hD hS hl
                obtain rfl := Option.some.inj hF
                exact J32 _ _ _ hP hD hS (lv_sub hl [0, 1, 2, 3, 4, 5] rfl)
              clear hF
              have hF := hy47
              clear hy47
              refine lv_icmp_ne (tgt := 208) hx hb dX1_readBlock_187 (by decide) (fun c48 => ?_) (fun c48 => ?_)
              · rw [if_neg c48] at hF
                obtain rfl := Option.some.inj hF
                exact J47 _ _ _ hP hD hS (lv_sub hl [0, 1, 2, 3, 4, 5] rfl)
              · rw [if_pos c48] at hF
                refine lv_goto (tgt := 199) hx hb dX1_readBlock_190 (by decide) ?_
                refine lv_aload_n hx hb dX1_readBlock_199 rfl (lv_at hl 4 rfl) ?_
                refine lv_iload_n hx hb dX1_readBlock_200 rfl (lv_at hl 3 rfl) ?_
                refine lv_iload hx hb dX1_readBlock_201 (lv_at hl 1 rfl) ?_
                obtain ⟨y49, hy49, hF⟩ := bnd_some hF
                have hf9 := wA_in hD hA9 hS
                refine va_calli (va_runV (As := [.int x8, .int y13.2]) (rest := []) ⟨hx, hb, hml, hown, hts⟩ (kX1_readSubs l D ct ad Z G M30 H.size a x8 y13.2 y49 hc hk hy49) (cwV 2 hts gX1_readBlock_X1_readSubs rfl rfl rfl (by decide +kernel) ⟨Nat.le_of_ble_eq_true rfl, Nat.le_of_ble_eq_true rfl⟩) ⟨fun a U g mk q => by obtain ⟨q0, q1, qP, qK, qD, qZ, qN⟩ := q; exact ⟨q0, q1, qP, va_K.moved (u := U) (U := U.calling g mk a) (Vm.Alike.refl U.vm) qK, qD, sF.moved (u := U) (U := U.calling g mk a) (Vm.Alike.refl U.vm) qZ, nF.same rfl qN⟩, va_recv hK hP (ci := 1) (q0 := a) rfl (wld_o ct ad G M30 hc hk (by decide)), fun U hU hW => ⟨rfl, by rw [hU], by rw [hU]; exact hP, va_K.moved hW.alike hK, hD.weaken (fun _ _ _ _ => trivial), by rw [hU]; exact ((hZ.kept hS.2.1).narrow hf9).moved hW.alike, hN.warm hW⟩⟩ rfl rfl hl.1 rfl (lv_room (Nat.le_of_ble_eq_true rfl)) dX1_readBlock_203 ⟨(Nat.zero_le _), (Nat.zero_le _)⟩) hS (fun q _ h => hf9 q h) hf9 (fun r u t H locs ht hvm hw hB hz1 hk1 hS => ?_)
                obtain ⟨hP, hK9, hD9⟩ := hB
                rw [ht] at hP
                try dsimp only at hw
                subst hw
                have hD := hD9.weaken (fun _ q _ h => hf9 q.1 h)
                refine lv_istore (lv' := [(5, .int y49.2), (4, .int y13.2), (3, .int y9), (2, .int x8), (0, .ref (ad a)), (1, .int p0)]) hx hb dX1_readBlock_206 hl (by decide) rfl (fun ls hl => ?_)
                obtain rfl := Option.some.inj hF
                exact J47 _ _ _ hP hD hS (lv_sub hl [0, 1, 2, 3, 4, 5] rfl)
          clear hF
          have hF := hy31
          clear hy31
          refine lv_icmp_ne (tgt := 175) hx hb dX1_readBlock_162 (by decide) (fun c50 => ?_) (fun c50 => ?_)
          · rw [if_neg c50] at hF
            refine lv_iconst (v := (0 : Int32)) hx hb dX1_readBlock_175 (by decide) ?_
            obtain rfl := Option.some.inj hF
            exact J31 _ _ _ hP hD hS (lv_sub hl [0, 1, 2, 3, 4] rfl)
          · rw [if_pos c50] at hF
            refine lv_iload hx hb dX1_readBlock_165 (lv_at hl 0 rfl) ?_
            obtain ⟨y51, hy51, hF⟩ := bnd_some hF
            have J51 : ∀ (H : Heap) (locs : List Loc) (ls : Array Slot), va_P D classes (wld ct ad G M30) H → va_D A (wld ct ad G M30) → va_S A s.heap H locs → lv_has ls 6 [(4, .int y13.2), (3, .int y9), (2, .int x8), (0, .ref (ad a)), (1, .int p0)] → W p l e (headSpec wuX1_readBlock ({ frames := 4, cells := 0, slots := 0, locals := 109 })).room s m ([.ref (ad a), .int p0] : List Value).toArray below meth c H locs 0 0 (MQ below (va_Qv (fun (_ : Unit) => True) (fun _ t => kE D ct ad G A y t) A) ([.ref (ad a), .int p0] : List Value).toArray s 0 0 A) (F0 m 176 ls [.int y51]) := by
              intro H locs ls hP hD hS hl
              obtain rfl := Option.some.inj hF
              exact J31 _ _ _ hP hD hS (lv_sub hl [0, 1, 2, 3, 4] rfl)
            clear hF
            have hF := hy51
            clear hy51
            refine lv_if_ne (tgt := 175) hx hb dX1_readBlock_167 (by decide) (fun c52 => ?_) (fun c52 => ?_)
            · rw [if_neg c52] at hF
              refine lv_iconst (v := (0 : Int32)) hx hb dX1_readBlock_175 (by decide) ?_
              obtain rfl := Option.some.inj hF
              exact J51 _ _ _ hP hD hS (lv_sub hl [0, 1, 2, 3, 4] rfl)
            · rw [if_pos c52] at hF
              refine lv_bipush (v := (15 : Int32)) hx hb dX1_readBlock_170 (by decide) ?_
              refine lv_goto (tgt := 176) hx hb dX1_readBlock_172 (by decide) ?_
              obtain rfl := Option.some.inj hF
              exact J51 _ _ _ hP hD hS (lv_sub hl [0, 1, 2, 3, 4] rfl)
        · rw [if_pos c25] at hF
          refine lv_aload_n hx hb dX1_readBlock_137 rfl (lv_at hl 3 rfl) ?_
          refine lv_iload_n hx hb dX1_readBlock_138 rfl (lv_at hl 4 rfl) ?_
          obtain ⟨y53, hy53, hF⟩ := bnd_some hF
          have hf9 := wA_in hD hA9 hS
          refine va_callv (va_runV (As := [.int p0]) (rest := []) ⟨hx, hb, hml, hown, hts⟩ (kX1_readFour l D ct ad Z G M18 H.size a p0 y53 hc hk hy53) (cwV 1 hts gX1_readBlock_X1_readFour rfl rfl rfl (by decide +kernel) ⟨Nat.le_of_ble_eq_true rfl, Nat.le_of_ble_eq_true rfl⟩) ⟨fun a U g mk q => by obtain ⟨q0, q1, qP, qK, qD, qZ, qN⟩ := q; exact ⟨q0, q1, qP, va_K.moved (u := U) (U := U.calling g mk a) (Vm.Alike.refl U.vm) qK, qD, sF.moved (u := U) (U := U.calling g mk a) (Vm.Alike.refl U.vm) qZ, nF.same rfl qN⟩, va_recv hK hP (ci := 1) (q0 := a) rfl (wld_o ct ad G M18 hc hk (by decide)), fun U hU hW => ⟨rfl, by rw [hU], by rw [hU]; exact hP, va_K.moved hW.alike hK, hD.weaken (fun _ _ _ _ => trivial), by rw [hU]; exact ((hZ.kept hS.2.1).narrow hf9).moved hW.alike, hN.warm hW⟩⟩ rfl rfl hl.1 rfl (lv_room (Nat.le_of_ble_eq_true rfl)) dX1_readBlock_139 ⟨(Nat.zero_le _), (Nat.zero_le _)⟩) hS (fun q _ h => hf9 q h) hf9 (fun u t H locs ht hvm hw hB hz1 hk1 hS => ?_)
          obtain ⟨hP, hK9, hD9⟩ := hB
          rw [ht] at hP
          have hD := hD9.weaken (fun _ q _ h => hf9 q.1 h)
          refine lv_goto (tgt := 251) hx hb dX1_readBlock_142 (by decide) ?_
          obtain rfl := Option.some.inj hF
          exact J24 _ _ _ hP hD hS (lv_sub hl [0, 1, 2, 3, 4] rfl)
      · rw [if_neg c23] at hF
        refine lv_aload_n hx hb dX1_readBlock_117 rfl (lv_at hl 3 rfl) ?_
        refine lv_iload_n hx hb dX1_readBlock_118 rfl (lv_at hl 4 rfl) ?_
        refine lv_iload hx hb dX1_readBlock_119 (lv_at hl 0 rfl) ?_
        refine lv_iload_n hx hb dX1_readBlock_121 rfl (lv_at hl 1 rfl) ?_
        refine lv_isub hx hb dX1_readBlock_122 ?_
        obtain ⟨x54, ex54, hF⟩ := ltt_some hF
        refine lv_topi (fun zx54 ezx54 => ?_)
        obtain rfl : x54 = zx54 := ex54.trans ezx54.symm
        refine lv_iconst (v := (1 : Int32)) hx hb dX1_readBlock_123 (by decide) ?_
        refine lv_isub hx hb dX1_readBlock_124 ?_
        obtain ⟨x55, ex55, hF⟩ := ltt_some hF
        refine lv_topi (fun zx55 ezx55 => ?_)
        obtain rfl : x55 = zx55 := ex55.trans ezx55.symm
        obtain ⟨y56, hy56, hF⟩ := bnd_some hF
        have hf9 := wA_in hD hA9 hS
        refine va_callv (va_runV (As := [.int p0, .int x55]) (rest := []) ⟨hx, hb, hml, hown, hts⟩ (kX1_readSixteen l D ct ad Z G M18 H.size a p0 x55 y56 hc hk hy56) (cwV 2 hts gX1_readBlock_X1_readSixteen rfl rfl rfl (by decide +kernel) ⟨Nat.le_of_ble_eq_true rfl, Nat.le_of_ble_eq_true rfl⟩) ⟨fun a U g mk q => by obtain ⟨q0, q1, qP, qK, qD, qZ, qN⟩ := q; exact ⟨q0, q1, qP, va_K.moved (u := U) (U := U.calling g mk a) (Vm.Alike.refl U.vm) qK, qD, sF.moved (u := U) (U := U.calling g mk a) (Vm.Alike.refl U.vm) qZ, nF.same rfl qN⟩, va_recv hK hP (ci := 1) (q0 := a) rfl (wld_o ct ad G M18 hc hk (by decide)), fun U hU hW => ⟨rfl, by rw [hU], by rw [hU]; exact hP, va_K.moved hW.alike hK, hD.weaken (fun _ _ _ _ => trivial), by rw [hU]; exact ((hZ.kept hS.2.1).narrow hf9).moved hW.alike, hN.warm hW⟩⟩ rfl rfl hl.1 rfl (lv_room (Nat.le_of_ble_eq_true rfl)) dX1_readBlock_125 ⟨(Nat.zero_le _), (Nat.zero_le _)⟩) hS (fun q _ h => hf9 q h) hf9 (fun u t H locs ht hvm hw hB hz1 hk1 hS => ?_)
        obtain ⟨hP, hK9, hD9⟩ := hB
        rw [ht] at hP
        have hD := hD9.weaken (fun _ q _ h => hf9 q.1 h)
        refine lv_goto (tgt := 251) hx hb dX1_readBlock_128 (by decide) ?_
        obtain rfl := Option.some.inj hF
        exact J22 _ _ _ hP hD hS (lv_sub hl [0, 1, 2, 3, 4] rfl)
    · rw [if_pos c21] at hF
      refine lv_aload_n hx hb dX1_readBlock_93 rfl (lv_at hl 3 rfl) ?_
      refine va_get (D := D) (ci := 1) (v := va_re ad (M18.2 a 2)) (C := RX1) (T := TX1) (N := 22) hx hb hts (mus hf_X1) hown hK hP a (wld_o ct ad G M18 hc hk (by decide)) rfl 2 (by decide) (hts (.fieldLink RX1 28 "VideoSuite$Decoder" "work" "LVideoSuite$Work;") (mu mw_644)) (fun _ h9 => h9) rfl dX1_readBlock_94 ?_
      obtain ⟨b57, ho57, hc57, hk57, hF⟩ := dr_some hF
      refine W_st (st' := [.ref (ad b57)]) (by rw [va_some ho57]) ?_
      refine va_get (D := D) (ci := 9) (v := va_re ad (M18.2 b57 6)) (C := RX9) (T := TX9) (N := 20) hx hb hts (mus hf_X9) hown hK hP b57 (wld_o ct ad G M18 hc57 hk57 (by decide)) rfl 6 (by decide) (hts (.fieldLink RX1 355 "VideoSuite$Work" "info" "[I") (mu mw_444)) (fun _ h9 => h9) rfl dX1_readBlock_97 ?_
      refine lv_bipush (v := (8 : Int32)) hx hb dX1_readBlock_100 (by decide) ?_
      refine lv_iload_n hx hb dX1_readBlock_102 rfl (lv_at hl 4 rfl) ?_
      refine lv_imul hx hb dX1_readBlock_103 ?_
      obtain ⟨x58, ex58, hF⟩ := ltt_some hF
      refine lv_topi (fun zx58 ezx58 => ?_)
      obtain rfl : x58 = zx58 := ex58.trans ezx58.symm
      refine lv_iconst (v := (0 : Int32)) hx hb dX1_readBlock_104 (by decide) ?_
      refine lv_iadd hx hb dX1_readBlock_105 ?_
      obtain ⟨x59, ex59, hF⟩ := ltt_some hF
      refine lv_topi (fun zx59 ezx59 => ?_)
      obtain rfl : x59 = zx59 := ex59.trans ezx59.symm
      refine lv_iconst (v := (2 : Int32)) hx hb dX1_readBlock_106 (by decide) ?_
      obtain ⟨b60, ho60, hc60, hk60, hF⟩ := dr_some hF
      refine W_st (st' := [.int (2 : Int32), .int x59, .ref (ad b60)]) (by rw [va_some ho60]) ?_
      obtain ⟨hvc, hF⟩ := chk_some hF
      refine va_iast hx hb hK hP hD hS b60 1 (wld_i ct ad G M18 hc60 hk60) rfl hvc dX1_readBlock_107 (fun H locs hP hD hS => ?_)
      obtain ⟨M61, eM61, hF⟩ := ltt_some hF
      rw [set_i ct ad G M18 hc60 hk60, ← eM61] at hP hD
      refine lv_goto (tgt := 251) hx hb dX1_readBlock_108 (by decide) ?_
      obtain rfl := Option.some.inj hF
      exact J20 _ _ _ hP hD hS (lv_sub hl [0, 1, 2, 3, 4] rfl)
  clear hF
  have hF := hy9
  clear hy9
  refine lv_icmp_ne (tgt := 40) hx hb dX1_readBlock_33 (by decide) (fun c62 => ?_) (fun c62 => ?_)
  · rw [if_neg c62] at hF
    refine lv_iload_n hx hb dX1_readBlock_40 rfl (lv_at hl 0 rfl) ?_
    obtain ⟨y63, hy63, hF⟩ := bnd_some hF
    have J63 : ∀ (H : Heap) (locs : List Loc) (ls : Array Slot), va_P D classes (wld ct ad G M5) H → va_D A (wld ct ad G M5) → va_S A s.heap H locs → lv_has ls 6 [(2, .int x8), (0, .ref (ad a)), (1, .int p0)] → W p l e (headSpec wuX1_readBlock ({ frames := 4, cells := 0, slots := 0, locals := 109 })).room s m ([.ref (ad a), .int p0] : List Value).toArray below meth c H locs 0 0 (MQ below (va_Qv (fun (_ : Unit) => True) (fun _ t => kE D ct ad G A y t) A) ([.ref (ad a), .int p0] : List Value).toArray s 0 0 A) (F0 m 50 ls [.int y63]) := by
      intro H locs ls hP hD hS hl
      obtain rfl := Option.some.inj hF
      exact J9 _ _ _ hP hD hS (lv_sub hl [0, 1, 2] rfl)
    clear hF
    have hF := hy63
    clear hy63
    refine lv_if_ne (tgt := 48) hx hb dX1_readBlock_41 (by decide) (fun c64 => ?_) (fun c64 => ?_)
    · rw [if_neg c64] at hF
      refine lv_bipush (v := (23 : Int32)) hx hb dX1_readBlock_48 (by decide) ?_
      obtain rfl := Option.some.inj hF
      exact J63 _ _ _ hP hD hS (lv_sub hl [0, 1, 2] rfl)
    · rw [if_pos c64] at hF
      refine lv_iconst (v := (5 : Int32)) hx hb dX1_readBlock_44 (by decide) ?_
      refine lv_goto (tgt := 50) hx hb dX1_readBlock_45 (by decide) ?_
      obtain rfl := Option.some.inj hF
      exact J63 _ _ _ hP hD hS (lv_sub hl [0, 1, 2] rfl)
  · rw [if_pos c62] at hF
    refine lv_iconst (v := (0 : Int32)) hx hb dX1_readBlock_36 (by decide) ?_
    refine lv_goto (tgt := 50) hx hb dX1_readBlock_37 (by decide) ?_
    obtain rfl := Option.some.inj hF
    exact J9 _ _ _ hP hD hS (lv_sub hl [0, 1, 2] rfl)
set_option maxRecDepth 20000 in
theorem gX1_readLevels_X9_tokenTable : GoodIn wuX1_readLevels (wsV RX1 491 RX9 yX9_tokenTable wuX9_tokenTable) := gu_V mw_2242 mw_2243 mw_2244 mw_171 mw_2245
set_option maxRecDepth 20000 in
set_option maxRecDepth 20000 in
theorem gX1_readLevels_X9_levelAt : GoodIn wuX1_readLevels (va_wsS RX1 494 yX9_levelAt wuX9_levelAt) := gu_S mw_2250 mw_1789 mw_171 mw_1790
set_option maxRecDepth 20000 in
set_option maxRecDepth 20000 in
theorem gX1_readLevels_X5_levels : GoodIn wuX1_readLevels (wsV RX1 497 RX5 yX5_levels wuX5_levels) := gu_V mw_2251 mw_2252 mw_2253 mw_169 mw_2254
theorem dX1_readLevels_0 : decode cX1_readLevels 0 = .ok (.bipush 8, 2) := by decide +kernel
theorem dX1_readLevels_2 : decode cX1_readLevels 2 = .ok (.iload_n 1, 1) := by decide +kernel
theorem dX1_readLevels_3 : decode cX1_readLevels 3 = .ok (.imul, 1) := by decide +kernel
theorem dX1_readLevels_4 : decode cX1_readLevels 4 = .ok (.istore_n 2, 1) := by decide +kernel
theorem dX1_readLevels_5 : decode cX1_readLevels 5 = .ok (.aload_n 0, 1) := by decide +kernel
theorem dX1_readLevels_6 : decode cX1_readLevels 6 = .ok (.getfield 28, 3) := by decide +kernel
theorem dX1_readLevels_9 : decode cX1_readLevels 9 = .ok (.getfield 488, 3) := by decide +kernel
theorem dX1_readLevels_12 : decode cX1_readLevels 12 = .ok (.astore_n 3, 1) := by decide +kernel
theorem dX1_readLevels_13 : decode cX1_readLevels 13 = .ok (.aload_n 0, 1) := by decide +kernel
theorem dX1_readLevels_14 : decode cX1_readLevels 14 = .ok (.getfield 28, 3) := by decide +kernel
theorem dX1_readLevels_17 : decode cX1_readLevels 17 = .ok (.getfield 355, 3) := by decide +kernel
theorem dX1_readLevels_20 : decode cX1_readLevels 20 = .ok (.iload_n 2, 1) := by decide +kernel
theorem dX1_readLevels_21 : decode cX1_readLevels 21 = .ok (.iconst 0, 1) := by decide +kernel
theorem dX1_readLevels_22 : decode cX1_readLevels 22 = .ok (.iadd, 1) := by decide +kernel
theorem dX1_readLevels_23 : decode cX1_readLevels 23 = .ok (.iaload, 1) := by decide +kernel
theorem dX1_readLevels_24 : decode cX1_readLevels 24 = .ok (.iconst 1, 1) := by decide +kernel
theorem dX1_readLevels_25 : decode cX1_readLevels 25 = .ok (.if_icmp .ne 7, 3) := by decide +kernel
theorem dX1_readLevels_28 : decode cX1_readLevels 28 = .ok (.iconst 1, 1) := by decide +kernel
theorem dX1_readLevels_29 : decode cX1_readLevels 29 = .ok (.goto 4, 3) := by decide +kernel
theorem dX1_readLevels_32 : decode cX1_readLevels 32 = .ok (.iconst 0, 1) := by decide +kernel
theorem dX1_readLevels_33 : decode cX1_readLevels 33 = .ok (.istore 4, 2) := by decide +kernel
theorem dX1_readLevels_35 : decode cX1_readLevels 35 = .ok (.iload 4, 2) := by decide +kernel
theorem dX1_readLevels_37 : decode cX1_readLevels 37 = .ok (.ifCond .eq 29, 3) := by decide +kernel
theorem dX1_readLevels_40 : decode cX1_readLevels 40 = .ok (.aload_n 0, 1) := by decide +kernel
theorem dX1_readLevels_41 : decode cX1_readLevels 41 = .ok (.getfield 12, 3) := by decide +kernel
theorem dX1_readLevels_44 : decode cX1_readLevels 44 = .ok (.aload_n 0, 1) := by decide +kernel
theorem dX1_readLevels_45 : decode cX1_readLevels 45 = .ok (.getfield 28, 3) := by decide +kernel
theorem dX1_readLevels_48 : decode cX1_readLevels 48 = .ok (.iload_n 1, 1) := by decide +kernel
theorem dX1_readLevels_49 : decode cX1_readLevels 49 = .ok (.iconst 0, 1) := by decide +kernel
theorem dX1_readLevels_50 : decode cX1_readLevels 50 = .ok (.invokevirtual 491, 3) := by decide +kernel
theorem dX1_readLevels_53 : decode cX1_readLevels 53 = .ok (.bipush 16, 2) := by decide +kernel
theorem dX1_readLevels_55 : decode cX1_readLevels 55 = .ok (.aload_n 3, 1) := by decide +kernel
theorem dX1_readLevels_56 : decode cX1_readLevels 56 = .ok (.iload_n 1, 1) := by decide +kernel
theorem dX1_readLevels_57 : decode cX1_readLevels 57 = .ok (.bipush 16, 2) := by decide +kernel
theorem dX1_readLevels_59 : decode cX1_readLevels 59 = .ok (.invokestatic 494, 3) := by decide +kernel
theorem dX1_readLevels_62 : decode cX1_readLevels 62 = .ok (.invokevirtual 497, 3) := by decide +kernel
theorem dX1_readLevels_65 : decode cX1_readLevels 65 = .ok (.pop, 1) := by decide +kernel
theorem dX1_readLevels_66 : decode cX1_readLevels 66 = .ok (.iconst 0, 1) := by decide +kernel
theorem dX1_readLevels_67 : decode cX1_readLevels 67 = .ok (.istore 5, 2) := by decide +kernel
theorem dX1_readLevels_69 : decode cX1_readLevels 69 = .ok (.iload 5, 2) := by decide +kernel
theorem dX1_readLevels_71 : decode cX1_readLevels 71 = .ok (.bipush 16, 2) := by decide +kernel
theorem dX1_readLevels_73 : decode cX1_readLevels 73 = .ok (.if_icmp .ge 82, 3) := by decide +kernel
theorem dX1_readLevels_76 : decode cX1_readLevels 76 = .ok (.aload_n 0, 1) := by decide +kernel
theorem dX1_readLevels_77 : decode cX1_readLevels 77 = .ok (.getfield 28, 3) := by decide +kernel
theorem dX1_readLevels_80 : decode cX1_readLevels 80 = .ok (.getfield 355, 3) := by decide +kernel
theorem dX1_readLevels_83 : decode cX1_readLevels 83 = .ok (.iload_n 2, 1) := by decide +kernel
theorem dX1_readLevels_84 : decode cX1_readLevels 84 = .ok (.iconst 3, 1) := by decide +kernel
theorem dX1_readLevels_85 : decode cX1_readLevels 85 = .ok (.iadd, 1) := by decide +kernel
theorem dX1_readLevels_86 : decode cX1_readLevels 86 = .ok (.iaload, 1) := by decide +kernel
theorem dX1_readLevels_87 : decode cX1_readLevels 87 = .ok (.iload 5, 2) := by decide +kernel
theorem dX1_readLevels_89 : decode cX1_readLevels 89 = .ok (.iconst 4, 1) := by decide +kernel
theorem dX1_readLevels_90 : decode cX1_readLevels 90 = .ok (.idiv, 1) := by decide +kernel
theorem dX1_readLevels_91 : decode cX1_readLevels 91 = .ok (.ishr, 1) := by decide +kernel
theorem dX1_readLevels_92 : decode cX1_readLevels 92 = .ok (.iconst 1, 1) := by decide +kernel
theorem dX1_readLevels_93 : decode cX1_readLevels 93 = .ok (.iand, 1) := by decide +kernel
theorem dX1_readLevels_94 : decode cX1_readLevels 94 = .ok (.iconst 1, 1) := by decide +kernel
theorem dX1_readLevels_95 : decode cX1_readLevels 95 = .ok (.if_icmp .ne 54, 3) := by decide +kernel
theorem dX1_readLevels_98 : decode cX1_readLevels 98 = .ok (.aload_n 0, 1) := by decide +kernel
theorem dX1_readLevels_99 : decode cX1_readLevels 99 = .ok (.getfield 28, 3) := by decide +kernel
theorem dX1_readLevels_102 : decode cX1_readLevels 102 = .ok (.getfield 476, 3) := by decide +kernel
theorem dX1_readLevels_105 : decode cX1_readLevels 105 = .ok (.bipush 24, 2) := by decide +kernel
theorem dX1_readLevels_107 : decode cX1_readLevels 107 = .ok (.iload_n 1, 1) := by decide +kernel
theorem dX1_readLevels_108 : decode cX1_readLevels 108 = .ok (.imul, 1) := by decide +kernel
theorem dX1_readLevels_109 : decode cX1_readLevels 109 = .ok (.iload 5, 2) := by decide +kernel
theorem dX1_readLevels_111 : decode cX1_readLevels 111 = .ok (.iadd, 1) := by decide +kernel
theorem dX1_readLevels_112 : decode cX1_readLevels 112 = .ok (.aload_n 0, 1) := by decide +kernel
theorem dX1_readLevels_113 : decode cX1_readLevels 113 = .ok (.getfield 12, 3) := by decide +kernel
theorem dX1_readLevels_116 : decode cX1_readLevels 116 = .ok (.aload_n 0, 1) := by decide +kernel
theorem dX1_readLevels_117 : decode cX1_readLevels 117 = .ok (.getfield 28, 3) := by decide +kernel
theorem dX1_readLevels_120 : decode cX1_readLevels 120 = .ok (.iload_n 1, 1) := by decide +kernel
theorem dX1_readLevels_121 : decode cX1_readLevels 121 = .ok (.iload 5, 2) := by decide +kernel
theorem dX1_readLevels_123 : decode cX1_readLevels 123 = .ok (.invokevirtual 491, 3) := by decide +kernel
theorem dX1_readLevels_126 : decode cX1_readLevels 126 = .ok (.iload 4, 2) := by decide +kernel
theorem dX1_readLevels_128 : decode cX1_readLevels 128 = .ok (.ifCond .eq 8, 3) := by decide +kernel
theorem dX1_readLevels_131 : decode cX1_readLevels 131 = .ok (.bipush 15, 2) := by decide +kernel
theorem dX1_readLevels_133 : decode cX1_readLevels 133 = .ok (.goto 5, 3) := by decide +kernel
theorem dX1_readLevels_136 : decode cX1_readLevels 136 = .ok (.bipush 16, 2) := by decide +kernel
theorem dX1_readLevels_138 : decode cX1_readLevels 138 = .ok (.aload_n 3, 1) := by decide +kernel
theorem dX1_readLevels_139 : decode cX1_readLevels 139 = .ok (.iload_n 1, 1) := by decide +kernel
theorem dX1_readLevels_140 : decode cX1_readLevels 140 = .ok (.iload 5, 2) := by decide +kernel
theorem dX1_readLevels_142 : decode cX1_readLevels 142 = .ok (.invokestatic 494, 3) := by decide +kernel
theorem dX1_readLevels_145 : decode cX1_readLevels 145 = .ok (.invokevirtual 497, 3) := by decide +kernel
theorem dX1_readLevels_148 : decode cX1_readLevels 148 = .ok (.iastore, 1) := by decide +kernel
theorem dX1_readLevels_149 : decode cX1_readLevels 149 = .ok (.iinc 5 1, 3) := by decide +kernel
theorem dX1_readLevels_152 : decode cX1_readLevels 152 = .ok (.goto (-83), 3) := by decide +kernel
theorem dX1_readLevels_155 : decode cX1_readLevels 155 = .ok (.iconst 1, 1) := by decide +kernel
theorem dX1_readLevels_156 : decode cX1_readLevels 156 = .ok (.istore 5, 2) := by decide +kernel
theorem dX1_readLevels_158 : decode cX1_readLevels 158 = .ok (.iload 5, 2) := by decide +kernel
theorem dX1_readLevels_160 : decode cX1_readLevels 160 = .ok (.iconst 3, 1) := by decide +kernel
theorem dX1_readLevels_161 : decode cX1_readLevels 161 = .ok (.if_icmp .ge 43, 3) := by decide +kernel
theorem dX1_readLevels_164 : decode cX1_readLevels 164 = .ok (.aload_n 0, 1) := by decide +kernel
theorem dX1_readLevels_165 : decode cX1_readLevels 165 = .ok (.getfield 28, 3) := by decide +kernel
theorem dX1_readLevels_168 : decode cX1_readLevels 168 = .ok (.getfield 355, 3) := by decide +kernel
theorem dX1_readLevels_171 : decode cX1_readLevels 171 = .ok (.iload_n 2, 1) := by decide +kernel
theorem dX1_readLevels_172 : decode cX1_readLevels 172 = .ok (.iconst 4, 1) := by decide +kernel
theorem dX1_readLevels_173 : decode cX1_readLevels 173 = .ok (.iadd, 1) := by decide +kernel
theorem dX1_readLevels_174 : decode cX1_readLevels 174 = .ok (.iaload, 1) := by decide +kernel
theorem dX1_readLevels_175 : decode cX1_readLevels 175 = .ok (.ifCond .le 29, 3) := by decide +kernel
theorem dX1_readLevels_178 : decode cX1_readLevels 178 = .ok (.aload_n 0, 1) := by decide +kernel
theorem dX1_readLevels_179 : decode cX1_readLevels 179 = .ok (.getfield 12, 3) := by decide +kernel
theorem dX1_readLevels_182 : decode cX1_readLevels 182 = .ok (.iconst 4, 1) := by decide +kernel
theorem dX1_readLevels_183 : decode cX1_readLevels 183 = .ok (.iconst 4, 1) := by decide +kernel
theorem dX1_readLevels_184 : decode cX1_readLevels 184 = .ok (.aload_n 3, 1) := by decide +kernel
theorem dX1_readLevels_185 : decode cX1_readLevels 185 = .ok (.iload_n 1, 1) := by decide +kernel
theorem dX1_readLevels_186 : decode cX1_readLevels 186 = .ok (.bipush 16, 2) := by decide +kernel
theorem dX1_readLevels_188 : decode cX1_readLevels 188 = .ok (.iload 5, 2) := by decide +kernel
theorem dX1_readLevels_190 : decode cX1_readLevels 190 = .ok (.iadd, 1) := by decide +kernel
theorem dX1_readLevels_191 : decode cX1_readLevels 191 = .ok (.invokestatic 494, 3) := by decide +kernel
theorem dX1_readLevels_194 : decode cX1_readLevels 194 = .ok (.invokevirtual 497, 3) := by decide +kernel
theorem dX1_readLevels_197 : decode cX1_readLevels 197 = .ok (.pop, 1) := by decide +kernel
theorem dX1_readLevels_198 : decode cX1_readLevels 198 = .ok (.iinc 5 1, 3) := by decide +kernel
theorem dX1_readLevels_201 : decode cX1_readLevels 201 = .ok (.goto (-43), 3) := by decide +kernel
theorem dX1_readLevels_204 : decode cX1_readLevels 204 = .ok (.bipush 16, 2) := by decide +kernel
theorem dX1_readLevels_206 : decode cX1_readLevels 206 = .ok (.istore 5, 2) := by decide +kernel
theorem dX1_readLevels_208 : decode cX1_readLevels 208 = .ok (.iload 5, 2) := by decide +kernel
theorem dX1_readLevels_210 : decode cX1_readLevels 210 = .ok (.bipush 24, 2) := by decide +kernel
theorem dX1_readLevels_212 : decode cX1_readLevels 212 = .ok (.if_icmp .ge 67, 3) := by decide +kernel
theorem dX1_readLevels_215 : decode cX1_readLevels 215 = .ok (.aload_n 0, 1) := by decide +kernel
theorem dX1_readLevels_216 : decode cX1_readLevels 216 = .ok (.getfield 28, 3) := by decide +kernel
theorem dX1_readLevels_219 : decode cX1_readLevels 219 = .ok (.getfield 355, 3) := by decide +kernel
theorem dX1_readLevels_222 : decode cX1_readLevels 222 = .ok (.iload_n 2, 1) := by decide +kernel
theorem dX1_readLevels_223 : decode cX1_readLevels 223 = .ok (.iconst 4, 1) := by decide +kernel
theorem dX1_readLevels_224 : decode cX1_readLevels 224 = .ok (.iadd, 1) := by decide +kernel
theorem dX1_readLevels_225 : decode cX1_readLevels 225 = .ok (.iaload, 1) := by decide +kernel
theorem dX1_readLevels_226 : decode cX1_readLevels 226 = .ok (.iconst 2, 1) := by decide +kernel
theorem dX1_readLevels_227 : decode cX1_readLevels 227 = .ok (.if_icmp .ne 52, 3) := by decide +kernel
theorem dX1_readLevels_230 : decode cX1_readLevels 230 = .ok (.aload_n 0, 1) := by decide +kernel
theorem dX1_readLevels_231 : decode cX1_readLevels 231 = .ok (.getfield 28, 3) := by decide +kernel
theorem dX1_readLevels_234 : decode cX1_readLevels 234 = .ok (.getfield 476, 3) := by decide +kernel
theorem dX1_readLevels_237 : decode cX1_readLevels 237 = .ok (.bipush 24, 2) := by decide +kernel
theorem dX1_readLevels_239 : decode cX1_readLevels 239 = .ok (.iload_n 1, 1) := by decide +kernel
theorem dX1_readLevels_240 : decode cX1_readLevels 240 = .ok (.imul, 1) := by decide +kernel
theorem dX1_readLevels_241 : decode cX1_readLevels 241 = .ok (.iload 5, 2) := by decide +kernel
theorem dX1_readLevels_243 : decode cX1_readLevels 243 = .ok (.iadd, 1) := by decide +kernel
theorem dX1_readLevels_244 : decode cX1_readLevels 244 = .ok (.aload_n 0, 1) := by decide +kernel
theorem dX1_readLevels_245 : decode cX1_readLevels 245 = .ok (.getfield 12, 3) := by decide +kernel
theorem dX1_readLevels_248 : decode cX1_readLevels 248 = .ok (.aload_n 0, 1) := by decide +kernel
theorem dX1_readLevels_249 : decode cX1_readLevels 249 = .ok (.getfield 28, 3) := by decide +kernel
theorem dX1_readLevels_252 : decode cX1_readLevels 252 = .ok (.iload_n 1, 1) := by decide +kernel
theorem dX1_readLevels_253 : decode cX1_readLevels 253 = .ok (.iload 5, 2) := by decide +kernel
theorem dX1_readLevels_255 : decode cX1_readLevels 255 = .ok (.invokevirtual 491, 3) := by decide +kernel
theorem dX1_readLevels_258 : decode cX1_readLevels 258 = .ok (.bipush 15, 2) := by decide +kernel
theorem dX1_readLevels_260 : decode cX1_readLevels 260 = .ok (.aload_n 3, 1) := by decide +kernel
theorem dX1_readLevels_261 : decode cX1_readLevels 261 = .ok (.iload_n 1, 1) := by decide +kernel
theorem dX1_readLevels_262 : decode cX1_readLevels 262 = .ok (.iconst 3, 1) := by decide +kernel
theorem dX1_readLevels_263 : decode cX1_readLevels 263 = .ok (.iload 5, 2) := by decide +kernel
theorem dX1_readLevels_265 : decode cX1_readLevels 265 = .ok (.iadd, 1) := by decide +kernel
theorem dX1_readLevels_266 : decode cX1_readLevels 266 = .ok (.invokestatic 494, 3) := by decide +kernel
theorem dX1_readLevels_269 : decode cX1_readLevels 269 = .ok (.invokevirtual 497, 3) := by decide +kernel
theorem dX1_readLevels_272 : decode cX1_readLevels 272 = .ok (.iastore, 1) := by decide +kernel
theorem dX1_readLevels_273 : decode cX1_readLevels 273 = .ok (.iinc 5 1, 3) := by decide +kernel
theorem dX1_readLevels_276 : decode cX1_readLevels 276 = .ok (.goto (-68), 3) := by decide +kernel
theorem dX1_readLevels_279 : decode cX1_readLevels 279 = .ok (.return_, 1) := by decide +kernel
def FX1_readLevels (G : GG) (M : DD) (a : Nat) (p0 : Int32) : Option (DD) :=
  ltt ((((8 : Int32)) * p0)) fun x1 =>
  dr G 9 ((M.2 a 2)) fun b2 =>
  ltt ((x1 + ((0 : Int32)))) fun x3 =>
  dr G 13 ((M.2 b2 6)) fun b4 =>
  chk (¬ (x3 < 0 ∨ G.2.2 b4 ≤ x3.toNatClampNeg)) <|
  ltt (M.1 b4 x3.toNatClampNeg) fun x5 =>
  bnd (if x5 = ((1 : Int32)) then (some ((1 : Int32))) else
  (some ((0 : Int32)))) fun (y6 : Int32) =>
  bnd (if y6 = ((0 : Int32)) then (some (M)) else
  (bnd (FX9_tokenTable G M b2 p0 ((0 : Int32))) fun y69 =>
  bnd (FX9_levelAt G y69.1 p0 ((16 : Int32))) fun y70 =>
  dr G 5 ((M.2 a 0)) fun b71 =>
  bnd (FX5_levels G y70.1 b71 y69.2 ((16 : Int32)) ((M.2 b2 9)) y70.2) fun y72 =>
  some (y72.1))) fun (y7 : DD) =>
  bnd (itr (fun (s9 : Int32 × DD) => ((if ((16 : Int32)) ≤ s9.1 then (some (.inr (s9.1, s9.2))) else
  (dr G 9 ((s9.2.2 a 2)) fun b48 =>
  ltt ((x1 + ((3 : Int32)))) fun x49 =>
  dr G 13 ((s9.2.2 b48 6)) fun b50 =>
  chk (¬ (x49 < 0 ∨ G.2.2 b50 ≤ x49.toNatClampNeg)) <|
  ltt (s9.2.1 b50 x49.toNatClampNeg) fun x51 =>
  ltt (s9.1 / ((4 : Int32))) fun x52 =>
  ltt ((x51 >>> (x52 &&& 31))) fun x53 =>
  ltt ((x53 &&& ((1 : Int32)))) fun x54 =>
  bnd (if x54 = ((1 : Int32)) then (ltt ((((24 : Int32)) * p0)) fun x58 =>
  ltt ((x58 + s9.1)) fun x59 =>
  bnd (FX9_tokenTable G s9.2 b48 p0 s9.1) fun y60 =>
  bnd (if y6 = ((0 : Int32)) then (some ((16 : Int32))) else
  (some ((15 : Int32)))) fun (y61 : Int32) =>
  bnd (FX9_levelAt G y60.1 p0 s9.1) fun y62 =>
  dr G 5 ((s9.2.2 a 0)) fun b63 =>
  bnd (FX5_levels G y62.1 b63 y60.2 y61 ((M.2 b2 9)) y62.2) fun y64 =>
  dr G 13 ((s9.2.2 b48 8)) fun b65 =>
  chk (¬ (x59 < 0 ∨ G.2.2 b65 ≤ x59.toNatClampNeg)) <|
  ltt (uI y64.1 b65 x59.toNatClampNeg y64.2) fun M66 =>
  some (M66)) else
  (some (s9.2))) fun (y55 : DD) =>
  ltt (s9.1 + (1 : Int32)) fun x56 =>
  some (.inl (x56, y55)))) : Option ((Int32 × DD) ⊕ (Int32 × DD)))) 1000000 ((0 : Int32), y7)) fun (y8 : Int32 × DD) =>
  bnd (itr (fun (s12 : Int32 × DD) => ((if ((3 : Int32)) ≤ s12.1 then (some (.inr (s12.1, s12.2))) else
  (dr G 9 ((s12.2.2 a 2)) fun b36 =>
  ltt ((x1 + ((4 : Int32)))) fun x37 =>
  dr G 13 ((s12.2.2 b36 6)) fun b38 =>
  chk (¬ (x37 < 0 ∨ G.2.2 b38 ≤ x37.toNatClampNeg)) <|
  ltt (s12.2.1 b38 x37.toNatClampNeg) fun x39 =>
  if x39 ≤ ((0 : Int32)) then (some (.inr (s12.1, s12.2))) else
  (ltt ((((16 : Int32)) + s12.1)) fun x41 =>
  bnd (FX9_levelAt G s12.2 p0 x41) fun y42 =>
  dr G 5 ((s12.2.2 a 0)) fun b43 =>
  bnd (FX5_levels G y42.1 b43 ((4 : Int32)) ((4 : Int32)) ((M.2 b2 9)) y42.2) fun y44 =>
  ltt (s12.1 + (1 : Int32)) fun x45 =>
  some (.inl (x45, y44.1))))) : Option ((Int32 × DD) ⊕ (Int32 × DD)))) 1000000 ((1 : Int32), y8.2)) fun (y11 : Int32 × DD) =>
  bnd (itr (fun (s15 : Int32 × DD) => ((if ((24 : Int32)) ≤ s15.1 then (some (.inr (s15.1, s15.2))) else
  (dr G 9 ((s15.2.2 a 2)) fun b19 =>
  ltt ((x1 + ((4 : Int32)))) fun x20 =>
  dr G 13 ((s15.2.2 b19 6)) fun b21 =>
  chk (¬ (x20 < 0 ∨ G.2.2 b21 ≤ x20.toNatClampNeg)) <|
  ltt (s15.2.1 b21 x20.toNatClampNeg) fun x22 =>
  if x22 = ((2 : Int32)) then (ltt ((((24 : Int32)) * p0)) fun x24 =>
  ltt ((x24 + s15.1)) fun x25 =>
  bnd (FX9_tokenTable G s15.2 b19 p0 s15.1) fun y26 =>
  ltt ((((3 : Int32)) + s15.1)) fun x27 =>
  bnd (FX9_levelAt G y26.1 p0 x27) fun y28 =>
  dr G 5 ((s15.2.2 a 0)) fun b29 =>
  bnd (FX5_levels G y28.1 b29 y26.2 ((15 : Int32)) ((M.2 b2 9)) y28.2) fun y30 =>
  dr G 13 ((s15.2.2 b19 8)) fun b31 =>
  chk (¬ (x25 < 0 ∨ G.2.2 b31 ≤ x25.toNatClampNeg)) <|
  ltt (uI y30.1 b31 x25.toNatClampNeg y30.2) fun M32 =>
  ltt (s15.1 + (1 : Int32)) fun x33 =>
  some (.inl (x33, M32))) else
  (some (.inr (s15.1, s15.2))))) : Option ((Int32 × DD) ⊕ (Int32 × DD)))) 1000000 ((16 : Int32), y11.2)) fun (y14 : Int32 × DD) =>
  some y14.2
set_option maxHeartbeats 4000000 in
set_option maxRecDepth 100000 in
theorem kX1_readLevels (l : Launch) (D : va_G) (ct : CT) (ad : Nat → Nat) (Z : Nat → Nat) (G : GG) (M : DD) (sz : Nat) (a : Nat) (p0 : Int32) (y : DD) (hc : a < G.1) (hk : G.2.1 a = 1) (hF : FX1_readLevels G M a p0 = some y) : Met l yX1_readLevels wuX1_readLevels ({ frames := 4, cells := 0, slots := 0, locals := 108 }) (va_Pc [.ref (ad a), .int p0] (kB D ct ad Z G M sz)) (va_Qv (fun (_ : Unit) => True) (fun _ t => kE D ct ad G (wA ad G sz) y t) (wA ad G sz)) 0 0 (wA ad G sz) := by
  refine Met.ofW (cc := cX1_readLevels) (maxL := 6) (ret := none) (by decide) rfl ?_
  intro p e s m args below meth c s₁ B hml hv
  obtain ⟨rfl, hsz, hP, hK, hD0, hZ, hN⟩ := hv
  have hx := B.exec
  have hb := B.bytes
  have hr := B.returns
  have hts := atoms_spec (ws := wuX1_readLevels) B.pre
  have hown : s.vm.findClass RX1 = some m.cls := findClass_of_methodNamed B.named
  have hlocks := B.notSynchronized
  subst hsz
  have hD := wD_self (sz := s.heap.size) hD0
  have hA9 : ∀ q, s.heap.size ≤ q → wA ad G s.heap.size q := fun q h => Or.inr h
  generalize hAe : wA ad G s.heap.size = A at hD hA9 hZ ⊢
  have hS : va_S A s.heap s.heap [] := va_S.rf
  have hl := lv_entry ([.ref (ad a), .int p0]) (n := 6) (Nat.le_of_ble_eq_true rfl)
  rw [lg_entry_eq]
  generalize (lg_sl ([.ref (ad a), .int p0]) ++ List.replicate (6 - (lg_sl ([.ref (ad a), .int p0])).length) Slot.unset).toArray = ls at hl ⊢
  have hl : lv_has ls 6 [(0, .ref (ad a)), (1, .int p0)] := hl
  unfold FX1_readLevels at hF
  refine lv_bipush (v := (8 : Int32)) hx hb dX1_readLevels_0 (by decide) ?_
  refine lv_iload_n hx hb dX1_readLevels_2 rfl (lv_at hl 1 rfl) ?_
  refine lv_imul hx hb dX1_readLevels_3 ?_
  obtain ⟨x1, ex1, hF⟩ := ltt_some hF
  refine lv_topi (fun zx1 ezx1 => ?_)
  obtain rfl : x1 = zx1 := ex1.trans ezx1.symm
  refine lv_istore_n (lv' := [(2, .int x1), (0, .ref (ad a)), (1, .int p0)]) hx hb dX1_readLevels_4 rfl hl (by decide) rfl (fun ls hl => ?_)
  refine lv_aload_n hx hb dX1_readLevels_5 rfl (lv_at hl 1 rfl) ?_
  refine va_get (D := D) (ci := 1) (v := va_re ad (M.2 a 2)) (C := RX1) (T := TX1) (N := 22) hx hb hts (mus hf_X1) hown hK hP a (wld_o ct ad G M hc hk (by decide)) rfl 2 (by decide) (hts (.fieldLink RX1 28 "VideoSuite$Decoder" "work" "LVideoSuite$Work;") (mu mw_644)) (fun _ h9 => h9) rfl dX1_readLevels_6 ?_
  obtain ⟨b2, ho2, hc2, hk2, hF⟩ := dr_some hF
  refine W_st (st' := [.ref (ad b2)]) (by rw [va_some ho2]) ?_
  refine va_get (D := D) (ci := 9) (v := va_re ad (M.2 b2 9)) (C := RX9) (T := TX9) (N := 20) hx hb hts (mus hf_X9) hown hK hP b2 (wld_o ct ad G M hc2 hk2 (by decide)) rfl 9 (by decide) (hts (.fieldLink RX1 488 "VideoSuite$Work" "level" "[I") (mu mw_455)) (fun _ h9 => h9) rfl dX1_readLevels_9 ?_
  refine lv_astoreq_n (lv' := [(3, va_re ad (M.2 b2 9)), (2, .int x1), (0, .ref (ad a)), (1, .int p0)]) hx hb dX1_readLevels_12 rfl hl (by decide) rfl (fun ls hl => ?_)
  refine lv_aload_n hx hb dX1_readLevels_13 rfl (lv_at hl 2 rfl) ?_
  refine va_get (D := D) (ci := 1) (v := va_re ad (M.2 a 2)) (C := RX1) (T := TX1) (N := 22) hx hb hts (mus hf_X1) hown hK hP a (wld_o ct ad G M hc hk (by decide)) rfl 2 (by decide) (hts (.fieldLink RX1 28 "VideoSuite$Decoder" "work" "LVideoSuite$Work;") (mu mw_644)) (fun _ h9 => h9) rfl dX1_readLevels_14 ?_
  refine W_st (st' := [.ref (ad b2)]) (by rw [va_some ho2]) ?_
  refine va_get (D := D) (ci := 9) (v := va_re ad (M.2 b2 6)) (C := RX9) (T := TX9) (N := 20) hx hb hts (mus hf_X9) hown hK hP b2 (wld_o ct ad G M hc2 hk2 (by decide)) rfl 6 (by decide) (hts (.fieldLink RX1 355 "VideoSuite$Work" "info" "[I") (mu mw_444)) (fun _ h9 => h9) rfl dX1_readLevels_17 ?_
  refine lv_iload_n hx hb dX1_readLevels_20 rfl (lv_at hl 1 rfl) ?_
  refine lv_iconst (v := (0 : Int32)) hx hb dX1_readLevels_21 (by decide) ?_
  refine lv_iadd hx hb dX1_readLevels_22 ?_
  obtain ⟨x3, ex3, hF⟩ := ltt_some hF
  refine lv_topi (fun zx3 ezx3 => ?_)
  obtain rfl : x3 = zx3 := ex3.trans ezx3.symm
  obtain ⟨b4, ho4, hc4, hk4, hF⟩ := dr_some hF
  refine W_st (st' := [.int x3, .ref (ad b4)]) (by rw [va_some ho4]) ?_
  obtain ⟨hvc, hF⟩ := chk_some hF
  refine va_iald hx hb hK hP b4 1 (wld_i ct ad G M hc4 hk4) rfl hvc dX1_readLevels_23 ?_
  obtain ⟨x5, ex5, hF⟩ := ltt_some hF
  refine lv_topi (fun zx5 ezx5 => ?_)
  obtain rfl : x5 = zx5 := ex5.trans ezx5.symm
  refine lv_iconst (v := (1 : Int32)) hx hb dX1_readLevels_24 (by decide) ?_
  obtain ⟨y6, hy6, hF⟩ := bnd_some hF
  have J6 : ∀ (H : Heap) (locs : List Loc) (ls : Array Slot), va_P D classes (wld ct ad G M) H → va_D A (wld ct ad G M) → va_S A s.heap H locs → lv_has ls 6 [(3, va_re ad (M.2 b2 9)), (2, .int x1), (0, .ref (ad a)), (1, .int p0)] → W p l e (headSpec wuX1_readLevels ({ frames := 4, cells := 0, slots := 0, locals := 108 })).room s m ([.ref (ad a), .int p0] : List Value).toArray below meth c H locs 0 0 (MQ below (va_Qv (fun (_ : Unit) => True) (fun _ t => kE D ct ad G A y t) A) ([.ref (ad a), .int p0] : List Value).toArray s 0 0 A) (F0 m 33 ls [.int y6]) := by
    intro H locs ls hP hD hS hl
    refine lv_istore (lv' := [(4, .int y6), (3, va_re ad (M.2 b2 9)), (2, .int x1), (0, .ref (ad a)), (1, .int p0)]) hx hb dX1_readLevels_33 hl (by decide) (by generalize ((M.2 b2 9)) = o9; cases o9 <;> rfl) (fun ls hl => ?_)
    refine lv_iload hx hb dX1_readLevels_35 (lv_at hl 0 rfl) ?_
    obtain ⟨y7, hy7, hF⟩ := bnd_some hF
    have J7 : ∀ (H : Heap) (locs : List Loc) (ls : Array Slot), va_P D classes (wld ct ad G y7) H → va_D A (wld ct ad G y7) → va_S A s.heap H locs → lv_has ls 6 [(4, .int y6), (3, va_re ad (M.2 b2 9)), (2, .int x1), (0, .ref (ad a)), (1, .int p0)] → W p l e (headSpec wuX1_readLevels ({ frames := 4, cells := 0, slots := 0, locals := 108 })).room s m ([.ref (ad a), .int p0] : List Value).toArray below meth c H locs 0 0 (MQ below (va_Qv (fun (_ : Unit) => True) (fun _ t => kE D ct ad G A y t) A) ([.ref (ad a), .int p0] : List Value).toArray s 0 0 A) (F0 m 66 ls []) := by
      intro H locs ls hP hD hS hl
      refine lv_iconst (v := (0 : Int32)) hx hb dX1_readLevels_66 (by decide) ?_
      refine lv_istore (lv' := [(5, .int (0 : Int32)), (4, .int y6), (3, va_re ad (M.2 b2 9)), (2, .int x1), (0, .ref (ad a)), (1, .int p0)]) hx hb dX1_readLevels_67 hl (by decide) rfl (fun ls hl => ?_)
      obtain ⟨y8, hy8, hF⟩ := bnd_some hF
      have K8 : ∀ (H : Heap) (locs : List Loc) (ls : Array Slot), va_P D classes (wld ct ad G y8.2) H → va_D A (wld ct ad G y8.2) → va_S A s.heap H locs → lv_has ls 6 [(5, .int y8.1), (4, .int y6), (3, va_re ad (M.2 b2 9)), (2, .int x1), (0, .ref (ad a)), (1, .int p0)] → W p l e (headSpec wuX1_readLevels ({ frames := 4, cells := 0, slots := 0, locals := 108 })).room s m ([.ref (ad a), .int p0] : List Value).toArray below meth c H locs 0 0 (MQ below (va_Qv (fun (_ : Unit) => True) (fun _ t => kE D ct ad G A y t) A) ([.ref (ad a), .int p0] : List Value).toArray s 0 0 A) (F0 m 155 ls []) := by
        intro H locs ls hP hD hS hl
        refine lv_iconst (v := (1 : Int32)) hx hb dX1_readLevels_155 (by decide) ?_
        refine lv_istore (lv' := [(5, .int (1 : Int32)), (4, .int y6), (3, va_re ad (M.2 b2 9)), (2, .int x1), (0, .ref (ad a)), (1, .int p0)]) hx hb dX1_readLevels_156 hl (by decide) rfl (fun ls hl => ?_)
        obtain ⟨y11, hy11, hF⟩ := bnd_some hF
        have K11 : ∀ (H : Heap) (locs : List Loc) (ls : Array Slot), va_P D classes (wld ct ad G y11.2) H → va_D A (wld ct ad G y11.2) → va_S A s.heap H locs → lv_has ls 6 [(5, .int y11.1), (4, .int y6), (3, va_re ad (M.2 b2 9)), (2, .int x1), (0, .ref (ad a)), (1, .int p0)] → W p l e (headSpec wuX1_readLevels ({ frames := 4, cells := 0, slots := 0, locals := 108 })).room s m ([.ref (ad a), .int p0] : List Value).toArray below meth c H locs 0 0 (MQ below (va_Qv (fun (_ : Unit) => True) (fun _ t => kE D ct ad G A y t) A) ([.ref (ad a), .int p0] : List Value).toArray s 0 0 A) (F0 m 204 ls []) := by
          intro H locs ls hP hD hS hl
          refine lv_bipush (v := (16 : Int32)) hx hb dX1_readLevels_204 (by decide) ?_
          refine lv_istore (lv' := [(5, .int (16 : Int32)), (4, .int y6), (3, va_re ad (M.2 b2 9)), (2, .int x1), (0, .ref (ad a)), (1, .int p0)]) hx hb dX1_readLevels_206 hl (by decide) rfl (fun ls hl => ?_)
          obtain ⟨y14, hy14, hF⟩ := bnd_some hF
          have K14 : ∀ (H : Heap) (locs : List Loc) (ls : Array Slot), va_P D classes (wld ct ad G y14.2) H → va_D A (wld ct ad G y14.2) → va_S A s.heap H locs → lv_has ls 6 [(5, .int y14.1), (4, .int y6), (3, va_re ad (M.2 b2 9)), (2, .int x1), (0, .ref (ad a)), (1, .int p0)] → W p l e (headSpec wuX1_readLevels ({ frames := 4, cells := 0, slots := 0, locals := 108 })).room s m ([.ref (ad a), .int p0] : List Value).toArray below meth c H locs 0 0 (MQ below (va_Qv (fun (_ : Unit) => True) (fun _ t => kE D ct ad G A y t) A) ([.ref (ad a), .int p0] : List Value).toArray s 0 0 A) (F0 m 279 ls []) := by
            intro H locs ls hP hD hS hl
            obtain rfl := Option.some.inj hF
            exact W.vret hx hb hr (fun t ht hW => ⟨⟨(), rfl, trivial, ⟨by rw [ht]; exact hP, va_K.moved hW.alike hK, hD⟩⟩, hS.F ht⟩) hS.2.2 dX1_readLevels_279
          clear hF
          refine itr_rule (fun (s15 : Int32 × DD) => ∀ (H : Heap) (locs : List Loc) (ls : Array Slot), va_P D classes (wld ct ad G s15.2) H → va_D A (wld ct ad G s15.2) → va_S A s.heap H locs → lv_has ls 6 [(5, .int s15.1), (4, .int y6), (3, va_re ad (M.2 b2 9)), (2, .int x1), (0, .ref (ad a)), (1, .int p0)] → W p l e (headSpec wuX1_readLevels ({ frames := 4, cells := 0, slots := 0, locals := 108 })).room s m ([.ref (ad a), .int p0] : List Value).toArray below meth c H locs 0 0 (MQ below (va_Qv (fun (_ : Unit) => True) (fun _ t => kE D ct ad G A y t) A) ([.ref (ad a), .int p0] : List Value).toArray s 0 0 A) (F0 m 208 ls [])) ?_ _ _ hy14 _ _ _ hP hD hS (lv_sub hl [0, 1, 2, 3, 4, 5] rfl)
          rintro s15 ⟨z17, hF, hwz17⟩ H locs ls hP hD hS hl
          try dsimp only at hF
          refine lv_iload hx hb dX1_readLevels_208 (lv_at hl 0 rfl) ?_
          refine lv_bipush (v := (24 : Int32)) hx hb dX1_readLevels_210 (by decide) ?_
          refine lv_icmp_ge (tgt := 279) hx hb dX1_readLevels_212 (by decide) (fun c18 => ?_) (fun c18 => ?_)
          · rw [if_pos c18] at hF
            obtain rfl := Option.some.inj hF
            subst hwz17
            exact K14 _ _ _ hP hD hS (lv_sub hl [0, 1, 2, 3, 4, 5] rfl)
          · rw [if_neg c18] at hF
            refine lv_aload_n hx hb dX1_readLevels_215 rfl (lv_at hl 4 rfl) ?_
            refine va_get (D := D) (ci := 1) (v := va_re ad (s15.2.2 a 2)) (C := RX1) (T := TX1) (N := 22) hx hb hts (mus hf_X1) hown hK hP a (wld_o ct ad G s15.2 hc hk (by decide)) rfl 2 (by decide) (hts (.fieldLink RX1 28 "VideoSuite$Decoder" "work" "LVideoSuite$Work;") (mu mw_644)) (fun _ h9 => h9) rfl dX1_readLevels_216 ?_
            obtain ⟨b19, ho19, hc19, hk19, hF⟩ := dr_some hF
            refine W_st (st' := [.ref (ad b19)]) (by rw [va_some ho19]) ?_
            refine va_get (D := D) (ci := 9) (v := va_re ad (s15.2.2 b19 6)) (C := RX9) (T := TX9) (N := 20) hx hb hts (mus hf_X9) hown hK hP b19 (wld_o ct ad G s15.2 hc19 hk19 (by decide)) rfl 6 (by decide) (hts (.fieldLink RX1 355 "VideoSuite$Work" "info" "[I") (mu mw_444)) (fun _ h9 => h9) rfl dX1_readLevels_219 ?_
            refine lv_iload_n hx hb dX1_readLevels_222 rfl (lv_at hl 3 rfl) ?_
            refine lv_iconst (v := (4 : Int32)) hx hb dX1_readLevels_223 (by decide) ?_
            refine lv_iadd hx hb dX1_readLevels_224 ?_
            obtain ⟨x20, ex20, hF⟩ := ltt_some hF
            refine lv_topi (fun zx20 ezx20 => ?_)
            obtain rfl : x20 = zx20 := ex20.trans ezx20.symm
            obtain ⟨b21, ho21, hc21, hk21, hF⟩ := dr_some hF
            refine W_st (st' := [.int x20, .ref (ad b21)]) (by rw [va_some ho21]) ?_
            obtain ⟨hvc, hF⟩ := chk_some hF
            refine va_iald hx hb hK hP b21 1 (wld_i ct ad G s15.2 hc21 hk21) rfl hvc dX1_readLevels_225 ?_
            obtain ⟨x22, ex22, hF⟩ := ltt_some hF
            refine lv_topi (fun zx22 ezx22 => ?_)
            obtain rfl : x22 = zx22 := ex22.trans ezx22.symm
            refine lv_iconst (v := (2 : Int32)) hx hb dX1_readLevels_226 (by decide) ?_
            refine lv_icmp_ne (tgt := 279) hx hb dX1_readLevels_227 (by decide) (fun c23 => ?_) (fun c23 => ?_)
            · rw [if_neg c23] at hF
              obtain rfl := Option.some.inj hF
              subst hwz17
              exact K14 _ _ _ hP hD hS (lv_sub hl [0, 1, 2, 3, 4, 5] rfl)
            · rw [if_pos c23] at hF
              refine lv_aload_n hx hb dX1_readLevels_230 rfl (lv_at hl 4 rfl) ?_
              refine va_get (D := D) (ci := 1) (v := va_re ad (s15.2.2 a 2)) (C := RX1) (T := TX1) (N := 22) hx hb hts (mus hf_X1) hown hK hP a (wld_o ct ad G s15.2 hc hk (by decide)) rfl 2 (by decide) (hts (.fieldLink RX1 28 "VideoSuite$Decoder" "work" "LVideoSuite$Work;") (mu mw_644)) (fun _ h9 => h9) rfl dX1_readLevels_231 ?_
              refine W_st (st' := [.ref (ad b19)]) (by rw [va_some ho19]) ?_
              refine va_get (D := D) (ci := 9) (v := va_re ad (s15.2.2 b19 8)) (C := RX9) (T := TX9) (N := 20) hx hb hts (mus hf_X9) hown hK hP b19 (wld_o ct ad G s15.2 hc19 hk19 (by decide)) rfl 8 (by decide) (hts (.fieldLink RX1 476 "VideoSuite$Work" "total" "[I") (mu mw_451)) (fun _ h9 => h9) rfl dX1_readLevels_234 ?_
              refine lv_bipush (v := (24 : Int32)) hx hb dX1_readLevels_237 (by decide) ?_
              refine lv_iload_n hx hb dX1_readLevels_239 rfl (lv_at hl 5 rfl) ?_
              refine lv_imul hx hb dX1_readLevels_240 ?_
              obtain ⟨x24, ex24, hF⟩ := ltt_some hF
              refine lv_topi (fun zx24 ezx24 => ?_)
              obtain rfl : x24 = zx24 := ex24.trans ezx24.symm
              refine lv_iload hx hb dX1_readLevels_241 (lv_at hl 0 rfl) ?_
              refine lv_iadd hx hb dX1_readLevels_243 ?_
              obtain ⟨x25, ex25, hF⟩ := ltt_some hF
              refine lv_topi (fun zx25 ezx25 => ?_)
              obtain rfl : x25 = zx25 := ex25.trans ezx25.symm
              refine lv_aload_n hx hb dX1_readLevels_244 rfl (lv_at hl 4 rfl) ?_
              refine va_get (D := D) (ci := 1) (v := va_re ad (s15.2.2 a 0)) (C := RX1) (T := TX1) (N := 22) hx hb hts (mus hf_X1) hown hK hP a (wld_o ct ad G s15.2 hc hk (by decide)) rfl 0 (by decide) (hts (.fieldLink RX1 12 "VideoSuite$Decoder" "reader" "LVideoSuite$Reader;") (mu mw_640)) (fun _ h9 => h9) rfl dX1_readLevels_245 ?_
              refine lv_aload_n hx hb dX1_readLevels_248 rfl (lv_at hl 4 rfl) ?_
              refine va_get (D := D) (ci := 1) (v := va_re ad (s15.2.2 a 2)) (C := RX1) (T := TX1) (N := 22) hx hb hts (mus hf_X1) hown hK hP a (wld_o ct ad G s15.2 hc hk (by decide)) rfl 2 (by decide) (hts (.fieldLink RX1 28 "VideoSuite$Decoder" "work" "LVideoSuite$Work;") (mu mw_644)) (fun _ h9 => h9) rfl dX1_readLevels_249 ?_
              refine lv_iload_n hx hb dX1_readLevels_252 rfl (lv_at hl 5 rfl) ?_
              refine lv_iload hx hb dX1_readLevels_253 (lv_at hl 0 rfl) ?_
              refine W_st (st' := [.int s15.1, .int p0, .ref (ad b19), va_re ad (s15.2.2 a 0), .int x25, va_re ad (s15.2.2 b19 8)]) (by rw [va_some ho19]) ?_
              obtain ⟨y26, hy26, hF⟩ := bnd_some hF
              have hf9 := wA_in hD hA9 hS
              refine va_calli (va_runV (As := [.int p0, .int s15.1]) (rest := [va_re ad (s15.2.2 a 0), .int x25, va_re ad (s15.2.2 b19 8)]) ⟨hx, hb, hml, hown, hts⟩ (kX9_tokenTable l D ct ad Z G s15.2 H.size b19 p0 s15.1 y26 hc19 hk19 hy26) (cwV 2 hts gX1_readLevels_X9_tokenTable rfl rfl rfl (by decide +kernel) ⟨Nat.le_of_ble_eq_true rfl, Nat.le_of_ble_eq_true rfl⟩) ⟨fun a U g mk q => by obtain ⟨q0, q1, qP, qK, qD, qZ, qN⟩ := q; exact ⟨q0, q1, qP, va_K.moved (u := U) (U := U.calling g mk a) (Vm.Alike.refl U.vm) qK, qD, sF.moved (u := U) (U := U.calling g mk a) (Vm.Alike.refl U.vm) qZ, nF.same rfl qN⟩, va_recv hK hP (ci := 9) (q0 := b19) rfl (wld_o ct ad G s15.2 hc19 hk19 (by decide)), fun U hU hW => ⟨rfl, by rw [hU], by rw [hU]; exact hP, va_K.moved hW.alike hK, hD.weaken (fun _ _ _ _ => trivial), by rw [hU]; exact ((hZ.kept hS.2.1).narrow hf9).moved hW.alike, hN.warm hW⟩⟩ rfl rfl hl.1 rfl (lv_room (by simp only [List.map, va_re_cat]; exact Nat.le_of_ble_eq_true rfl)) dX1_readLevels_255 ⟨(Nat.zero_le _), (Nat.zero_le _)⟩) hS (fun q _ h => hf9 q h) hf9 (fun r u t H locs ht hvm hw hB hz1 hk1 hS => ?_)
              obtain ⟨hP, hK9, hD9⟩ := hB
              rw [ht] at hP
              try dsimp only at hw
              subst hw
              have hD := hD9.weaken (fun _ q _ h => hf9 q.1 h)
              refine lv_bipush (v := (15 : Int32)) hx hb dX1_readLevels_258 (by decide) ?_
              refine lv_aloadq_n hx hb dX1_readLevels_260 rfl (lv_at hl 2 rfl) ?_
              refine lv_iload_n hx hb dX1_readLevels_261 rfl (lv_at hl 5 rfl) ?_
              refine lv_iconst (v := (3 : Int32)) hx hb dX1_readLevels_262 (by decide) ?_
              refine lv_iload hx hb dX1_readLevels_263 (lv_at hl 0 rfl) ?_
              refine lv_iadd hx hb dX1_readLevels_265 ?_
              obtain ⟨x27, ex27, hF⟩ := ltt_some hF
              refine lv_topi (fun zx27 ezx27 => ?_)
              obtain rfl : x27 = zx27 := ex27.trans ezx27.symm
              obtain ⟨y28, hy28, hF⟩ := bnd_some hF
              have hf9 := wA_in hD hA9 hS
              refine va_calli (va_runS (As := [.int p0, .int x27]) (rest := [va_re ad (M.2 b2 9), .int (15 : Int32), .int y26.2, va_re ad (s15.2.2 a 0), .int x25, va_re ad (s15.2.2 b19 8)]) ⟨hx, hb, hml, hown, hts⟩ (kX9_levelAt l D ct ad Z G y26.1 H.size p0 x27 y28 hy28) (va_cwS 2 hts gX1_readLevels_X9_levelAt rfl rfl rfl (by decide +kernel) ⟨Nat.le_of_ble_eq_true rfl, Nat.le_of_ble_eq_true rfl⟩) ⟨fun a U g mk q => by obtain ⟨q0, q1, qP, qK, qD, qZ, qN⟩ := q; exact ⟨q0, q1, qP, va_K.moved (u := U) (U := U.calling g mk a) (Vm.Alike.refl U.vm) qK, qD, sF.moved (u := U) (U := U.calling g mk a) (Vm.Alike.refl U.vm) qZ, nF.same rfl qN⟩, fun U hU hW => ⟨rfl, by rw [hU], by rw [hU]; exact hP, va_K.moved hW.alike hK, hD.weaken (fun _ _ _ _ => trivial), by rw [hU]; exact ((hZ.kept hS.2.1).narrow hf9).moved hW.alike, hN.warm hW⟩⟩ rfl rfl hl.1 rfl (lv_room (by simp only [List.map, va_re_cat]; exact Nat.le_of_ble_eq_true rfl)) dX1_readLevels_266 ⟨(Nat.zero_le _), (Nat.zero_le _)⟩) hS (fun q _ h => hf9 q h) hf9 (fun r u t H locs ht hvm hw hB hz1 hk1 hS => ?_)
              obtain ⟨hP, hK9, hD9⟩ := hB
              rw [ht] at hP
              try dsimp only at hw
              subst hw
              have hD := hD9.weaken (fun _ q _ h => hf9 q.1 h)
              obtain ⟨b29, ho29, hc29, hk29, hF⟩ := dr_some hF
              refine W_st (st' := [.int y28.2, va_re ad (M.2 b2 9), .int (15 : Int32), .int y26.2, .ref (ad b29), .int x25, va_re ad (s15.2.2 b19 8)]) (by rw [va_some ho29]) ?_
              obtain ⟨y30, hy30, hF⟩ := bnd_some hF
              have hf9 := wA_in hD hA9 hS
              refine va_calli (va_runV (As := [.int y26.2, .int (15 : Int32), va_re ad (M.2 b2 9), .int y28.2]) (rest := [.int x25, va_re ad (s15.2.2 b19 8)]) ⟨hx, hb, hml, hown, hts⟩ (kX5_levels l D ct ad Z G y28.1 H.size b29 y26.2 ((15 : Int32)) ((M.2 b2 9)) y28.2 y30 hc29 hk29 hy30) (cwV 4 hts gX1_readLevels_X5_levels rfl rfl rfl (by decide +kernel) ⟨Nat.le_of_ble_eq_true rfl, Nat.le_of_ble_eq_true rfl⟩) ⟨fun a U g mk q => by obtain ⟨q0, q1, qP, qK, qD, qZ, qN⟩ := q; exact ⟨q0, q1, qP, va_K.moved (u := U) (U := U.calling g mk a) (Vm.Alike.refl U.vm) qK, qD, sF.moved (u := U) (U := U.calling g mk a) (Vm.Alike.refl U.vm) qZ, nF.same rfl qN⟩, va_recv hK hP (ci := 5) (q0 := b29) rfl (wld_o ct ad G y28.1 hc29 hk29 (by decide)), fun U hU hW => ⟨rfl, by rw [hU], by rw [hU]; exact hP, va_K.moved hW.alike hK, hD.weaken (fun _ _ _ _ => trivial), by rw [hU]; exact ((hZ.kept hS.2.1).narrow hf9).moved hW.alike, hN.warm hW⟩⟩ rfl rfl hl.1 rfl (lv_room (by simp only [List.map, va_re_cat]; exact Nat.le_of_ble_eq_true rfl)) dX1_readLevels_269 ⟨(Nat.zero_le _), (Nat.zero_le _)⟩) hS (fun q _ h => hf9 q h) hf9 (fun r u t H locs ht hvm hw hB hz1 hk1 hS => ?_)
              obtain ⟨hP, hK9, hD9⟩ := hB
              rw [ht] at hP
              try dsimp only at hw
              subst hw
              have hD := hD9.weaken (fun _ q _ h => hf9 q.1 h)
              obtain ⟨b31, ho31, hc31, hk31, hF⟩ := dr_some hF
              refine W_st (st' := [.int y30.2, .int x25, .ref (ad b31)]) (by rw [va_some ho31]) ?_
              obtain ⟨hvc, hF⟩ := chk_some hF
              refine va_iast hx hb hK hP hD hS b31 1 (wld_i ct ad G y30.1 hc31 hk31) rfl hvc dX1_readLevels_272 (fun H locs hP hD hS => ?_)
              obtain ⟨M32, eM32, hF⟩ := ltt_some hF
              rw [set_i ct ad G y30.1 hc31 hk31, ← eM32] at hP hD
              obtain ⟨x33, ex33, hF⟩ := ltt_some hF
              refine lv_iinc (v := x33) (lv' := [(5, .int x33), (4, .int y6), (3, va_re ad (M.2 b2 9)), (2, .int x1), (0, .ref (ad a)), (1, .int p0)]) hx hb dX1_readLevels_273 hl (k := 0) rfl (by rw [ex33]; rfl) (by decide) rfl (fun ls hl => ?_)
              refine lv_goto (tgt := 208) hx hb dX1_readLevels_276 (by decide) ?_
              obtain rfl := Option.some.inj hF
              exact hwz17 _ _ _ hP hD hS (lv_sub hl [0, 1, 2, 3, 4, 5] rfl)
        clear hF
        refine itr_rule (fun (s12 : Int32 × DD) => ∀ (H : Heap) (locs : List Loc) (ls : Array Slot), va_P D classes (wld ct ad G s12.2) H → va_D A (wld ct ad G s12.2) → va_S A s.heap H locs → lv_has ls 6 [(5, .int s12.1), (4, .int y6), (3, va_re ad (M.2 b2 9)), (2, .int x1), (0, .ref (ad a)), (1, .int p0)] → W p l e (headSpec wuX1_readLevels ({ frames := 4, cells := 0, slots := 0, locals := 108 })).room s m ([.ref (ad a), .int p0] : List Value).toArray below meth c H locs 0 0 (MQ below (va_Qv (fun (_ : Unit) => True) (fun _ t => kE D ct ad G A y t) A) ([.ref (ad a), .int p0] : List Value).toArray s 0 0 A) (F0 m 158 ls [])) ?_ _ _ hy11 _ _ _ hP hD hS (lv_sub hl [0, 1, 2, 3, 4, 5] rfl)
        rintro s12 ⟨z34, hF, hwz34⟩ H locs ls hP hD hS hl
        try dsimp only at hF
        refine lv_iload hx hb dX1_readLevels_158 (lv_at hl 0 rfl) ?_
        refine lv_iconst (v := (3 : Int32)) hx hb dX1_readLevels_160 (by decide) ?_
        refine lv_icmp_ge (tgt := 204) hx hb dX1_readLevels_161 (by decide) (fun c35 => ?_) (fun c35 => ?_)
        · rw [if_pos c35] at hF
          obtain rfl := Option.some.inj hF
          subst hwz34
          exact K11 _ _ _ hP hD hS (lv_sub hl [0, 1, 2, 3, 4, 5] rfl)
        · rw [if_neg c35] at hF
          refine lv_aload_n hx hb dX1_readLevels_164 rfl (lv_at hl 4 rfl) ?_
          refine va_get (D := D) (ci := 1) (v := va_re ad (s12.2.2 a 2)) (C := RX1) (T := TX1) (N := 22) hx hb hts (mus hf_X1) hown hK hP a (wld_o ct ad G s12.2 hc hk (by decide)) rfl 2 (by decide) (hts (.fieldLink RX1 28 "VideoSuite$Decoder" "work" "LVideoSuite$Work;") (mu mw_644)) (fun _ h9 => h9) rfl dX1_readLevels_165 ?_
          obtain ⟨b36, ho36, hc36, hk36, hF⟩ := dr_some hF
          refine W_st (st' := [.ref (ad b36)]) (by rw [va_some ho36]) ?_
          refine va_get (D := D) (ci := 9) (v := va_re ad (s12.2.2 b36 6)) (C := RX9) (T := TX9) (N := 20) hx hb hts (mus hf_X9) hown hK hP b36 (wld_o ct ad G s12.2 hc36 hk36 (by decide)) rfl 6 (by decide) (hts (.fieldLink RX1 355 "VideoSuite$Work" "info" "[I") (mu mw_444)) (fun _ h9 => h9) rfl dX1_readLevels_168 ?_
          refine lv_iload_n hx hb dX1_readLevels_171 rfl (lv_at hl 3 rfl) ?_
          refine lv_iconst (v := (4 : Int32)) hx hb dX1_readLevels_172 (by decide) ?_
          refine lv_iadd hx hb dX1_readLevels_173 ?_
          obtain ⟨x37, ex37, hF⟩ := ltt_some hF
          refine lv_topi (fun zx37 ezx37 => ?_)
          obtain rfl : x37 = zx37 := ex37.trans ezx37.symm
          obtain ⟨b38, ho38, hc38, hk38, hF⟩ := dr_some hF
          refine W_st (st' := [.int x37, .ref (ad b38)]) (by rw [va_some ho38]) ?_
          obtain ⟨hvc, hF⟩ := chk_some hF
          refine va_iald hx hb hK hP b38 1 (wld_i ct ad G s12.2 hc38 hk38) rfl hvc dX1_readLevels_174 ?_
          obtain ⟨x39, ex39, hF⟩ := ltt_some hF
          refine lv_topi (fun zx39 ezx39 => ?_)
          obtain rfl : x39 = zx39 := ex39.trans ezx39.symm
          refine lv_if_le (tgt := 204) hx hb dX1_readLevels_175 (by decide) (fun c40 => ?_) (fun c40 => ?_)
          · rw [if_pos c40] at hF
            obtain rfl := Option.some.inj hF
            subst hwz34
            exact K11 _ _ _ hP hD hS (lv_sub hl [0, 1, 2, 3, 4, 5] rfl)
          · rw [if_neg c40] at hF
            refine lv_aload_n hx hb dX1_readLevels_178 rfl (lv_at hl 4 rfl) ?_
            refine va_get (D := D) (ci := 1) (v := va_re ad (s12.2.2 a 0)) (C := RX1) (T := TX1) (N := 22) hx hb hts (mus hf_X1) hown hK hP a (wld_o ct ad G s12.2 hc hk (by decide)) rfl 0 (by decide) (hts (.fieldLink RX1 12 "VideoSuite$Decoder" "reader" "LVideoSuite$Reader;") (mu mw_640)) (fun _ h9 => h9) rfl dX1_readLevels_179 ?_
            refine lv_iconst (v := (4 : Int32)) hx hb dX1_readLevels_182 (by decide) ?_
            refine lv_iconst (v := (4 : Int32)) hx hb dX1_readLevels_183 (by decide) ?_
            refine lv_aloadq_n hx hb dX1_readLevels_184 rfl (lv_at hl 2 rfl) ?_
            refine lv_iload_n hx hb dX1_readLevels_185 rfl (lv_at hl 5 rfl) ?_
            refine lv_bipush (v := (16 : Int32)) hx hb dX1_readLevels_186 (by decide) ?_
            refine lv_iload hx hb dX1_readLevels_188 (lv_at hl 0 rfl) ?_
            refine lv_iadd hx hb dX1_readLevels_190 ?_
            obtain ⟨x41, ex41, hF⟩ := ltt_some hF
            refine lv_topi (fun zx41 ezx41 => ?_)
            obtain rfl : x41 = zx41 := ex41.trans ezx41.symm
            obtain ⟨y42, hy42, hF⟩ := bnd_some hF
            have hf9 := wA_in hD hA9 hS
            refine va_calli (va_runS (As := [.int p0, .int x41]) (rest := [va_re ad (M.2 b2 9), .int (4 : Int32), .int (4 : Int32), va_re ad (s12.2.2 a 0)]) ⟨hx, hb, hml, hown, hts⟩ (kX9_levelAt l D ct ad Z G s12.2 H.size p0 x41 y42 hy42) (va_cwS 2 hts gX1_readLevels_X9_levelAt rfl rfl rfl (by decide +kernel) ⟨Nat.le_of_ble_eq_true rfl, Nat.le_of_ble_eq_true rfl⟩) ⟨fun a U g mk q => by obtain ⟨q0, q1, qP, qK, qD, qZ, qN⟩ := q; exact ⟨q0, q1, qP, va_K.moved (u := U) (U := U.calling g mk a) (Vm.Alike.refl U.vm) qK, qD, sF.moved (u := U) (U := U.calling g mk a) (Vm.Alike.refl U.vm) qZ, nF.same rfl qN⟩, fun U hU hW => ⟨rfl, by rw [hU], by rw [hU]; exact hP, va_K.moved hW.alike hK, hD.weaken (fun _ _ _ _ => trivial), by rw [hU]; exact ((hZ.kept hS.2.1).narrow hf9).moved hW.alike, hN.warm hW⟩⟩ rfl rfl hl.1 rfl (lv_room (by simp only [List.map, va_re_cat]; exact Nat.le_of_ble_eq_true rfl)) dX1_readLevels_191 ⟨(Nat.zero_le _), (Nat.zero_le _)⟩) hS (fun q _ h => hf9 q h) hf9 (fun r u t H locs ht hvm hw hB hz1 hk1 hS => ?_)
            obtain ⟨hP, hK9, hD9⟩ := hB
            rw [ht] at hP
            try dsimp only at hw
            subst hw
            have hD := hD9.weaken (fun _ q _ h => hf9 q.1 h)
            obtain ⟨b43, ho43, hc43, hk43, hF⟩ := dr_some hF
            refine W_st (st' := [.int y42.2, va_re ad (M.2 b2 9), .int (4 : Int32), .int (4 : Int32), .ref (ad b43)]) (by rw [va_some ho43]) ?_
            obtain ⟨y44, hy44, hF⟩ := bnd_some hF
            have hf9 := wA_in hD hA9 hS
            refine va_calli (va_runV (As := [.int (4 : Int32), .int (4 : Int32), va_re ad (M.2 b2 9), .int y42.2]) (rest := []) ⟨hx, hb, hml, hown, hts⟩ (kX5_levels l D ct ad Z G y42.1 H.size b43 ((4 : Int32)) ((4 : Int32)) ((M.2 b2 9)) y42.2 y44 hc43 hk43 hy44) (cwV 4 hts gX1_readLevels_X5_levels rfl rfl rfl (by decide +kernel) ⟨Nat.le_of_ble_eq_true rfl, Nat.le_of_ble_eq_true rfl⟩) ⟨fun a U g mk q => by obtain ⟨q0, q1, qP, qK, qD, qZ, qN⟩ := q; exact ⟨q0, q1, qP, va_K.moved (u := U) (U := U.calling g mk a) (Vm.Alike.refl U.vm) qK, qD, sF.moved (u := U) (U := U.calling g mk a) (Vm.Alike.refl U.vm) qZ, nF.same rfl qN⟩, va_recv hK hP (ci := 5) (q0 := b43) rfl (wld_o ct ad G y42.1 hc43 hk43 (by decide)), fun U hU hW => ⟨rfl, by rw [hU], by rw [hU]; exact hP, va_K.moved hW.alike hK, hD.weaken (fun _ _ _ _ => trivial), by rw [hU]; exact ((hZ.kept hS.2.1).narrow hf9).moved hW.alike, hN.warm hW⟩⟩ rfl rfl hl.1 rfl (lv_room (Nat.le_of_ble_eq_true rfl)) dX1_readLevels_194 ⟨(Nat.zero_le _), (Nat.zero_le _)⟩) hS (fun q _ h => hf9 q h) hf9 (fun r u t H locs ht hvm hw hB hz1 hk1 hS => ?_)
            obtain ⟨hP, hK9, hD9⟩ := hB
            rw [ht] at hP
            try dsimp only at hw
            subst hw
            have hD := hD9.weaken (fun _ q _ h => hf9 q.1 h)
            refine lv_pop hx hb dX1_readLevels_197 rfl ?_
            obtain ⟨x45, ex45, hF⟩ := ltt_some hF
            refine lv_iinc (v := x45) (lv' := [(5, .int x45), (4, .int y6), (3, va_re ad (M.2 b2 9)), (2, .int x1), (0, .ref (ad a)), (1, .int p0)]) hx hb dX1_readLevels_198 hl (k := 0) rfl (by rw [ex45]; rfl) (by decide) rfl (fun ls hl => ?_)
            refine lv_goto (tgt := 158) hx hb dX1_readLevels_201 (by decide) ?_
            obtain rfl := Option.some.inj hF
            exact hwz34 _ _ _ hP hD hS (lv_sub hl [0, 1, 2, 3, 4, 5] rfl)
      clear hF
      refine itr_rule (fun (s9 : Int32 × DD) => ∀ (H : Heap) (locs : List Loc) (ls : Array Slot), va_P D classes (wld ct ad G s9.2) H → va_D A (wld ct ad G s9.2) → va_S A s.heap H locs → lv_has ls 6 [(5, .int s9.1), (4, .int y6), (3, va_re ad (M.2 b2 9)), (2, .int x1), (0, .ref (ad a)), (1, .int p0)] → W p l e (headSpec wuX1_readLevels ({ frames := 4, cells := 0, slots := 0, locals := 108 })).room s m ([.ref (ad a), .int p0] : List Value).toArray below meth c H locs 0 0 (MQ below (va_Qv (fun (_ : Unit) => True) (fun _ t => kE D ct ad G A y t) A) ([.ref (ad a), .int p0] : List Value).toArray s 0 0 A) (F0 m 69 ls [])) ?_ _ _ hy8 _ _ _ hP hD hS (lv_sub hl [0, 1, 2, 3, 4, 5] rfl)
      rintro s9 ⟨z46, hF, hwz46⟩ H locs ls hP hD hS hl
      try dsimp only at hF
      refine lv_iload hx hb dX1_readLevels_69 (lv_at hl 0 rfl) ?_
      refine lv_bipush (v := (16 : Int32)) hx hb dX1_readLevels_71 (by decide) ?_
      refine lv_icmp_ge (tgt := 155) hx hb dX1_readLevels_73 (by decide) (fun c47 => ?_) (fun c47 => ?_)
      · rw [if_pos c47] at hF
        obtain rfl := Option.some.inj hF
        subst hwz46
        exact K8 _ _ _ hP hD hS (lv_sub hl [0, 1, 2, 3, 4, 5] rfl)
      · rw [if_neg c47] at hF
        refine lv_aload_n hx hb dX1_readLevels_76 rfl (lv_at hl 4 rfl) ?_
        refine va_get (D := D) (ci := 1) (v := va_re ad (s9.2.2 a 2)) (C := RX1) (T := TX1) (N := 22) hx hb hts (mus hf_X1) hown hK hP a (wld_o ct ad G s9.2 hc hk (by decide)) rfl 2 (by decide) (hts (.fieldLink RX1 28 "VideoSuite$Decoder" "work" "LVideoSuite$Work;") (mu mw_644)) (fun _ h9 => h9) rfl dX1_readLevels_77 ?_
        obtain ⟨b48, ho48, hc48, hk48, hF⟩ := dr_some hF
        refine W_st (st' := [.ref (ad b48)]) (by rw [va_some ho48]) ?_
        refine va_get (D := D) (ci := 9) (v := va_re ad (s9.2.2 b48 6)) (C := RX9) (T := TX9) (N := 20) hx hb hts (mus hf_X9) hown hK hP b48 (wld_o ct ad G s9.2 hc48 hk48 (by decide)) rfl 6 (by decide) (hts (.fieldLink RX1 355 "VideoSuite$Work" "info" "[I") (mu mw_444)) (fun _ h9 => h9) rfl dX1_readLevels_80 ?_
        refine lv_iload_n hx hb dX1_readLevels_83 rfl (lv_at hl 3 rfl) ?_
        refine lv_iconst (v := (3 : Int32)) hx hb dX1_readLevels_84 (by decide) ?_
        refine lv_iadd hx hb dX1_readLevels_85 ?_
        obtain ⟨x49, ex49, hF⟩ := ltt_some hF
        refine lv_topi (fun zx49 ezx49 => ?_)
        obtain rfl : x49 = zx49 := ex49.trans ezx49.symm
        obtain ⟨b50, ho50, hc50, hk50, hF⟩ := dr_some hF
        refine W_st (st' := [.int x49, .ref (ad b50)]) (by rw [va_some ho50]) ?_
        obtain ⟨hvc, hF⟩ := chk_some hF
        refine va_iald hx hb hK hP b50 1 (wld_i ct ad G s9.2 hc50 hk50) rfl hvc dX1_readLevels_86 ?_
        obtain ⟨x51, ex51, hF⟩ := ltt_some hF
        refine lv_topi (fun zx51 ezx51 => ?_)
        obtain rfl : x51 = zx51 := ex51.trans ezx51.symm
        refine lv_iload hx hb dX1_readLevels_87 (lv_at hl 0 rfl) ?_
        refine lv_iconst (v := (4 : Int32)) hx hb dX1_readLevels_89 (by decide) ?_
        refine lv_idiv hx hb dX1_readLevels_90 (by decide) ?_
        obtain ⟨x52, ex52, hF⟩ := ltt_some hF
        refine lv_topi (fun zx52 ezx52 => ?_)
        obtain rfl : x52 = zx52 := ex52.trans ezx52.symm
        refine lv_ishr hx hb dX1_readLevels_91 ?_
        obtain ⟨x53, ex53, hF⟩ := ltt_some hF
        refine lv_topi (fun zx53 ezx53 => ?_)
        obtain rfl : x53 = zx53 := ex53.trans ezx53.symm
        refine lv_iconst (v := (1 : Int32)) hx hb dX1_readLevels_92 (by decide) ?_
        refine lv_iand hx hb dX1_readLevels_93 ?_
        obtain ⟨x54, ex54, hF⟩ := ltt_some hF
        refine lv_topi (fun zx54 ezx54 => ?_)
        obtain rfl : x54 = zx54 := ex54.trans ezx54.symm
        refine lv_iconst (v := (1 : Int32)) hx hb dX1_readLevels_94 (by decide) ?_
        obtain ⟨y55, hy55, hF⟩ := bnd_some hF
        have J55 : ∀ (H : Heap) (locs : List Loc) (ls : Array Slot), va_P D classes (wld ct ad G y55) H → va_D A (wld ct ad G y55) → va_S A s.heap H locs → lv_has ls 6 [(5, .int s9.1), (4, .int y6), (3, va_re ad (M.2 b2 9)), (2, .int x1), (0, .ref (ad a)), (1, .int p0)] → W p l e (headSpec wuX1_readLevels ({ frames := 4, cells := 0, slots := 0, locals := 108 })).room s m ([.ref (ad a), .int p0] : List Value).toArray below meth c H locs 0 0 (MQ below (va_Qv (fun (_ : Unit) => True) (fun _ t => kE D ct ad G A y t) A) ([.ref (ad a), .int p0] : List Value).toArray s 0 0 A) (F0 m 149 ls []) := by
          intro H locs ls hP hD hS hl
          obtain ⟨x56, ex56, hF⟩ := ltt_some hF
          refine lv_iinc (v := x56) (lv' := [(5, .int x56), (4, .int y6), (3, va_re ad (M.2 b2 9)), (2, .int x1), (0, .ref (ad a)), (1, .int p0)]) hx hb dX1_readLevels_149 hl (k := 0) rfl (by rw [ex56]; rfl) (by decide) rfl (fun ls hl => ?_)
          refine lv_goto (tgt := 69) hx hb dX1_readLevels_152 (by decide) ?_
          obtain rfl := Option.some.inj hF
          exact hwz46 _ _ _ hP hD hS (lv_sub hl [0, 1, 2, 3, 4, 5] rfl)
        clear hF
        have hF := hy55
        clear hy55
        refine lv_icmp_ne (tgt := 149) hx hb dX1_readLevels_95 (by decide) (fun c57 => ?_) (fun c57 => ?_)
        · rw [if_neg c57] at hF
          obtain rfl := Option.some.inj hF
          exact J55 _ _ _ hP hD hS (lv_sub hl [0, 1, 2, 3, 4, 5] rfl)
        · rw [if_pos c57] at hF
          refine lv_aload_n hx hb dX1_readLevels_98 rfl (lv_at hl 4 rfl) ?_
          refine va_get (D := D) (ci := 1) (v := va_re ad (s9.2.2 a 2)) (C := RX1) (T := TX1) (N := 22) hx hb hts (mus hf_X1) hown hK hP a (wld_o ct ad G s9.2 hc hk (by decide)) rfl 2 (by decide) (hts (.fieldLink RX1 28 "VideoSuite$Decoder" "work" "LVideoSuite$Work;") (mu mw_644)) (fun _ h9 => h9) rfl dX1_readLevels_99 ?_
          refine W_st (st' := [.ref (ad b48)]) (by rw [va_some ho48]) ?_
          refine va_get (D := D) (ci := 9) (v := va_re ad (s9.2.2 b48 8)) (C := RX9) (T := TX9) (N := 20) hx hb hts (mus hf_X9) hown hK hP b48 (wld_o ct ad G s9.2 hc48 hk48 (by decide)) rfl 8 (by decide) (hts (.fieldLink RX1 476 "VideoSuite$Work" "total" "[I") (mu mw_451)) (fun _ h9 => h9) rfl dX1_readLevels_102 ?_
          refine lv_bipush (v := (24 : Int32)) hx hb dX1_readLevels_105 (by decide) ?_
          refine lv_iload_n hx hb dX1_readLevels_107 rfl (lv_at hl 5 rfl) ?_
          refine lv_imul hx hb dX1_readLevels_108 ?_
          obtain ⟨x58, ex58, hF⟩ := ltt_some hF
          refine lv_topi (fun zx58 ezx58 => ?_)
          obtain rfl : x58 = zx58 := ex58.trans ezx58.symm
          refine lv_iload hx hb dX1_readLevels_109 (lv_at hl 0 rfl) ?_
          refine lv_iadd hx hb dX1_readLevels_111 ?_
          obtain ⟨x59, ex59, hF⟩ := ltt_some hF
          refine lv_topi (fun zx59 ezx59 => ?_)
          obtain rfl : x59 = zx59 := ex59.trans ezx59.symm
          refine lv_aload_n hx hb dX1_readLevels_112 rfl (lv_at hl 4 rfl) ?_
          refine va_get (D := D) (ci := 1) (v := va_re ad (s9.2.2 a 0)) (C := RX1) (T := TX1) (N := 22) hx hb hts (mus hf_X1) hown hK hP a (wld_o ct ad G s9.2 hc hk (by decide)) rfl 0 (by decide) (hts (.fieldLink RX1 12 "VideoSuite$Decoder" "reader" "LVideoSuite$Reader;") (mu mw_640)) (fun _ h9 => h9) rfl dX1_readLevels_113 ?_
          refine lv_aload_n hx hb dX1_readLevels_116 rfl (lv_at hl 4 rfl) ?_
          refine va_get (D := D) (ci := 1) (v := va_re ad (s9.2.2 a 2)) (C := RX1) (T := TX1) (N := 22) hx hb hts (mus hf_X1) hown hK hP a (wld_o ct ad G s9.2 hc hk (by decide)) rfl 2 (by decide) (hts (.fieldLink RX1 28 "VideoSuite$Decoder" "work" "LVideoSuite$Work;") (mu mw_644)) (fun _ h9 => h9) rfl dX1_readLevels_117 ?_
          refine lv_iload_n hx hb dX1_readLevels_120 rfl (lv_at hl 5 rfl) ?_
          refine lv_iload hx hb dX1_readLevels_121 (lv_at hl 0 rfl) ?_
          refine W_st (st' := [.int s9.1, .int p0, .ref (ad b48), va_re ad (s9.2.2 a 0), .int x59, va_re ad (s9.2.2 b48 8)]) (by rw [va_some ho48]) ?_
          obtain ⟨y60, hy60, hF⟩ := bnd_some hF
          have hf9 := wA_in hD hA9 hS
          refine va_calli (va_runV (As := [.int p0, .int s9.1]) (rest := [va_re ad (s9.2.2 a 0), .int x59, va_re ad (s9.2.2 b48 8)]) ⟨hx, hb, hml, hown, hts⟩ (kX9_tokenTable l D ct ad Z G s9.2 H.size b48 p0 s9.1 y60 hc48 hk48 hy60) (cwV 2 hts gX1_readLevels_X9_tokenTable rfl rfl rfl (by decide +kernel) ⟨Nat.le_of_ble_eq_true rfl, Nat.le_of_ble_eq_true rfl⟩) ⟨fun a U g mk q => by obtain ⟨q0, q1, qP, qK, qD, qZ, qN⟩ := q; exact ⟨q0, q1, qP, va_K.moved (u := U) (U := U.calling g mk a) (Vm.Alike.refl U.vm) qK, qD, sF.moved (u := U) (U := U.calling g mk a) (Vm.Alike.refl U.vm) qZ, nF.same rfl qN⟩, va_recv hK hP (ci := 9) (q0 := b48) rfl (wld_o ct ad G s9.2 hc48 hk48 (by decide)), fun U hU hW => ⟨rfl, by rw [hU], by rw [hU]; exact hP, va_K.moved hW.alike hK, hD.weaken (fun _ _ _ _ => trivial), by rw [hU]; exact ((hZ.kept hS.2.1).narrow hf9).moved hW.alike, hN.warm hW⟩⟩ rfl rfl hl.1 rfl (lv_room (by simp only [List.map, va_re_cat]; exact Nat.le_of_ble_eq_true rfl)) dX1_readLevels_123 ⟨(Nat.zero_le _), (Nat.zero_le _)⟩) hS (fun q _ h => hf9 q h) hf9 (fun r u t H locs ht hvm hw hB hz1 hk1 hS => ?_)
          obtain ⟨hP, hK9, hD9⟩ := hB
          rw [ht] at hP
          try dsimp only at hw
          subst hw
          have hD := hD9.weaken (fun _ q _ h => hf9 q.1 h)
          refine lv_iload hx hb dX1_readLevels_126 (lv_at hl 1 rfl) ?_
          obtain ⟨y61, hy61, hF⟩ := bnd_some hF
          have J61 : ∀ (H : Heap) (locs : List Loc) (ls : Array Slot), va_P D classes (wld ct ad G y60.1) H → va_D A (wld ct ad G y60.1) → va_S A s.heap H locs → lv_has ls 6 [(5, .int s9.1), (4, .int y6), (3, va_re ad (M.2 b2 9)), (2, .int x1), (0, .ref (ad a)), (1, .int p0)] → W p l e (headSpec wuX1_readLevels ({ frames := 4, cells := 0, slots := 0, locals := 108 })).room s m ([.ref (ad a), .int p0] : List Value).toArray below meth c H locs 0 0 (MQ below (va_Qv (fun (_ : Unit) => True) (fun _ t => kE D ct ad G A y t) A) ([.ref (ad a), .int p0] : List Value).toArray s 0 0 A) (F0 m 138 ls [.int y61, .int y60.2, va_re ad (s9.2.2 a 0), .int x59, va_re ad (s9.2.2 b48 8)]) := by
            intro H locs ls hP hD hS hl
            refine lv_aloadq_n hx hb dX1_readLevels_138 rfl (lv_at hl 2 rfl) ?_
            refine lv_iload_n hx hb dX1_readLevels_139 rfl (lv_at hl 5 rfl) ?_
            refine lv_iload hx hb dX1_readLevels_140 (lv_at hl 0 rfl) ?_
            obtain ⟨y62, hy62, hF⟩ := bnd_some hF
            have hf9 := wA_in hD hA9 hS
            refine va_calli (va_runS (As := [.int p0, .int s9.1]) (rest := [va_re ad (M.2 b2 9), .int y61, .int y60.2, va_re ad (s9.2.2 a 0), .int x59, va_re ad (s9.2.2 b48 8)]) ⟨hx, hb, hml, hown, hts⟩ (kX9_levelAt l D ct ad Z G y60.1 H.size p0 s9.1 y62 hy62) (va_cwS 2 hts gX1_readLevels_X9_levelAt rfl rfl rfl (by decide +kernel) ⟨Nat.le_of_ble_eq_true rfl, Nat.le_of_ble_eq_true rfl⟩) ⟨fun a U g mk q => by obtain ⟨q0, q1, qP, qK, qD, qZ, qN⟩ := q; exact ⟨q0, q1, qP, va_K.moved (u := U) (U := U.calling g mk a) (Vm.Alike.refl U.vm) qK, qD, sF.moved (u := U) (U := U.calling g mk a) (Vm.Alike.refl U.vm) qZ, nF.same rfl qN⟩, fun U hU hW => ⟨rfl, by rw [hU], by rw [hU]; exact hP, va_K.moved hW.alike hK, hD.weaken (fun _ _ _ _ => trivial), by rw [hU]; exact ((hZ.kept hS.2.1).narrow hf9).moved hW.alike, hN.warm hW⟩⟩ rfl rfl hl.1 rfl (lv_room (by simp only [List.map, va_re_cat]; exact Nat.le_of_ble_eq_true rfl)) dX1_readLevels_142 ⟨(Nat.zero_le _), (Nat.zero_le _)⟩) hS (fun q _ h => hf9 q h) hf9 (fun r u t H locs ht hvm hw hB hz1 hk1 hS => ?_)
            obtain ⟨hP, hK9, hD9⟩ := hB
            rw [ht] at hP
            try dsimp only at hw
            subst hw
            have hD := hD9.weaken (fun _ q _ h => hf9 q.1 h)
            obtain ⟨b63, ho63, hc63, hk63, hF⟩ := dr_some hF
            refine W_st (st' := [.int y62.2, va_re ad (M.2 b2 9), .int y61, .int y60.2, .ref (ad b63), .int x59, va_re ad (s9.2.2 b48 8)]) (by rw [va_some ho63]) ?_
            obtain ⟨y64, hy64, hF⟩ := bnd_some hF
            have hf9 := wA_in hD hA9 hS
            refine va_calli (va_runV (As := [.int y60.2, .int y61, va_re ad (M.2 b2 9), .int y62.2]) (rest := [.int x59, va_re ad (s9.2.2 b48 8)]) ⟨hx, hb, hml, hown, hts⟩ (kX5_levels l D ct ad Z G y62.1 H.size b63 y60.2 y61 ((M.2 b2 9)) y62.2 y64 hc63 hk63 hy64) (cwV 4 hts gX1_readLevels_X5_levels rfl rfl rfl (by decide +kernel) ⟨Nat.le_of_ble_eq_true rfl, Nat.le_of_ble_eq_true rfl⟩) ⟨fun a U g mk q => by obtain ⟨q0, q1, qP, qK, qD, qZ, qN⟩ := q; exact ⟨q0, q1, qP, va_K.moved (u := U) (U := U.calling g mk a) (Vm.Alike.refl U.vm) qK, qD, sF.moved (u := U) (U := U.calling g mk a) (Vm.Alike.refl U.vm) qZ, nF.same rfl qN⟩, va_recv hK hP (ci := 5) (q0 := b63) rfl (wld_o ct ad G y62.1 hc63 hk63 (by decide)), fun U hU hW => ⟨rfl, by rw [hU], by rw [hU]; exact hP, va_K.moved hW.alike hK, hD.weaken (fun _ _ _ _ => trivial), by rw [hU]; exact ((hZ.kept hS.2.1).narrow hf9).moved hW.alike, hN.warm hW⟩⟩ rfl rfl hl.1 rfl (lv_room (by simp only [List.map, va_re_cat]; exact Nat.le_of_ble_eq_true rfl)) dX1_readLevels_145 ⟨(Nat.zero_le _), (Nat.zero_le _)⟩) hS (fun q _ h => hf9 q h) hf9 (fun r u t H locs ht hvm hw hB hz1 hk1 hS => ?_)
            obtain ⟨hP, hK9, hD9⟩ := hB
            rw [ht] at hP
            try dsimp only at hw
            subst hw
            have hD := hD9.weaken (fun _ q _ h => hf9 q.1 h)
            obtain ⟨b65, ho65, hc65, hk65, hF⟩ := dr_some hF
            refine W_st (st' := [.int y64.2, .int x59, .ref (ad b65)]) (by rw [va_some ho65]) ?_
            obtain ⟨hvc, hF⟩ := chk_some hF
            refine va_iast hx hb hK hP hD hS b65 1 (wld_i ct ad G y64.1 hc65 hk65) rfl hvc dX1_readLevels_148 (fun H locs hP hD hS => ?_)
            obtain ⟨M66, eM66, hF⟩ := ltt_some hF
            rw [set_i ct ad G y64.1 hc65 hk65, ← eM66] at hP hD
            obtain rfl := Option.some.inj hF
            exact J55 _ _ _ hP hD hS (lv_sub hl [0, 1, 2, 3, 4, 5] rfl)
          clear hF
          have hF := hy61
          clear hy61
          refine lv_if_eq (tgt := 136) hx hb dX1_readLevels_128 (by decide) (fun c67 => ?_) (fun c67 => ?_)
          · rw [if_pos c67] at hF
            refine lv_bipush (v := (16 : Int32)) hx hb dX1_readLevels_136 (by decide) ?_
            obtain rfl := Option.some.inj hF
            exact J61 _ _ _ hP hD hS (lv_sub hl [0, 1, 2, 3, 4, 5] rfl)
          · rw [if_neg c67] at hF
            refine lv_bipush (v := (15 : Int32)) hx hb dX1_readLevels_131 (by decide) ?_
            refine lv_goto (tgt := 138) hx hb dX1_readLevels_133 (by decide) ?_
            obtain rfl := Option.some.inj hF
            exact J61 _ _ _ hP hD hS (lv_sub hl [0, 1, 2, 3, 4, 5] rfl)
    clear hF
    have hF := hy7
    clear hy7
    refine lv_if_eq (tgt := 66) hx hb dX1_readLevels_37 (by decide) (fun c68 => ?_) (fun c68 => ?_)
    · rw [if_pos c68] at hF
      obtain rfl := Option.some.inj hF
      exact J7 _ _ _ hP hD hS (lv_sub hl [0, 1, 2, 3, 4] rfl)
    · rw [if_neg c68] at hF
      refine lv_aload_n hx hb dX1_readLevels_40 rfl (lv_at hl 3 rfl) ?_
      refine va_get (D := D) (ci := 1) (v := va_re ad (M.2 a 0)) (C := RX1) (T := TX1) (N := 22) hx hb hts (mus hf_X1) hown hK hP a (wld_o ct ad G M hc hk (by decide)) rfl 0 (by decide) (hts (.fieldLink RX1 12 "VideoSuite$Decoder" "reader" "LVideoSuite$Reader;") (mu mw_640)) (fun _ h9 => h9) rfl dX1_readLevels_41 ?_
      refine lv_aload_n hx hb dX1_readLevels_44 rfl (lv_at hl 3 rfl) ?_
      refine va_get (D := D) (ci := 1) (v := va_re ad (M.2 a 2)) (C := RX1) (T := TX1) (N := 22) hx hb hts (mus hf_X1) hown hK hP a (wld_o ct ad G M hc hk (by decide)) rfl 2 (by decide) (hts (.fieldLink RX1 28 "VideoSuite$Decoder" "work" "LVideoSuite$Work;") (mu mw_644)) (fun _ h9 => h9) rfl dX1_readLevels_45 ?_
      refine lv_iload_n hx hb dX1_readLevels_48 rfl (lv_at hl 4 rfl) ?_
      refine lv_iconst (v := (0 : Int32)) hx hb dX1_readLevels_49 (by decide) ?_
      refine W_st (st' := [.int (0 : Int32), .int p0, .ref (ad b2), va_re ad (M.2 a 0)]) (by rw [va_some ho2]) ?_
      obtain ⟨y69, hy69, hF⟩ := bnd_some hF
      have hf9 := wA_in hD hA9 hS
      refine va_calli (va_runV (As := [.int p0, .int (0 : Int32)]) (rest := [va_re ad (M.2 a 0)]) ⟨hx, hb, hml, hown, hts⟩ (kX9_tokenTable l D ct ad Z G M H.size b2 p0 ((0 : Int32)) y69 hc2 hk2 hy69) (cwV 2 hts gX1_readLevels_X9_tokenTable rfl rfl rfl (by decide +kernel) ⟨Nat.le_of_ble_eq_true rfl, Nat.le_of_ble_eq_true rfl⟩) ⟨fun a U g mk q => by obtain ⟨q0, q1, qP, qK, qD, qZ, qN⟩ := q; exact ⟨q0, q1, qP, va_K.moved (u := U) (U := U.calling g mk a) (Vm.Alike.refl U.vm) qK, qD, sF.moved (u := U) (U := U.calling g mk a) (Vm.Alike.refl U.vm) qZ, nF.same rfl qN⟩, va_recv hK hP (ci := 9) (q0 := b2) rfl (wld_o ct ad G M hc2 hk2 (by decide)), fun U hU hW => ⟨rfl, by rw [hU], by rw [hU]; exact hP, va_K.moved hW.alike hK, hD.weaken (fun _ _ _ _ => trivial), by rw [hU]; exact ((hZ.kept hS.2.1).narrow hf9).moved hW.alike, hN.warm hW⟩⟩ rfl rfl hl.1 rfl (lv_room (by simp only [List.map, va_re_cat]; exact Nat.le_of_ble_eq_true rfl)) dX1_readLevels_50 ⟨(Nat.zero_le _), (Nat.zero_le _)⟩) hS (fun q _ h => hf9 q h) hf9 (fun r u t H locs ht hvm hw hB hz1 hk1 hS => ?_)
      obtain ⟨hP, hK9, hD9⟩ := hB
      rw [ht] at hP
      try dsimp only at hw
      subst hw
      have hD := hD9.weaken (fun _ q _ h => hf9 q.1 h)
      refine lv_bipush (v := (16 : Int32)) hx hb dX1_readLevels_53 (by decide) ?_
      refine lv_aloadq_n hx hb dX1_readLevels_55 rfl (lv_at hl 1 rfl) ?_
      refine lv_iload_n hx hb dX1_readLevels_56 rfl (lv_at hl 4 rfl) ?_
      refine lv_bipush (v := (16 : Int32)) hx hb dX1_readLevels_57 (by decide) ?_
      obtain ⟨y70, hy70, hF⟩ := bnd_some hF
      have hf9 := wA_in hD hA9 hS
      refine va_calli (va_runS (As := [.int p0, .int (16 : Int32)]) (rest := [va_re ad (M.2 b2 9), .int (16 : Int32), .int y69.2, va_re ad (M.2 a 0)]) ⟨hx, hb, hml, hown, hts⟩ (kX9_levelAt l D ct ad Z G y69.1 H.size p0 ((16 : Int32)) y70 hy70) (va_cwS 2 hts gX1_readLevels_X9_levelAt rfl rfl rfl (by decide +kernel) ⟨Nat.le_of_ble_eq_true rfl, Nat.le_of_ble_eq_true rfl⟩) ⟨fun a U g mk q => by obtain ⟨q0, q1, qP, qK, qD, qZ, qN⟩ := q; exact ⟨q0, q1, qP, va_K.moved (u := U) (U := U.calling g mk a) (Vm.Alike.refl U.vm) qK, qD, sF.moved (u := U) (U := U.calling g mk a) (Vm.Alike.refl U.vm) qZ, nF.same rfl qN⟩, fun U hU hW => ⟨rfl, by rw [hU], by rw [hU]; exact hP, va_K.moved hW.alike hK, hD.weaken (fun _ _ _ _ => trivial), by rw [hU]; exact ((hZ.kept hS.2.1).narrow hf9).moved hW.alike, hN.warm hW⟩⟩ rfl rfl hl.1 rfl (lv_room (by simp only [List.map, va_re_cat]; exact Nat.le_of_ble_eq_true rfl)) dX1_readLevels_59 ⟨(Nat.zero_le _), (Nat.zero_le _)⟩) hS (fun q _ h => hf9 q h) hf9 (fun r u t H locs ht hvm hw hB hz1 hk1 hS => ?_)
      obtain ⟨hP, hK9, hD9⟩ := hB
      rw [ht] at hP
      try dsimp only at hw
      subst hw
      have hD := hD9.weaken (fun _ q _ h => hf9 q.1 h)
      obtain ⟨b71, ho71, hc71, hk71, hF⟩ := dr_some hF
      refine W_st (st' := [.int y70.2, va_re ad (M.2 b2 9), .int (16 : Int32), .int y69.2, .ref (ad b71)]) (by rw [va_some ho71]) ?_
      obtain ⟨y72, hy72, hF⟩ := bnd_some hF
      have hf9 := wA_in hD hA9 hS
      refine va_calli (va_runV (As := [.int y69.2, .int (16 : Int32), va_re ad (M.2 b2 9), .int y70.2]) (rest := []) ⟨hx, hb, hml, hown, hts⟩ (kX5_levels l D ct ad Z G y70.1 H.size b71 y69.2 ((16 : Int32)) ((M.2 b2 9)) y70.2 y72 hc71 hk71 hy72) (cwV 4 hts gX1_readLevels_X5_levels rfl rfl rfl (by decide +kernel) ⟨Nat.le_of_ble_eq_true rfl, Nat.le_of_ble_eq_true rfl⟩) ⟨fun a U g mk q => by obtain ⟨q0, q1, qP, qK, qD, qZ, qN⟩ := q; exact ⟨q0, q1, qP, va_K.moved (u := U) (U := U.calling g mk a) (Vm.Alike.refl U.vm) qK, qD, sF.moved (u := U) (U := U.calling g mk a) (Vm.Alike.refl U.vm) qZ, nF.same rfl qN⟩, va_recv hK hP (ci := 5) (q0 := b71) rfl (wld_o ct ad G y70.1 hc71 hk71 (by decide)), fun U hU hW => ⟨rfl, by rw [hU], by rw [hU]; exact hP, va_K.moved hW.alike hK, hD.weaken (fun _ _ _ _ => trivial), by rw [hU]; exact ((hZ.kept hS.2.1).narrow hf9).moved hW.alike, hN.warm hW⟩⟩ rfl rfl hl.1 rfl (lv_room (Nat.le_of_ble_eq_true rfl)) dX1_readLevels_62 ⟨(Nat.zero_le _), (Nat.zero_le _)⟩) hS (fun q _ h => hf9 q h) hf9 (fun r u t H locs ht hvm hw hB hz1 hk1 hS => ?_)
      obtain ⟨hP, hK9, hD9⟩ := hB
      rw [ht] at hP
      try dsimp only at hw
      subst hw
      have hD := hD9.weaken (fun _ q _ h => hf9 q.1 h)
      refine lv_pop hx hb dX1_readLevels_65 rfl ?_
      obtain rfl := Option.some.inj hF
      exact J7 _ _ _ hP hD hS (lv_sub hl [0, 1, 2, 3, 4] rfl)
  clear hF
  have hF := hy6
  clear hy6
  refine lv_icmp_ne (tgt := 32) hx hb dX1_readLevels_25 (by decide) (fun c73 => ?_) (fun c73 => ?_)
  · rw [if_neg c73] at hF
    refine lv_iconst (v := (0 : Int32)) hx hb dX1_readLevels_32 (by decide) ?_
    obtain rfl := Option.some.inj hF
    exact J6 _ _ _ hP hD hS (lv_sub hl [0, 1, 2, 3] rfl)
  · rw [if_pos c73] at hF
    refine lv_iconst (v := (1 : Int32)) hx hb dX1_readLevels_28 (by decide) ?_
    refine lv_goto (tgt := 33) hx hb dX1_readLevels_29 (by decide) ?_
    obtain rfl := Option.some.inj hF
    exact J6 _ _ _ hP hD hS (lv_sub hl [0, 1, 2, 3] rfl)
set_option maxRecDepth 20000 in
theorem gX1_readMarks_X5_fixed : GoodIn wuX1_readMarks (wsV RX1 183 RX5 yX5_fixed wuX5_fixed) := gu_V mw_1355 mw_1356 mw_1357 mw_169 mw_1358
set_option maxRecDepth 20000 in
set_option maxRecDepth 20000 in
theorem gX1_readMarks_X1_unsigned : GoodIn wuX1_readMarks (wsV RX1 186 RX1 yX1_unsigned wuX1_unsigned) := gu_V mw_1350 mw_1352 mw_34 mw_168 mw_1353
set_option maxRecDepth 20000 in
theorem dX1_readMarks_0 : decode cX1_readMarks 0 = .ok (.aload_n 0, 1) := by decide +kernel
theorem dX1_readMarks_1 : decode cX1_readMarks 1 = .ok (.getfield 68, 3) := by decide +kernel
theorem dX1_readMarks_4 : decode cX1_readMarks 4 = .ok (.getfield 212, 3) := by decide +kernel
theorem dX1_readMarks_7 : decode cX1_readMarks 7 = .ok (.astore_n 2, 1) := by decide +kernel
theorem dX1_readMarks_8 : decode cX1_readMarks 8 = .ok (.iload_n 1, 1) := by decide +kernel
theorem dX1_readMarks_9 : decode cX1_readMarks 9 = .ok (.iconst 5, 1) := by decide +kernel
theorem dX1_readMarks_10 : decode cX1_readMarks 10 = .ok (.if_icmp .ne 30, 3) := by decide +kernel
theorem dX1_readMarks_13 : decode cX1_readMarks 13 = .ok (.aload_n 2, 1) := by decide +kernel
theorem dX1_readMarks_14 : decode cX1_readMarks 14 = .ok (.bipush 19, 2) := by decide +kernel
theorem dX1_readMarks_16 : decode cX1_readMarks 16 = .ok (.aload_n 0, 1) := by decide +kernel
theorem dX1_readMarks_17 : decode cX1_readMarks 17 = .ok (.getfield 12, 3) := by decide +kernel
theorem dX1_readMarks_20 : decode cX1_readMarks 20 = .ok (.iconst 0, 1) := by decide +kernel
theorem dX1_readMarks_21 : decode cX1_readMarks 21 = .ok (.iconst 1, 1) := by decide +kernel
theorem dX1_readMarks_22 : decode cX1_readMarks 22 = .ok (.invokevirtual 183, 3) := by decide +kernel
theorem dX1_readMarks_25 : decode cX1_readMarks 25 = .ok (.iastore, 1) := by decide +kernel
theorem dX1_readMarks_26 : decode cX1_readMarks 26 = .ok (.aload_n 2, 1) := by decide +kernel
theorem dX1_readMarks_27 : decode cX1_readMarks 27 = .ok (.bipush 20, 2) := by decide +kernel
theorem dX1_readMarks_29 : decode cX1_readMarks 29 = .ok (.aload_n 0, 1) := by decide +kernel
theorem dX1_readMarks_30 : decode cX1_readMarks 30 = .ok (.getfield 12, 3) := by decide +kernel
theorem dX1_readMarks_33 : decode cX1_readMarks 33 = .ok (.iconst 0, 1) := by decide +kernel
theorem dX1_readMarks_34 : decode cX1_readMarks 34 = .ok (.iconst 1, 1) := by decide +kernel
theorem dX1_readMarks_35 : decode cX1_readMarks 35 = .ok (.invokevirtual 183, 3) := by decide +kernel
theorem dX1_readMarks_38 : decode cX1_readMarks 38 = .ok (.iastore, 1) := by decide +kernel
theorem dX1_readMarks_39 : decode cX1_readMarks 39 = .ok (.return_, 1) := by decide +kernel
theorem dX1_readMarks_40 : decode cX1_readMarks 40 = .ok (.aload_n 0, 1) := by decide +kernel
theorem dX1_readMarks_41 : decode cX1_readMarks 41 = .ok (.getfield 12, 3) := by decide +kernel
theorem dX1_readMarks_44 : decode cX1_readMarks 44 = .ok (.iconst 0, 1) := by decide +kernel
theorem dX1_readMarks_45 : decode cX1_readMarks 45 = .ok (.iconst 1, 1) := by decide +kernel
theorem dX1_readMarks_46 : decode cX1_readMarks 46 = .ok (.invokevirtual 183, 3) := by decide +kernel
theorem dX1_readMarks_49 : decode cX1_readMarks 49 = .ok (.ifCond .ne 4, 3) := by decide +kernel
theorem dX1_readMarks_52 : decode cX1_readMarks 52 = .ok (.return_, 1) := by decide +kernel
theorem dX1_readMarks_53 : decode cX1_readMarks 53 = .ok (.iconst 0, 1) := by decide +kernel
theorem dX1_readMarks_54 : decode cX1_readMarks 54 = .ok (.istore_n 3, 1) := by decide +kernel
theorem dX1_readMarks_55 : decode cX1_readMarks 55 = .ok (.iload_n 3, 1) := by decide +kernel
theorem dX1_readMarks_56 : decode cX1_readMarks 56 = .ok (.bipush 12, 2) := by decide +kernel
theorem dX1_readMarks_58 : decode cX1_readMarks 58 = .ok (.if_icmp .gt 163, 3) := by decide +kernel
theorem dX1_readMarks_61 : decode cX1_readMarks 61 = .ok (.aload_n 0, 1) := by decide +kernel
theorem dX1_readMarks_62 : decode cX1_readMarks 62 = .ok (.bipush 6, 2) := by decide +kernel
theorem dX1_readMarks_64 : decode cX1_readMarks 64 = .ok (.invokevirtual 186, 3) := by decide +kernel
theorem dX1_readMarks_67 : decode cX1_readMarks 67 = .ok (.istore 4, 2) := by decide +kernel
theorem dX1_readMarks_69 : decode cX1_readMarks 69 = .ok (.iload 4, 2) := by decide +kernel
theorem dX1_readMarks_71 : decode cX1_readMarks 71 = .ok (.ifCond .ne 4, 3) := by decide +kernel
theorem dX1_readMarks_74 : decode cX1_readMarks 74 = .ok (.return_, 1) := by decide +kernel
theorem dX1_readMarks_75 : decode cX1_readMarks 75 = .ok (.iload_n 3, 1) := by decide +kernel
theorem dX1_readMarks_76 : decode cX1_readMarks 76 = .ok (.bipush 12, 2) := by decide +kernel
theorem dX1_readMarks_78 : decode cX1_readMarks 78 = .ok (.if_icmp .ne 18, 3) := by decide +kernel
theorem dX1_readMarks_81 : decode cX1_readMarks 81 = .ok (.aload_n 0, 1) := by decide +kernel
theorem dX1_readMarks_82 : decode cX1_readMarks 82 = .ok (.getfield 12, 3) := by decide +kernel
theorem dX1_readMarks_85 : decode cX1_readMarks 85 = .ok (.iconst 2, 1) := by decide +kernel
theorem dX1_readMarks_86 : decode cX1_readMarks 86 = .ok (.aload_n 0, 1) := by decide +kernel
theorem dX1_readMarks_87 : decode cX1_readMarks 87 = .ok (.getfield 12, 3) := by decide +kernel
theorem dX1_readMarks_90 : decode cX1_readMarks 90 = .ok (.getfield 194, 3) := by decide +kernel
theorem dX1_readMarks_93 : decode cX1_readMarks 93 = .ok (.invokevirtual 197, 3) := by decide +kernel
theorem dX1_readMarks_96 : decode cX1_readMarks 96 = .ok (.aload_n 0, 1) := by decide +kernel
theorem dX1_readMarks_97 : decode cX1_readMarks 97 = .ok (.getfield 68, 3) := by decide +kernel
theorem dX1_readMarks_100 : decode cX1_readMarks 100 = .ok (.getfield 253, 3) := by decide +kernel
theorem dX1_readMarks_103 : decode cX1_readMarks 103 = .ok (.iconst 3, 1) := by decide +kernel
theorem dX1_readMarks_104 : decode cX1_readMarks 104 = .ok (.iload_n 3, 1) := by decide +kernel
theorem dX1_readMarks_105 : decode cX1_readMarks 105 = .ok (.imul, 1) := by decide +kernel
theorem dX1_readMarks_106 : decode cX1_readMarks 106 = .ok (.iload 4, 2) := by decide +kernel
theorem dX1_readMarks_108 : decode cX1_readMarks 108 = .ok (.iastore, 1) := by decide +kernel
theorem dX1_readMarks_109 : decode cX1_readMarks 109 = .ok (.aload_n 0, 1) := by decide +kernel
theorem dX1_readMarks_110 : decode cX1_readMarks 110 = .ok (.getfield 68, 3) := by decide +kernel
theorem dX1_readMarks_113 : decode cX1_readMarks 113 = .ok (.getfield 253, 3) := by decide +kernel
theorem dX1_readMarks_116 : decode cX1_readMarks 116 = .ok (.iconst 3, 1) := by decide +kernel
theorem dX1_readMarks_117 : decode cX1_readMarks 117 = .ok (.iload_n 3, 1) := by decide +kernel
theorem dX1_readMarks_118 : decode cX1_readMarks 118 = .ok (.imul, 1) := by decide +kernel
theorem dX1_readMarks_119 : decode cX1_readMarks 119 = .ok (.iconst 1, 1) := by decide +kernel
theorem dX1_readMarks_120 : decode cX1_readMarks 120 = .ok (.iadd, 1) := by decide +kernel
theorem dX1_readMarks_121 : decode cX1_readMarks 121 = .ok (.iconst 0, 1) := by decide +kernel
theorem dX1_readMarks_122 : decode cX1_readMarks 122 = .ok (.iastore, 1) := by decide +kernel
theorem dX1_readMarks_123 : decode cX1_readMarks 123 = .ok (.aload_n 0, 1) := by decide +kernel
theorem dX1_readMarks_124 : decode cX1_readMarks 124 = .ok (.getfield 68, 3) := by decide +kernel
theorem dX1_readMarks_127 : decode cX1_readMarks 127 = .ok (.getfield 253, 3) := by decide +kernel
theorem dX1_readMarks_130 : decode cX1_readMarks 130 = .ok (.iconst 3, 1) := by decide +kernel
theorem dX1_readMarks_131 : decode cX1_readMarks 131 = .ok (.iload_n 3, 1) := by decide +kernel
theorem dX1_readMarks_132 : decode cX1_readMarks 132 = .ok (.imul, 1) := by decide +kernel
theorem dX1_readMarks_133 : decode cX1_readMarks 133 = .ok (.iconst 2, 1) := by decide +kernel
theorem dX1_readMarks_134 : decode cX1_readMarks 134 = .ok (.iadd, 1) := by decide +kernel
theorem dX1_readMarks_135 : decode cX1_readMarks 135 = .ok (.iconst 0, 1) := by decide +kernel
theorem dX1_readMarks_136 : decode cX1_readMarks 136 = .ok (.iastore, 1) := by decide +kernel
theorem dX1_readMarks_137 : decode cX1_readMarks 137 = .ok (.iload 4, 2) := by decide +kernel
theorem dX1_readMarks_139 : decode cX1_readMarks 139 = .ok (.iconst 5, 1) := by decide +kernel
theorem dX1_readMarks_140 : decode cX1_readMarks 140 = .ok (.if_icmp .eq 44, 3) := by decide +kernel
theorem dX1_readMarks_143 : decode cX1_readMarks 143 = .ok (.aload_n 0, 1) := by decide +kernel
theorem dX1_readMarks_144 : decode cX1_readMarks 144 = .ok (.getfield 68, 3) := by decide +kernel
theorem dX1_readMarks_147 : decode cX1_readMarks 147 = .ok (.getfield 253, 3) := by decide +kernel
theorem dX1_readMarks_150 : decode cX1_readMarks 150 = .ok (.iconst 3, 1) := by decide +kernel
theorem dX1_readMarks_151 : decode cX1_readMarks 151 = .ok (.iload_n 3, 1) := by decide +kernel
theorem dX1_readMarks_152 : decode cX1_readMarks 152 = .ok (.imul, 1) := by decide +kernel
theorem dX1_readMarks_153 : decode cX1_readMarks 153 = .ok (.iconst 1, 1) := by decide +kernel
theorem dX1_readMarks_154 : decode cX1_readMarks 154 = .ok (.iadd, 1) := by decide +kernel
theorem dX1_readMarks_155 : decode cX1_readMarks 155 = .ok (.aload_n 0, 1) := by decide +kernel
theorem dX1_readMarks_156 : decode cX1_readMarks 156 = .ok (.iload 4, 2) := by decide +kernel
theorem dX1_readMarks_158 : decode cX1_readMarks 158 = .ok (.iconst 2, 1) := by decide +kernel
theorem dX1_readMarks_159 : decode cX1_readMarks 159 = .ok (.irem, 1) := by decide +kernel
theorem dX1_readMarks_160 : decode cX1_readMarks 160 = .ok (.iconst 1, 1) := by decide +kernel
theorem dX1_readMarks_161 : decode cX1_readMarks 161 = .ok (.if_icmp .ne 8, 3) := by decide +kernel
theorem dX1_readMarks_164 : decode cX1_readMarks 164 = .ok (.ldc 220, 2) := by decide +kernel
theorem dX1_readMarks_166 : decode cX1_readMarks 166 = .ok (.goto 14, 3) := by decide +kernel
theorem dX1_readMarks_169 : decode cX1_readMarks 169 = .ok (.iload 4, 2) := by decide +kernel
theorem dX1_readMarks_171 : decode cX1_readMarks 171 = .ok (.iconst 4, 1) := by decide +kernel
theorem dX1_readMarks_172 : decode cX1_readMarks 172 = .ok (.if_icmp .ne 7, 3) := by decide +kernel
theorem dX1_readMarks_175 : decode cX1_readMarks 175 = .ok (.iconst 4, 1) := by decide +kernel
theorem dX1_readMarks_176 : decode cX1_readMarks 176 = .ok (.goto 4, 3) := by decide +kernel
theorem dX1_readMarks_179 : decode cX1_readMarks 179 = .ok (.iconst 3, 1) := by decide +kernel
theorem dX1_readMarks_180 : decode cX1_readMarks 180 = .ok (.invokevirtual 186, 3) := by decide +kernel
theorem dX1_readMarks_183 : decode cX1_readMarks 183 = .ok (.iastore, 1) := by decide +kernel
theorem dX1_readMarks_184 : decode cX1_readMarks 184 = .ok (.iload 4, 2) := by decide +kernel
theorem dX1_readMarks_186 : decode cX1_readMarks 186 = .ok (.iconst 3, 1) := by decide +kernel
theorem dX1_readMarks_187 : decode cX1_readMarks 187 = .ok (.if_icmp .ne 21, 3) := by decide +kernel
theorem dX1_readMarks_190 : decode cX1_readMarks 190 = .ok (.aload_n 0, 1) := by decide +kernel
theorem dX1_readMarks_191 : decode cX1_readMarks 191 = .ok (.getfield 68, 3) := by decide +kernel
theorem dX1_readMarks_194 : decode cX1_readMarks 194 = .ok (.getfield 253, 3) := by decide +kernel
theorem dX1_readMarks_197 : decode cX1_readMarks 197 = .ok (.iconst 3, 1) := by decide +kernel
theorem dX1_readMarks_198 : decode cX1_readMarks 198 = .ok (.iload_n 3, 1) := by decide +kernel
theorem dX1_readMarks_199 : decode cX1_readMarks 199 = .ok (.imul, 1) := by decide +kernel
theorem dX1_readMarks_200 : decode cX1_readMarks 200 = .ok (.iconst 2, 1) := by decide +kernel
theorem dX1_readMarks_201 : decode cX1_readMarks 201 = .ok (.iadd, 1) := by decide +kernel
theorem dX1_readMarks_202 : decode cX1_readMarks 202 = .ok (.aload_n 0, 1) := by decide +kernel
theorem dX1_readMarks_203 : decode cX1_readMarks 203 = .ok (.iconst 3, 1) := by decide +kernel
theorem dX1_readMarks_204 : decode cX1_readMarks 204 = .ok (.invokevirtual 186, 3) := by decide +kernel
theorem dX1_readMarks_207 : decode cX1_readMarks 207 = .ok (.iastore, 1) := by decide +kernel
theorem dX1_readMarks_208 : decode cX1_readMarks 208 = .ok (.aload_n 2, 1) := by decide +kernel
theorem dX1_readMarks_209 : decode cX1_readMarks 209 = .ok (.bipush 24, 2) := by decide +kernel
theorem dX1_readMarks_211 : decode cX1_readMarks 211 = .ok (.iload_n 3, 1) := by decide +kernel
theorem dX1_readMarks_212 : decode cX1_readMarks 212 = .ok (.iconst 1, 1) := by decide +kernel
theorem dX1_readMarks_213 : decode cX1_readMarks 213 = .ok (.iadd, 1) := by decide +kernel
theorem dX1_readMarks_214 : decode cX1_readMarks 214 = .ok (.iastore, 1) := by decide +kernel
theorem dX1_readMarks_215 : decode cX1_readMarks 215 = .ok (.iinc 3 1, 3) := by decide +kernel
theorem dX1_readMarks_218 : decode cX1_readMarks 218 = .ok (.goto (-163), 3) := by decide +kernel
theorem dX1_readMarks_221 : decode cX1_readMarks 221 = .ok (.return_, 1) := by decide +kernel
def FX1_readMarks (G : GG) (M : DD) (a : Nat) (p0 : Int32) : Option (DD) :=
  dr G 3 ((M.2 a 10)) fun b2 =>
  if p0 = ((5 : Int32)) then (dr G 5 ((M.2 a 0)) fun b57 =>
  bnd (FX5_fixed G M b57 ((0 : Int32)) ((1 : Int32))) fun y58 =>
  dr G 13 ((M.2 b2 0)) fun b59 =>
  chk (¬ (((19 : Int32)) < 0 ∨ G.2.2 b59 ≤ ((19 : Int32)).toNatClampNeg)) <|
  ltt (uI y58.1 b59 ((19 : Int32)).toNatClampNeg y58.2) fun M60 =>
  dr G 5 ((M60.2 a 0)) fun b61 =>
  bnd (FX5_fixed G M60 b61 ((0 : Int32)) ((1 : Int32))) fun y62 =>
  chk (¬ (((20 : Int32)) < 0 ∨ G.2.2 b59 ≤ ((20 : Int32)).toNatClampNeg)) <|
  ltt (uI y62.1 b59 ((20 : Int32)).toNatClampNeg y62.2) fun M63 =>
  some M63) else
  (dr G 5 ((M.2 a 0)) fun b4 =>
  bnd (FX5_fixed G M b4 ((0 : Int32)) ((1 : Int32))) fun y5 =>
  if y5.2 = ((0 : Int32)) then (some y5.1) else
  (bnd (itr (fun (s8 : Int32 × DD) => ((if ((12 : Int32)) < s8.1 then (some (.inr (.inl (s8.1, s8.2)))) else
  (bnd (FX1_unsigned G s8.2 a ((6 : Int32))) fun y12 =>
  if y12.2 = ((0 : Int32)) then (some (.inr (.inr y12.1))) else
  (bnd (if s8.1 = ((12 : Int32)) then (dr G 5 ((y12.1.2 a 0)) fun b55 =>
  ltt (y12.1.1 b55 4) fun x56 =>
  none) else
  (some (y12.1))) fun (y14 : DD) =>
  dr G 3 ((y14.2 a 10)) fun b15 =>
  ltt ((((3 : Int32)) * s8.1)) fun x16 =>
  dr G 13 ((y14.2 b15 2)) fun b17 =>
  chk (¬ (x16 < 0 ∨ G.2.2 b17 ≤ x16.toNatClampNeg)) <|
  ltt (uI y14 b17 x16.toNatClampNeg y12.2) fun M18 =>
  dr G 3 ((M18.2 a 10)) fun b19 =>
  ltt ((((3 : Int32)) * s8.1)) fun x20 =>
  ltt ((x20 + ((1 : Int32)))) fun x21 =>
  dr G 13 ((M18.2 b19 2)) fun b22 =>
  chk (¬ (x21 < 0 ∨ G.2.2 b22 ≤ x21.toNatClampNeg)) <|
  ltt (uI M18 b22 x21.toNatClampNeg ((0 : Int32))) fun M23 =>
  dr G 3 ((M23.2 a 10)) fun b24 =>
  ltt ((((3 : Int32)) * s8.1)) fun x25 =>
  ltt ((x25 + ((2 : Int32)))) fun x26 =>
  dr G 13 ((M23.2 b24 2)) fun b27 =>
  chk (¬ (x26 < 0 ∨ G.2.2 b27 ≤ x26.toNatClampNeg)) <|
  ltt (uI M23 b27 x26.toNatClampNeg ((0 : Int32))) fun M28 =>
  bnd (if y12.2 = ((5 : Int32)) then (some (M28)) else
  (dr G 3 ((M28.2 a 10)) fun b43 =>
  ltt ((((3 : Int32)) * s8.1)) fun x44 =>
  ltt ((x44 + ((1 : Int32)))) fun x45 =>
  ltt (y12.2 - y12.2 / ((2 : Int32)) * ((2 : Int32))) fun x46 =>
  bnd (if x46 = ((1 : Int32)) then (some ((65535 : Int32))) else
  (bnd (if y12.2 = ((4 : Int32)) then (some ((4 : Int32))) else
  (some ((3 : Int32)))) fun (y52 : Int32) =>
  some (y52))) fun (y47 : Int32) =>
  bnd (FX1_unsigned G M28 a y47) fun y48 =>
  dr G 13 ((M28.2 b43 2)) fun b49 =>
  chk (¬ (x45 < 0 ∨ G.2.2 b49 ≤ x45.toNatClampNeg)) <|
  ltt (uI y48.1 b49 x45.toNatClampNeg y48.2) fun M50 =>
  some (M50))) fun (y29 : DD) =>
  bnd (if y12.2 = ((3 : Int32)) then (dr G 3 ((y29.2 a 10)) fun b36 =>
  ltt ((((3 : Int32)) * s8.1)) fun x37 =>
  ltt ((x37 + ((2 : Int32)))) fun x38 =>
  bnd (FX1_unsigned G y29 a ((3 : Int32))) fun y39 =>
  dr G 13 ((y29.2 b36 2)) fun b40 =>
  chk (¬ (x38 < 0 ∨ G.2.2 b40 ≤ x38.toNatClampNeg)) <|
  ltt (uI y39.1 b40 x38.toNatClampNeg y39.2) fun M41 =>
  some (M41)) else
  (some (y29))) fun (y30 : DD) =>
  ltt ((s8.1 + ((1 : Int32)))) fun x31 =>
  dr G 13 ((M.2 b2 0)) fun b32 =>
  chk (¬ (((24 : Int32)) < 0 ∨ G.2.2 b32 ≤ ((24 : Int32)).toNatClampNeg)) <|
  ltt (uI y30 b32 ((24 : Int32)).toNatClampNeg x31) fun M33 =>
  ltt (s8.1 + (1 : Int32)) fun x34 =>
  some (.inl (x34, M33))))) : Option ((Int32 × DD) ⊕ ((Int32 × DD) ⊕ (DD))))) 1000000 ((0 : Int32), y5.1)) fun (y7 : (Int32 × DD) ⊕ (DD)) =>
  sel y7 (fun (z7k : Int32 × DD) =>
  some z7k.2) fun r9 => some r9))
set_option maxHeartbeats 4000000 in
set_option maxRecDepth 100000 in
theorem kX1_readMarks (l : Launch) (D : va_G) (ct : CT) (ad : Nat → Nat) (Z : Nat → Nat) (G : GG) (M : DD) (sz : Nat) (a : Nat) (p0 : Int32) (y : DD) (hc : a < G.1) (hk : G.2.1 a = 1) (hF : FX1_readMarks G M a p0 = some y) : Met l yX1_readMarks wuX1_readMarks ({ frames := 3, cells := 0, slots := 0, locals := 80 }) (va_Pc [.ref (ad a), .int p0] (kB D ct ad Z G M sz)) (va_Qv (fun (_ : Unit) => True) (fun _ t => kE D ct ad G (wA ad G sz) y t) (wA ad G sz)) 0 0 (wA ad G sz) := by
  refine Met.ofW (cc := cX1_readMarks) (maxL := 5) (ret := none) (by decide) rfl ?_
  intro p e s m args below meth c s₁ B hml hv
  obtain ⟨rfl, hsz, hP, hK, hD0, hZ, hN⟩ := hv
  have hx := B.exec
  have hb := B.bytes
  have hr := B.returns
  have hts := atoms_spec (ws := wuX1_readMarks) B.pre
  have hown : s.vm.findClass RX1 = some m.cls := findClass_of_methodNamed B.named
  have hlocks := B.notSynchronized
  subst hsz
  have hD := wD_self (sz := s.heap.size) hD0
  have hA9 : ∀ q, s.heap.size ≤ q → wA ad G s.heap.size q := fun q h => Or.inr h
  generalize hAe : wA ad G s.heap.size = A at hD hA9 hZ ⊢
  have hS : va_S A s.heap s.heap [] := va_S.rf
  have hl := lv_entry ([.ref (ad a), .int p0]) (n := 5) (Nat.le_of_ble_eq_true rfl)
  rw [lg_entry_eq]
  generalize (lg_sl ([.ref (ad a), .int p0]) ++ List.replicate (5 - (lg_sl ([.ref (ad a), .int p0])).length) Slot.unset).toArray = ls at hl ⊢
  have hl : lv_has ls 5 [(0, .ref (ad a)), (1, .int p0)] := hl
  unfold FX1_readMarks at hF
  refine lv_aload_n hx hb dX1_readMarks_0 rfl (lv_at hl 0 rfl) ?_
  refine va_get (D := D) (ci := 1) (v := va_re ad (M.2 a 10)) (C := RX1) (T := TX1) (N := 22) hx hb hts (mus hf_X1) hown hK hP a (wld_o ct ad G M hc hk (by decide)) rfl 10 (by decide) (hts (.fieldLink RX1 68 "VideoSuite$Decoder" "head" "LVideoSuite$Header;") (mu mw_652)) (fun _ h9 => h9) rfl dX1_readMarks_1 ?_
  obtain ⟨b2, ho2, hc2, hk2, hF⟩ := dr_some hF
  refine W_st (st' := [.ref (ad b2)]) (by rw [va_some ho2]) ?_
  refine va_get (D := D) (ci := 3) (v := va_re ad (M.2 b2 0)) (C := RX3) (T := TX3) (N := 4) hx hb hts (mus hf_X3) hown hK hP b2 (wld_o ct ad G M hc2 hk2 (by decide)) rfl 0 (by decide) (hts (.fieldLink RX1 212 "VideoSuite$Header" "v" "[I") (mu mw_618)) (fun _ h9 => h9) rfl dX1_readMarks_4 ?_
  refine lv_astoreq_n (lv' := [(2, va_re ad (M.2 b2 0)), (0, .ref (ad a)), (1, .int p0)]) hx hb dX1_readMarks_7 rfl hl (by decide) rfl (fun ls hl => ?_)
  refine lv_iload_n hx hb dX1_readMarks_8 rfl (lv_at hl 2 rfl) ?_
  refine lv_iconst (v := (5 : Int32)) hx hb dX1_readMarks_9 (by decide) ?_
  refine lv_icmp_ne (tgt := 40) hx hb dX1_readMarks_10 (by decide) (fun c3 => ?_) (fun c3 => ?_)
  · rw [if_neg c3] at hF
    refine lv_aload_n hx hb dX1_readMarks_40 rfl (lv_at hl 1 rfl) ?_
    refine va_get (D := D) (ci := 1) (v := va_re ad (M.2 a 0)) (C := RX1) (T := TX1) (N := 22) hx hb hts (mus hf_X1) hown hK hP a (wld_o ct ad G M hc hk (by decide)) rfl 0 (by decide) (hts (.fieldLink RX1 12 "VideoSuite$Decoder" "reader" "LVideoSuite$Reader;") (mu mw_640)) (fun _ h9 => h9) rfl dX1_readMarks_41 ?_
    refine lv_iconst (v := (0 : Int32)) hx hb dX1_readMarks_44 (by decide) ?_
    refine lv_iconst (v := (1 : Int32)) hx hb dX1_readMarks_45 (by decide) ?_
    obtain ⟨b4, ho4, hc4, hk4, hF⟩ := dr_some hF
    refine W_st (st' := [.int (1 : Int32), .int (0 : Int32), .ref (ad b4)]) (by rw [va_some ho4]) ?_
    obtain ⟨y5, hy5, hF⟩ := bnd_some hF
    have hf9 := wA_in hD hA9 hS
    refine va_calli (va_runV (As := [.int (0 : Int32), .int (1 : Int32)]) (rest := []) ⟨hx, hb, hml, hown, hts⟩ (kX5_fixed l D ct ad Z G M s.heap.size b4 ((0 : Int32)) ((1 : Int32)) y5 hc4 hk4 hy5) (cwV 2 hts gX1_readMarks_X5_fixed rfl rfl rfl (by decide +kernel) ⟨Nat.le_of_ble_eq_true rfl, Nat.le_of_ble_eq_true rfl⟩) ⟨fun a U g mk q => by obtain ⟨q0, q1, qP, qK, qD, qZ, qN⟩ := q; exact ⟨q0, q1, qP, va_K.moved (u := U) (U := U.calling g mk a) (Vm.Alike.refl U.vm) qK, qD, sF.moved (u := U) (U := U.calling g mk a) (Vm.Alike.refl U.vm) qZ, nF.same rfl qN⟩, va_recv hK hP (ci := 5) (q0 := b4) rfl (wld_o ct ad G M hc4 hk4 (by decide)), fun U hU hW => ⟨rfl, by rw [hU], by rw [hU]; exact hP, va_K.moved hW.alike hK, hD.weaken (fun _ _ _ _ => trivial), by rw [hU]; exact ((hZ.kept hS.2.1).narrow hf9).moved hW.alike, hN.warm hW⟩⟩ rfl rfl hl.1 rfl (lv_room (Nat.le_of_ble_eq_true rfl)) dX1_readMarks_46 ⟨(Nat.zero_le _), (Nat.zero_le _)⟩) hS (fun q _ h => hf9 q h) hf9 (fun r u t H locs ht hvm hw hB hz1 hk1 hS => ?_)
    obtain ⟨hP, hK9, hD9⟩ := hB
    rw [ht] at hP
    try dsimp only at hw
    subst hw
    have hD := hD9.weaken (fun _ q _ h => hf9 q.1 h)
    refine lv_if_ne (tgt := 53) hx hb dX1_readMarks_49 (by decide) (fun c6 => ?_) (fun c6 => ?_)
    · rw [if_neg c6] at hF
      refine lv_iconst (v := (0 : Int32)) hx hb dX1_readMarks_53 (by decide) ?_
      refine lv_istore_n (lv' := [(3, .int (0 : Int32)), (2, va_re ad (M.2 b2 0)), (0, .ref (ad a)), (1, .int p0)]) hx hb dX1_readMarks_54 rfl hl (by decide) (by generalize ((M.2 b2 0)) = o9; cases o9 <;> rfl) (fun ls hl => ?_)
      obtain ⟨y7, hy7, hF⟩ := bnd_some hF
      have K7 : ∀ z7k : Int32 × DD, y7 = .inl z7k → ∀ (H : Heap) (locs : List Loc) (ls : Array Slot), va_P D classes (wld ct ad G z7k.2) H → va_D A (wld ct ad G z7k.2) → va_S A s.heap H locs → lv_has ls 5 [(3, .int z7k.1), (2, va_re ad (M.2 b2 0)), (0, .ref (ad a)), (1, .int p0)] → W p l e (headSpec wuX1_readMarks ({ frames := 3, cells := 0, slots := 0, locals := 80 })).room s m ([.ref (ad a), .int p0] : List Value).toArray below meth c H locs 0 0 (MQ below (va_Qv (fun (_ : Unit) => True) (fun _ t => kE D ct ad G A y t) A) ([.ref (ad a), .int p0] : List Value).toArray s 0 0 A) (F0 m 221 ls []) := by
        intro z7k hz7 H locs ls hP hD hS hl
        have hF := sel_inl (hz7 ▸ hF)
        obtain rfl := Option.some.inj hF
        exact W.vret hx hb hr (fun t ht hW => ⟨⟨(), rfl, trivial, ⟨by rw [ht]; exact hP, va_K.moved hW.alike hK, hD⟩⟩, hS.F ht⟩) hS.2.2 dX1_readMarks_221
      have hR7 := hF
      clear hF
      refine itr_rule (fun (s8 : Int32 × DD) => ∀ (H : Heap) (locs : List Loc) (ls : Array Slot), va_P D classes (wld ct ad G s8.2) H → va_D A (wld ct ad G s8.2) → va_S A s.heap H locs → lv_has ls 5 [(3, .int s8.1), (2, va_re ad (M.2 b2 0)), (0, .ref (ad a)), (1, .int p0)] → W p l e (headSpec wuX1_readMarks ({ frames := 3, cells := 0, slots := 0, locals := 80 })).room s m ([.ref (ad a), .int p0] : List Value).toArray below meth c H locs 0 0 (MQ below (va_Qv (fun (_ : Unit) => True) (fun _ t => kE D ct ad G A y t) A) ([.ref (ad a), .int p0] : List Value).toArray s 0 0 A) (F0 m 55 ls [])) ?_ _ _ hy7 _ _ _ hP hD hS (lv_sub hl [0, 1, 2, 3] rfl)
      rintro s8 ⟨z10, hF, hwz10⟩ H locs ls hP hD hS hl
      try dsimp only at hF
      refine lv_iload_n hx hb dX1_readMarks_55 rfl (lv_at hl 0 rfl) ?_
      refine lv_bipush (v := (12 : Int32)) hx hb dX1_readMarks_56 (by decide) ?_
      refine lv_icmp_gt (tgt := 221) hx hb dX1_readMarks_58 (by decide) (fun c11 => ?_) (fun c11 => ?_)
      · rw [if_pos c11] at hF
        obtain rfl := Option.some.inj hF
        exact K7 _ hwz10.symm _ _ _ hP hD hS (lv_sub hl [0, 1, 2, 3] rfl)
      · rw [if_neg c11] at hF
        refine lv_aload_n hx hb dX1_readMarks_61 rfl (lv_at hl 2 rfl) ?_
        refine lv_bipush (v := (6 : Int32)) hx hb dX1_readMarks_62 (by decide) ?_
        obtain ⟨y12, hy12, hF⟩ := bnd_some hF
        have hf9 := wA_in hD hA9 hS
        refine va_calli (va_runV (As := [.int (6 : Int32)]) (rest := []) ⟨hx, hb, hml, hown, hts⟩ (kX1_unsigned l D ct ad Z G s8.2 H.size a ((6 : Int32)) y12 hc hk hy12) (cwV 1 hts gX1_readMarks_X1_unsigned rfl rfl rfl (by decide +kernel) ⟨Nat.le_of_ble_eq_true rfl, Nat.le_of_ble_eq_true rfl⟩) ⟨fun a U g mk q => by obtain ⟨q0, q1, qP, qK, qD, qZ, qN⟩ := q; exact ⟨q0, q1, qP, va_K.moved (u := U) (U := U.calling g mk a) (Vm.Alike.refl U.vm) qK, qD, sF.moved (u := U) (U := U.calling g mk a) (Vm.Alike.refl U.vm) qZ, nF.same rfl qN⟩, va_recv hK hP (ci := 1) (q0 := a) rfl (wld_o ct ad G s8.2 hc hk (by decide)), fun U hU hW => ⟨rfl, by rw [hU], by rw [hU]; exact hP, va_K.moved hW.alike hK, hD.weaken (fun _ _ _ _ => trivial), by rw [hU]; exact ((hZ.kept hS.2.1).narrow hf9).moved hW.alike, hN.warm hW⟩⟩ rfl rfl hl.1 rfl (lv_room (Nat.le_of_ble_eq_true rfl)) dX1_readMarks_64 ⟨(Nat.zero_le _), (Nat.zero_le _)⟩) hS (fun q _ h => hf9 q h) hf9 (fun r u t H locs ht hvm hw hB hz1 hk1 hS => ?_)
        obtain ⟨hP, hK9, hD9⟩ := hB
        rw [ht] at hP
        try dsimp only at hw
        subst hw
        have hD := hD9.weaken (fun _ q _ h => hf9 q.1 h)
        refine lv_istore (lv' := [(4, .int y12.2), (3, .int s8.1), (2, va_re ad (M.2 b2 0)), (0, .ref (ad a)), (1, .int p0)]) hx hb dX1_readMarks_67 hl (by decide) rfl (fun ls hl => ?_)
        refine lv_iload hx hb dX1_readMarks_69 (lv_at hl 0 rfl) ?_
        refine lv_if_ne (tgt := 75) hx hb dX1_readMarks_71 (by decide) (fun c13 => ?_) (fun c13 => ?_)
        · rw [if_neg c13] at hF
          refine lv_iload_n hx hb dX1_readMarks_75 rfl (lv_at hl 1 rfl) ?_
          refine lv_bipush (v := (12 : Int32)) hx hb dX1_readMarks_76 (by decide) ?_
          obtain ⟨y14, hy14, hF⟩ := bnd_some hF
          have J14 : ∀ (H : Heap) (locs : List Loc) (ls : Array Slot), va_P D classes (wld ct ad G y14) H → va_D A (wld ct ad G y14) → va_S A s.heap H locs → lv_has ls 5 [(4, .int y12.2), (3, .int s8.1), (2, va_re ad (M.2 b2 0)), (0, .ref (ad a)), (1, .int p0)] → W p l e (headSpec wuX1_readMarks ({ frames := 3, cells := 0, slots := 0, locals := 80 })).room s m ([.ref (ad a), .int p0] : List Value).toArray below meth c H locs 0 0 (MQ below (va_Qv (fun (_ : Unit) => True) (fun _ t => kE D ct ad G A y t) A) ([.ref (ad a), .int p0] : List Value).toArray s 0 0 A) (F0 m 96 ls []) := by
            intro H locs ls hP hD hS hl
            refine lv_aload_n hx hb dX1_readMarks_96 rfl (lv_at hl 3 rfl) ?_
            refine va_get (D := D) (ci := 1) (v := va_re ad (y14.2 a 10)) (C := RX1) (T := TX1) (N := 22) hx hb hts (mus hf_X1) hown hK hP a (wld_o ct ad G y14 hc hk (by decide)) rfl 10 (by decide) (hts (.fieldLink RX1 68 "VideoSuite$Decoder" "head" "LVideoSuite$Header;") (mu mw_652)) (fun _ h9 => h9) rfl dX1_readMarks_97 ?_
            obtain ⟨b15, ho15, hc15, hk15, hF⟩ := dr_some hF
            refine W_st (st' := [.ref (ad b15)]) (by rw [va_some ho15]) ?_
            refine va_get (D := D) (ci := 3) (v := va_re ad (y14.2 b15 2)) (C := RX3) (T := TX3) (N := 4) hx hb hts (mus hf_X3) hown hK hP b15 (wld_o ct ad G y14 hc15 hk15 (by decide)) rfl 2 (by decide) (hts (.fieldLink RX1 253 "VideoSuite$Header" "op" "[I") (mu mw_625)) (fun _ h9 => h9) rfl dX1_readMarks_100 ?_
            refine lv_iconst (v := (3 : Int32)) hx hb dX1_readMarks_103 (by decide) ?_
            refine lv_iload_n hx hb dX1_readMarks_104 rfl (lv_at hl 1 rfl) ?_
            refine lv_imul hx hb dX1_readMarks_105 ?_
            obtain ⟨x16, ex16, hF⟩ := ltt_some hF
            refine lv_topi (fun zx16 ezx16 => ?_)
            obtain rfl : x16 = zx16 := ex16.trans ezx16.symm
            refine lv_iload hx hb dX1_readMarks_106 (lv_at hl 0 rfl) ?_
            obtain ⟨b17, ho17, hc17, hk17, hF⟩ := dr_some hF
            refine W_st (st' := [.int y12.2, .int x16, .ref (ad b17)]) (by rw [va_some ho17]) ?_
            obtain ⟨hvc, hF⟩ := chk_some hF
            refine va_iast hx hb hK hP hD hS b17 1 (wld_i ct ad G y14 hc17 hk17) rfl hvc dX1_readMarks_108 (fun H locs hP hD hS => ?_)
            obtain ⟨M18, eM18, hF⟩ := ltt_some hF
            rw [set_i ct ad G y14 hc17 hk17, ← eM18] at hP hD
            refine lv_aload_n hx hb dX1_readMarks_109 rfl (lv_at hl 3 rfl) ?_
            refine va_get (D := D) (ci := 1) (v := va_re ad (M18.2 a 10)) (C := RX1) (T := TX1) (N := 22) hx hb hts (mus hf_X1) hown hK hP a (wld_o ct ad G M18 hc hk (by decide)) rfl 10 (by decide) (hts (.fieldLink RX1 68 "VideoSuite$Decoder" "head" "LVideoSuite$Header;") (mu mw_652)) (fun _ h9 => h9) rfl dX1_readMarks_110 ?_
            obtain ⟨b19, ho19, hc19, hk19, hF⟩ := dr_some hF
            refine W_st (st' := [.ref (ad b19)]) (by rw [va_some ho19]) ?_
            refine va_get (D := D) (ci := 3) (v := va_re ad (M18.2 b19 2)) (C := RX3) (T := TX3) (N := 4) hx hb hts (mus hf_X3) hown hK hP b19 (wld_o ct ad G M18 hc19 hk19 (by decide)) rfl 2 (by decide) (hts (.fieldLink RX1 253 "VideoSuite$Header" "op" "[I") (mu mw_625)) (fun _ h9 => h9) rfl dX1_readMarks_113 ?_
            refine lv_iconst (v := (3 : Int32)) hx hb dX1_readMarks_116 (by decide) ?_
            refine lv_iload_n hx hb dX1_readMarks_117 rfl (lv_at hl 1 rfl) ?_
            refine lv_imul hx hb dX1_readMarks_118 ?_
            obtain ⟨x20, ex20, hF⟩ := ltt_some hF
            refine lv_topi (fun zx20 ezx20 => ?_)
            obtain rfl : x20 = zx20 := ex20.trans ezx20.symm
            refine lv_iconst (v := (1 : Int32)) hx hb dX1_readMarks_119 (by decide) ?_
            refine lv_iadd hx hb dX1_readMarks_120 ?_
            obtain ⟨x21, ex21, hF⟩ := ltt_some hF
            refine lv_topi (fun zx21 ezx21 => ?_)
            obtain rfl : x21 = zx21 := ex21.trans ezx21.symm
            refine lv_iconst (v := (0 : Int32)) hx hb dX1_readMarks_121 (by decide) ?_
            obtain ⟨b22, ho22, hc22, hk22, hF⟩ := dr_some hF
            refine W_st (st' := [.int (0 : Int32), .int x21, .ref (ad b22)]) (by rw [va_some ho22]) ?_
            obtain ⟨hvc, hF⟩ := chk_some hF
            refine va_iast hx hb hK hP hD hS b22 1 (wld_i ct ad G M18 hc22 hk22) rfl hvc dX1_readMarks_122 (fun H locs hP hD hS => ?_)
            obtain ⟨M23, eM23, hF⟩ := ltt_some hF
            rw [set_i ct ad G M18 hc22 hk22, ← eM23] at hP hD
            refine lv_aload_n hx hb dX1_readMarks_123 rfl (lv_at hl 3 rfl) ?_
            refine va_get (D := D) (ci := 1) (v := va_re ad (M23.2 a 10)) (C := RX1) (T := TX1) (N := 22) hx hb hts (mus hf_X1) hown hK hP a (wld_o ct ad G M23 hc hk (by decide)) rfl 10 (by decide) (hts (.fieldLink RX1 68 "VideoSuite$Decoder" "head" "LVideoSuite$Header;") (mu mw_652)) (fun _ h9 => h9) rfl dX1_readMarks_124 ?_
            obtain ⟨b24, ho24, hc24, hk24, hF⟩ := dr_some hF
            refine W_st (st' := [.ref (ad b24)]) (by rw [va_some ho24]) ?_
            refine va_get (D := D) (ci := 3) (v := va_re ad (M23.2 b24 2)) (C := RX3) (T := TX3) (N := 4) hx hb hts (mus hf_X3) hown hK hP b24 (wld_o ct ad G M23 hc24 hk24 (by decide)) rfl 2 (by decide) (hts (.fieldLink RX1 253 "VideoSuite$Header" "op" "[I") (mu mw_625)) (fun _ h9 => h9) rfl dX1_readMarks_127 ?_
            refine lv_iconst (v := (3 : Int32)) hx hb dX1_readMarks_130 (by decide) ?_
            refine lv_iload_n hx hb dX1_readMarks_131 rfl (lv_at hl 1 rfl) ?_
            refine lv_imul hx hb dX1_readMarks_132 ?_
            obtain ⟨x25, ex25, hF⟩ := ltt_some hF
            refine lv_topi (fun zx25 ezx25 => ?_)
            obtain rfl : x25 = zx25 := ex25.trans ezx25.symm
            refine lv_iconst (v := (2 : Int32)) hx hb dX1_readMarks_133 (by decide) ?_
            refine lv_iadd hx hb dX1_readMarks_134 ?_
            obtain ⟨x26, ex26, hF⟩ := ltt_some hF
            refine lv_topi (fun zx26 ezx26 => ?_)
            obtain rfl : x26 = zx26 := ex26.trans ezx26.symm
            refine lv_iconst (v := (0 : Int32)) hx hb dX1_readMarks_135 (by decide) ?_
            obtain ⟨b27, ho27, hc27, hk27, hF⟩ := dr_some hF
            refine W_st (st' := [.int (0 : Int32), .int x26, .ref (ad b27)]) (by rw [va_some ho27]) ?_
            obtain ⟨hvc, hF⟩ := chk_some hF
            refine va_iast hx hb hK hP hD hS b27 1 (wld_i ct ad G M23 hc27 hk27) rfl hvc dX1_readMarks_136 (fun H locs hP hD hS => ?_)
            obtain ⟨M28, eM28, hF⟩ := ltt_some hF
            rw [set_i ct ad G M23 hc27 hk27, ← eM28] at hP hD
            refine lv_iload hx hb dX1_readMarks_137 (lv_at hl 0 rfl) ?_
            refine lv_iconst (v := (5 : Int32)) hx hb dX1_readMarks_139 (by decide) ?_
            obtain ⟨y29, hy29, hF⟩ := bnd_some hF
            have J29 : ∀ (H : Heap) (locs : List Loc) (ls : Array Slot), va_P D classes (wld ct ad G y29) H → va_D A (wld ct ad G y29) → va_S A s.heap H locs → lv_has ls 5 [(4, .int y12.2), (3, .int s8.1), (2, va_re ad (M.2 b2 0)), (0, .ref (ad a)), (1, .int p0)] → W p l e (headSpec wuX1_readMarks ({ frames := 3, cells := 0, slots := 0, locals := 80 })).room s m ([.ref (ad a), .int p0] : List Value).toArray below meth c H locs 0 0 (MQ below (va_Qv (fun (_ : Unit) => True) (fun _ t => kE D ct ad G A y t) A) ([.ref (ad a), .int p0] : List Value).toArray s 0 0 A) (F0 m 184 ls []) := by
              intro H locs ls hP hD hS hl
              refine lv_iload hx hb dX1_readMarks_184 (lv_at hl 0 rfl) ?_
              refine lv_iconst (v := (3 : Int32)) hx hb dX1_readMarks_186 (by decide) ?_
              obtain ⟨y30, hy30, hF⟩ := bnd_some hF
              have J30 : ∀ (H : Heap) (locs : List Loc) (ls : Array Slot), va_P D classes (wld ct ad G y30) H → va_D A (wld ct ad G y30) → va_S A s.heap H locs → lv_has ls 5 [(4, .int y12.2), (3, .int s8.1), (2, va_re ad (M.2 b2 0)), (0, .ref (ad a)), (1, .int p0)] → W p l e (headSpec wuX1_readMarks ({ frames := 3, cells := 0, slots := 0, locals := 80 })).room s m ([.ref (ad a), .int p0] : List Value).toArray below meth c H locs 0 0 (MQ below (va_Qv (fun (_ : Unit) => True) (fun _ t => kE D ct ad G A y t) A) ([.ref (ad a), .int p0] : List Value).toArray s 0 0 A) (F0 m 208 ls []) := by
                intro H locs ls hP hD hS hl
                refine lv_aloadq_n hx hb dX1_readMarks_208 rfl (lv_at hl 2 rfl) ?_
                refine lv_bipush (v := (24 : Int32)) hx hb dX1_readMarks_209 (by decide) ?_
                refine lv_iload_n hx hb dX1_readMarks_211 rfl (lv_at hl 1 rfl) ?_
                refine lv_iconst (v := (1 : Int32)) hx hb dX1_readMarks_212 (by decide) ?_
                refine lv_iadd hx hb dX1_readMarks_213 ?_
                obtain ⟨x31, ex31, hF⟩ := ltt_some hF
                refine lv_topi (fun zx31 ezx31 => ?_)
                obtain rfl : x31 = zx31 := ex31.trans ezx31.symm
                obtain ⟨b32, ho32, hc32, hk32, hF⟩ := dr_some hF
                refine W_st (st' := [.int x31, .int (24 : Int32), .ref (ad b32)]) (by rw [va_some ho32]) ?_
                obtain ⟨hvc, hF⟩ := chk_some hF
                refine va_iast hx hb hK hP hD hS b32 1 (wld_i ct ad G y30 hc32 hk32) rfl hvc dX1_readMarks_214 (fun H locs hP hD hS => ?_)
                obtain ⟨M33, eM33, hF⟩ := ltt_some hF
                rw [set_i ct ad G y30 hc32 hk32, ← eM33] at hP hD
                obtain ⟨x34, ex34, hF⟩ := ltt_some hF
                refine lv_iinc (v := x34) (lv' := [(3, .int x34), (4, .int y12.2), (2, va_re ad (M.2 b2 0)), (0, .ref (ad a)), (1, .int p0)]) hx hb dX1_readMarks_215 hl (k := 1) rfl (by rw [ex34]; rfl) (by decide) (by generalize ((M.2 b2 0)) = o9; cases o9 <;> rfl) (fun ls hl => ?_)
                refine lv_goto (tgt := 55) hx hb dX1_readMarks_218 (by decide) ?_
                obtain rfl := Option.some.inj hF
                exact hwz10 _ _ _ hP hD hS (lv_sub hl [0, 2, 3, 4] rfl)
              clear hF
              have hF := hy30
              clear hy30
              refine lv_icmp_ne (tgt := 208) hx hb dX1_readMarks_187 (by decide) (fun c35 => ?_) (fun c35 => ?_)
              · rw [if_neg c35] at hF
                obtain rfl := Option.some.inj hF
                exact J30 _ _ _ hP hD hS (lv_sub hl [0, 1, 2, 3, 4] rfl)
              · rw [if_pos c35] at hF
                refine lv_aload_n hx hb dX1_readMarks_190 rfl (lv_at hl 3 rfl) ?_
                refine va_get (D := D) (ci := 1) (v := va_re ad (y29.2 a 10)) (C := RX1) (T := TX1) (N := 22) hx hb hts (mus hf_X1) hown hK hP a (wld_o ct ad G y29 hc hk (by decide)) rfl 10 (by decide) (hts (.fieldLink RX1 68 "VideoSuite$Decoder" "head" "LVideoSuite$Header;") (mu mw_652)) (fun _ h9 => h9) rfl dX1_readMarks_191 ?_
                obtain ⟨b36, ho36, hc36, hk36, hF⟩ := dr_some hF
                refine W_st (st' := [.ref (ad b36)]) (by rw [va_some ho36]) ?_
                refine va_get (D := D) (ci := 3) (v := va_re ad (y29.2 b36 2)) (C := RX3) (T := TX3) (N := 4) hx hb hts (mus hf_X3) hown hK hP b36 (wld_o ct ad G y29 hc36 hk36 (by decide)) rfl 2 (by decide) (hts (.fieldLink RX1 253 "VideoSuite$Header" "op" "[I") (mu mw_625)) (fun _ h9 => h9) rfl dX1_readMarks_194 ?_
                refine lv_iconst (v := (3 : Int32)) hx hb dX1_readMarks_197 (by decide) ?_
                refine lv_iload_n hx hb dX1_readMarks_198 rfl (lv_at hl 1 rfl) ?_
                refine lv_imul hx hb dX1_readMarks_199 ?_
                obtain ⟨x37, ex37, hF⟩ := ltt_some hF
                refine lv_topi (fun zx37 ezx37 => ?_)
                obtain rfl : x37 = zx37 := ex37.trans ezx37.symm
                refine lv_iconst (v := (2 : Int32)) hx hb dX1_readMarks_200 (by decide) ?_
                refine lv_iadd hx hb dX1_readMarks_201 ?_
                obtain ⟨x38, ex38, hF⟩ := ltt_some hF
                refine lv_topi (fun zx38 ezx38 => ?_)
                obtain rfl : x38 = zx38 := ex38.trans ezx38.symm
                refine lv_aload_n hx hb dX1_readMarks_202 rfl (lv_at hl 3 rfl) ?_
                refine lv_iconst (v := (3 : Int32)) hx hb dX1_readMarks_203 (by decide) ?_
                obtain ⟨y39, hy39, hF⟩ := bnd_some hF
                have hf9 := wA_in hD hA9 hS
                refine va_calli (va_runV (As := [.int (3 : Int32)]) (rest := [.int x38, va_re ad (y29.2 b36 2)]) ⟨hx, hb, hml, hown, hts⟩ (kX1_unsigned l D ct ad Z G y29 H.size a ((3 : Int32)) y39 hc hk hy39) (cwV 1 hts gX1_readMarks_X1_unsigned rfl rfl rfl (by decide +kernel) ⟨Nat.le_of_ble_eq_true rfl, Nat.le_of_ble_eq_true rfl⟩) ⟨fun a U g mk q => by obtain ⟨q0, q1, qP, qK, qD, qZ, qN⟩ := q; exact ⟨q0, q1, qP, va_K.moved (u := U) (U := U.calling g mk a) (Vm.Alike.refl U.vm) qK, qD, sF.moved (u := U) (U := U.calling g mk a) (Vm.Alike.refl U.vm) qZ, nF.same rfl qN⟩, va_recv hK hP (ci := 1) (q0 := a) rfl (wld_o ct ad G y29 hc hk (by decide)), fun U hU hW => ⟨rfl, by rw [hU], by rw [hU]; exact hP, va_K.moved hW.alike hK, hD.weaken (fun _ _ _ _ => trivial), by rw [hU]; exact ((hZ.kept hS.2.1).narrow hf9).moved hW.alike, hN.warm hW⟩⟩ rfl rfl hl.1 rfl (lv_room (by simp only [List.map, va_re_cat]; exact Nat.le_of_ble_eq_true rfl)) dX1_readMarks_204 ⟨(Nat.zero_le _), (Nat.zero_le _)⟩) hS (fun q _ h => hf9 q h) hf9 (fun r u t H locs ht hvm hw hB hz1 hk1 hS => ?_)
                obtain ⟨hP, hK9, hD9⟩ := hB
                rw [ht] at hP
                try dsimp only at hw
                subst hw
                have hD := hD9.weaken (fun _ q _ h => hf9 q.1 h)
                obtain ⟨b40, ho40, hc40, hk40, hF⟩ := dr_some hF
                refine W_st (st' := [.int y39.2, .int x38, .ref (ad b40)]) (by rw [va_some ho40]) ?_
                obtain ⟨hvc, hF⟩ := chk_some hF
                refine va_iast hx hb hK hP hD hS b40 1 (wld_i ct ad G y39.1 hc40 hk40) rfl hvc dX1_readMarks_207 (fun H locs hP hD hS => ?_)
                obtain ⟨M41, eM41, hF⟩ := ltt_some hF
                rw [set_i ct ad G y39.1 hc40 hk40, ← eM41] at hP hD
                obtain rfl := Option.some.inj hF
                exact J30 _ _ _ hP hD hS (lv_sub hl [0, 1, 2, 3, 4] rfl)
            clear hF
            have hF := hy29
            clear hy29
            refine lv_icmp_eq (tgt := 184) hx hb dX1_readMarks_140 (by decide) (fun c42 => ?_) (fun c42 => ?_)
            · rw [if_pos c42] at hF
              obtain rfl := Option.some.inj hF
              exact J29 _ _ _ hP hD hS (lv_sub hl [0, 1, 2, 3, 4] rfl)
            · rw [if_neg c42] at hF
              refine lv_aload_n hx hb dX1_readMarks_143 rfl (lv_at hl 3 rfl) ?_
              refine va_get (D := D) (ci := 1) (v := va_re ad (M28.2 a 10)) (C := RX1) (T := TX1) (N := 22) hx hb hts (mus hf_X1) hown hK hP a (wld_o ct ad G M28 hc hk (by decide)) rfl 10 (by decide) (hts (.fieldLink RX1 68 "VideoSuite$Decoder" "head" "LVideoSuite$Header;") (mu mw_652)) (fun _ h9 => h9) rfl dX1_readMarks_144 ?_
              obtain ⟨b43, ho43, hc43, hk43, hF⟩ := dr_some hF
              refine W_st (st' := [.ref (ad b43)]) (by rw [va_some ho43]) ?_
              refine va_get (D := D) (ci := 3) (v := va_re ad (M28.2 b43 2)) (C := RX3) (T := TX3) (N := 4) hx hb hts (mus hf_X3) hown hK hP b43 (wld_o ct ad G M28 hc43 hk43 (by decide)) rfl 2 (by decide) (hts (.fieldLink RX1 253 "VideoSuite$Header" "op" "[I") (mu mw_625)) (fun _ h9 => h9) rfl dX1_readMarks_147 ?_
              refine lv_iconst (v := (3 : Int32)) hx hb dX1_readMarks_150 (by decide) ?_
              refine lv_iload_n hx hb dX1_readMarks_151 rfl (lv_at hl 1 rfl) ?_
              refine lv_imul hx hb dX1_readMarks_152 ?_
              obtain ⟨x44, ex44, hF⟩ := ltt_some hF
              refine lv_topi (fun zx44 ezx44 => ?_)
              obtain rfl : x44 = zx44 := ex44.trans ezx44.symm
              refine lv_iconst (v := (1 : Int32)) hx hb dX1_readMarks_153 (by decide) ?_
              refine lv_iadd hx hb dX1_readMarks_154 ?_
              obtain ⟨x45, ex45, hF⟩ := ltt_some hF
              refine lv_topi (fun zx45 ezx45 => ?_)
              obtain rfl : x45 = zx45 := ex45.trans ezx45.symm
              refine lv_aload_n hx hb dX1_readMarks_155 rfl (lv_at hl 3 rfl) ?_
              refine lv_iload hx hb dX1_readMarks_156 (lv_at hl 0 rfl) ?_
              refine lv_iconst (v := (2 : Int32)) hx hb dX1_readMarks_158 (by decide) ?_
              refine lv_irem hx hb dX1_readMarks_159 (by decide) ?_
              obtain ⟨x46, ex46, hF⟩ := ltt_some hF
              refine lv_topi (fun zx46 ezx46 => ?_)
              obtain rfl : x46 = zx46 := ex46.trans ezx46.symm
              refine lv_iconst (v := (1 : Int32)) hx hb dX1_readMarks_160 (by decide) ?_
              obtain ⟨y47, hy47, hF⟩ := bnd_some hF
              have J47 : ∀ (H : Heap) (locs : List Loc) (ls : Array Slot), va_P D classes (wld ct ad G M28) H → va_D A (wld ct ad G M28) → va_S A s.heap H locs → lv_has ls 5 [(4, .int y12.2), (3, .int s8.1), (2, va_re ad (M.2 b2 0)), (0, .ref (ad a)), (1, .int p0)] → W p l e (headSpec wuX1_readMarks ({ frames := 3, cells := 0, slots := 0, locals := 80 })).room s m ([.ref (ad a), .int p0] : List Value).toArray below meth c H locs 0 0 (MQ below (va_Qv (fun (_ : Unit) => True) (fun _ t => kE D ct ad G A y t) A) ([.ref (ad a), .int p0] : List Value).toArray s 0 0 A) (F0 m 180 ls [.int y47, .ref (ad a), .int x45, va_re ad (M28.2 b43 2)]) := by
                intro H locs ls hP hD hS hl
                obtain ⟨y48, hy48, hF⟩ := bnd_some hF
                have hf9 := wA_in hD hA9 hS
                refine va_calli (va_runV (As := [.int y47]) (rest := [.int x45, va_re ad (M28.2 b43 2)]) ⟨hx, hb, hml, hown, hts⟩ (kX1_unsigned l D ct ad Z G M28 H.size a y47 y48 hc hk hy48) (cwV 1 hts gX1_readMarks_X1_unsigned rfl rfl rfl (by decide +kernel) ⟨Nat.le_of_ble_eq_true rfl, Nat.le_of_ble_eq_true rfl⟩) ⟨fun a U g mk q => by obtain ⟨q0, q1, qP, qK, qD, qZ, qN⟩ := q; exact ⟨q0, q1, qP, va_K.moved (u := U) (U := U.calling g mk a) (Vm.Alike.refl U.vm) qK, qD, sF.moved (u := U) (U := U.calling g mk a) (Vm.Alike.refl U.vm) qZ, nF.same rfl qN⟩, va_recv hK hP (ci := 1) (q0 := a) rfl (wld_o ct ad G M28 hc hk (by decide)), fun U hU hW => ⟨rfl, by rw [hU], by rw [hU]; exact hP, va_K.moved hW.alike hK, hD.weaken (fun _ _ _ _ => trivial), by rw [hU]; exact ((hZ.kept hS.2.1).narrow hf9).moved hW.alike, hN.warm hW⟩⟩ rfl rfl hl.1 rfl (lv_room (by simp only [List.map, va_re_cat]; exact Nat.le_of_ble_eq_true rfl)) dX1_readMarks_180 ⟨(Nat.zero_le _), (Nat.zero_le _)⟩) hS (fun q _ h => hf9 q h) hf9 (fun r u t H locs ht hvm hw hB hz1 hk1 hS => ?_)
                obtain ⟨hP, hK9, hD9⟩ := hB
                rw [ht] at hP
                try dsimp only at hw
                subst hw
                have hD := hD9.weaken (fun _ q _ h => hf9 q.1 h)
                obtain ⟨b49, ho49, hc49, hk49, hF⟩ := dr_some hF
                refine W_st (st' := [.int y48.2, .int x45, .ref (ad b49)]) (by rw [va_some ho49]) ?_
                obtain ⟨hvc, hF⟩ := chk_some hF
                refine va_iast hx hb hK hP hD hS b49 1 (wld_i ct ad G y48.1 hc49 hk49) rfl hvc dX1_readMarks_183 (fun H locs hP hD hS => ?_)
                obtain ⟨M50, eM50, hF⟩ := ltt_some hF
                rw [set_i ct ad G y48.1 hc49 hk49, ← eM50] at hP hD
                obtain rfl := Option.some.inj hF
                exact J29 _ _ _ hP hD hS (lv_sub hl [0, 1, 2, 3, 4] rfl)
              clear hF
              have hF := hy47
              clear hy47
              refine lv_icmp_ne (tgt := 169) hx hb dX1_readMarks_161 (by decide) (fun c51 => ?_) (fun c51 => ?_)
              · rw [if_neg c51] at hF
                refine lv_iload hx hb dX1_readMarks_169 (lv_at hl 0 rfl) ?_
                refine lv_iconst (v := (4 : Int32)) hx hb dX1_readMarks_171 (by decide) ?_
                obtain ⟨y52, hy52, hF⟩ := bnd_some hF
                have J52 : ∀ (H : Heap) (locs : List Loc) (ls : Array Slot), va_P D classes (wld ct ad G M28) H → va_D A (wld ct ad G M28) → va_S A s.heap H locs → lv_has ls 5 [(4, .int y12.2), (3, .int s8.1), (2, va_re ad (M.2 b2 0)), (0, .ref (ad a)), (1, .int p0)] → W p l e (headSpec wuX1_readMarks ({ frames := 3, cells := 0, slots := 0, locals := 80 })).room s m ([.ref (ad a), .int p0] : List Value).toArray below meth c H locs 0 0 (MQ below (va_Qv (fun (_ : Unit) => True) (fun _ t => kE D ct ad G A y t) A) ([.ref (ad a), .int p0] : List Value).toArray s 0 0 A) (F0 m 180 ls [.int y52, .ref (ad a), .int x45, va_re ad (M28.2 b43 2)]) := by
                  intro H locs ls hP hD hS hl
                  obtain rfl := Option.some.inj hF
                  exact J47 _ _ _ hP hD hS (lv_sub hl [0, 1, 2, 3, 4] rfl)
                clear hF
                have hF := hy52
                clear hy52
                refine lv_icmp_ne (tgt := 179) hx hb dX1_readMarks_172 (by decide) (fun c53 => ?_) (fun c53 => ?_)
                · rw [if_neg c53] at hF
                  refine lv_iconst (v := (3 : Int32)) hx hb dX1_readMarks_179 (by decide) ?_
                  obtain rfl := Option.some.inj hF
                  exact J52 _ _ _ hP hD hS (lv_sub hl [0, 1, 2, 3, 4] rfl)
                · rw [if_pos c53] at hF
                  refine lv_iconst (v := (4 : Int32)) hx hb dX1_readMarks_175 (by decide) ?_
                  refine lv_goto (tgt := 180) hx hb dX1_readMarks_176 (by decide) ?_
                  obtain rfl := Option.some.inj hF
                  exact J52 _ _ _ hP hD hS (lv_sub hl [0, 1, 2, 3, 4] rfl)
              · rw [if_pos c51] at hF
                refine lv_ldc (v := (65535 : Int32)) hx hb hown (hts (.constant RX1 220 (65535 : Int32)) (mu mw_1359)) dX1_readMarks_164 ?_
                refine lv_goto (tgt := 180) hx hb dX1_readMarks_166 (by decide) ?_
                obtain rfl := Option.some.inj hF
                exact J47 _ _ _ hP hD hS (lv_sub hl [0, 1, 2, 3, 4] rfl)
          clear hF
          have hF := hy14
          clear hy14
          refine lv_icmp_ne (tgt := 96) hx hb dX1_readMarks_78 (by decide) (fun c54 => ?_) (fun c54 => ?_)
          · rw [if_neg c54] at hF
            obtain rfl := Option.some.inj hF
            exact J14 _ _ _ hP hD hS (lv_sub hl [0, 1, 2, 3, 4] rfl)
          · rw [if_pos c54] at hF
            refine lv_aload_n hx hb dX1_readMarks_81 rfl (lv_at hl 3 rfl) ?_
            refine va_get (D := D) (ci := 1) (v := va_re ad (y12.1.2 a 0)) (C := RX1) (T := TX1) (N := 22) hx hb hts (mus hf_X1) hown hK hP a (wld_o ct ad G y12.1 hc hk (by decide)) rfl 0 (by decide) (hts (.fieldLink RX1 12 "VideoSuite$Decoder" "reader" "LVideoSuite$Reader;") (mu mw_640)) (fun _ h9 => h9) rfl dX1_readMarks_82 ?_
            refine lv_iconst (v := (2 : Int32)) hx hb dX1_readMarks_85 (by decide) ?_
            refine lv_aload_n hx hb dX1_readMarks_86 rfl (lv_at hl 3 rfl) ?_
            refine va_get (D := D) (ci := 1) (v := va_re ad (y12.1.2 a 0)) (C := RX1) (T := TX1) (N := 22) hx hb hts (mus hf_X1) hown hK hP a (wld_o ct ad G y12.1 hc hk (by decide)) rfl 0 (by decide) (hts (.fieldLink RX1 12 "VideoSuite$Decoder" "reader" "LVideoSuite$Reader;") (mu mw_640)) (fun _ h9 => h9) rfl dX1_readMarks_87 ?_
            obtain ⟨b55, ho55, hc55, hk55, hF⟩ := dr_some hF
            refine W_st (st' := [.ref (ad b55), .int (2 : Int32), .ref (ad b55)]) (by rw [va_some ho55]) ?_
            refine va_get (D := D) (ci := 5) (v := .int (y12.1.1 b55 4)) (C := RX5) (T := TX5) (N := 17) hx hb hts (mus hf_X5) hown hK hP b55 (wld_o ct ad G y12.1 hc55 hk55 (by decide)) rfl 4 (by decide) (hts (.fieldLink RX1 194 "VideoSuite$Reader" "begin" "I") (mu mw_293)) (fun _ h9 => h9) rfl dX1_readMarks_90 ?_
            obtain ⟨x56, ex56, hF⟩ := ltt_some hF
            refine lv_topi (fun zx56 ezx56 => ?_)
            obtain rfl : x56 = zx56 := ex56.trans ezx56.symm
            cases hF
        · rw [if_pos c13] at hF
          obtain rfl := Option.some.inj hF
          have hF := sel_inr (hwz10 ▸ hR7)
          obtain rfl := Option.some.inj hF
          exact W.vret hx hb hr (fun t ht hW => ⟨⟨(), rfl, trivial, ⟨by rw [ht]; exact hP, va_K.moved hW.alike hK, hD⟩⟩, hS.F ht⟩) hS.2.2 dX1_readMarks_74
    · rw [if_pos c6] at hF
      obtain rfl := Option.some.inj hF
      exact W.vret hx hb hr (fun t ht hW => ⟨⟨(), rfl, trivial, ⟨by rw [ht]; exact hP, va_K.moved hW.alike hK, hD⟩⟩, hS.F ht⟩) hS.2.2 dX1_readMarks_52
  · rw [if_pos c3] at hF
    refine lv_aloadq_n hx hb dX1_readMarks_13 rfl (lv_at hl 0 rfl) ?_
    refine lv_bipush (v := (19 : Int32)) hx hb dX1_readMarks_14 (by decide) ?_
    refine lv_aload_n hx hb dX1_readMarks_16 rfl (lv_at hl 1 rfl) ?_
    refine va_get (D := D) (ci := 1) (v := va_re ad (M.2 a 0)) (C := RX1) (T := TX1) (N := 22) hx hb hts (mus hf_X1) hown hK hP a (wld_o ct ad G M hc hk (by decide)) rfl 0 (by decide) (hts (.fieldLink RX1 12 "VideoSuite$Decoder" "reader" "LVideoSuite$Reader;") (mu mw_640)) (fun _ h9 => h9) rfl dX1_readMarks_17 ?_
    refine lv_iconst (v := (0 : Int32)) hx hb dX1_readMarks_20 (by decide) ?_
    refine lv_iconst (v := (1 : Int32)) hx hb dX1_readMarks_21 (by decide) ?_
    obtain ⟨b57, ho57, hc57, hk57, hF⟩ := dr_some hF
    refine W_st (st' := [.int (1 : Int32), .int (0 : Int32), .ref (ad b57), .int (19 : Int32), va_re ad (M.2 b2 0)]) (by rw [va_some ho57]) ?_
    obtain ⟨y58, hy58, hF⟩ := bnd_some hF
    have hf9 := wA_in hD hA9 hS
    refine va_calli (va_runV (As := [.int (0 : Int32), .int (1 : Int32)]) (rest := [.int (19 : Int32), va_re ad (M.2 b2 0)]) ⟨hx, hb, hml, hown, hts⟩ (kX5_fixed l D ct ad Z G M s.heap.size b57 ((0 : Int32)) ((1 : Int32)) y58 hc57 hk57 hy58) (cwV 2 hts gX1_readMarks_X5_fixed rfl rfl rfl (by decide +kernel) ⟨Nat.le_of_ble_eq_true rfl, Nat.le_of_ble_eq_true rfl⟩) ⟨fun a U g mk q => by obtain ⟨q0, q1, qP, qK, qD, qZ, qN⟩ := q; exact ⟨q0, q1, qP, va_K.moved (u := U) (U := U.calling g mk a) (Vm.Alike.refl U.vm) qK, qD, sF.moved (u := U) (U := U.calling g mk a) (Vm.Alike.refl U.vm) qZ, nF.same rfl qN⟩, va_recv hK hP (ci := 5) (q0 := b57) rfl (wld_o ct ad G M hc57 hk57 (by decide)), fun U hU hW => ⟨rfl, by rw [hU], by rw [hU]; exact hP, va_K.moved hW.alike hK, hD.weaken (fun _ _ _ _ => trivial), by rw [hU]; exact ((hZ.kept hS.2.1).narrow hf9).moved hW.alike, hN.warm hW⟩⟩ rfl rfl hl.1 rfl (lv_room (by simp only [List.map, va_re_cat]; exact Nat.le_of_ble_eq_true rfl)) dX1_readMarks_22 ⟨(Nat.zero_le _), (Nat.zero_le _)⟩) hS (fun q _ h => hf9 q h) hf9 (fun r u t H locs ht hvm hw hB hz1 hk1 hS => ?_)
    obtain ⟨hP, hK9, hD9⟩ := hB
    rw [ht] at hP
    try dsimp only at hw
    subst hw
    have hD := hD9.weaken (fun _ q _ h => hf9 q.1 h)
    obtain ⟨b59, ho59, hc59, hk59, hF⟩ := dr_some hF
    refine W_st (st' := [.int y58.2, .int (19 : Int32), .ref (ad b59)]) (by rw [va_some ho59]) ?_
    obtain ⟨hvc, hF⟩ := chk_some hF
    refine va_iast hx hb hK hP hD hS b59 1 (wld_i ct ad G y58.1 hc59 hk59) rfl hvc dX1_readMarks_25 (fun H locs hP hD hS => ?_)
    obtain ⟨M60, eM60, hF⟩ := ltt_some hF
    rw [set_i ct ad G y58.1 hc59 hk59, ← eM60] at hP hD
    refine lv_aloadq_n hx hb dX1_readMarks_26 rfl (lv_at hl 0 rfl) ?_
    refine lv_bipush (v := (20 : Int32)) hx hb dX1_readMarks_27 (by decide) ?_
    refine lv_aload_n hx hb dX1_readMarks_29 rfl (lv_at hl 1 rfl) ?_
    refine va_get (D := D) (ci := 1) (v := va_re ad (M60.2 a 0)) (C := RX1) (T := TX1) (N := 22) hx hb hts (mus hf_X1) hown hK hP a (wld_o ct ad G M60 hc hk (by decide)) rfl 0 (by decide) (hts (.fieldLink RX1 12 "VideoSuite$Decoder" "reader" "LVideoSuite$Reader;") (mu mw_640)) (fun _ h9 => h9) rfl dX1_readMarks_30 ?_
    refine lv_iconst (v := (0 : Int32)) hx hb dX1_readMarks_33 (by decide) ?_
    refine lv_iconst (v := (1 : Int32)) hx hb dX1_readMarks_34 (by decide) ?_
    obtain ⟨b61, ho61, hc61, hk61, hF⟩ := dr_some hF
    refine W_st (st' := [.int (1 : Int32), .int (0 : Int32), .ref (ad b61), .int (20 : Int32), va_re ad (M.2 b2 0)]) (by rw [va_some ho61]) ?_
    obtain ⟨y62, hy62, hF⟩ := bnd_some hF
    have hf9 := wA_in hD hA9 hS
    refine va_calli (va_runV (As := [.int (0 : Int32), .int (1 : Int32)]) (rest := [.int (20 : Int32), va_re ad (M.2 b2 0)]) ⟨hx, hb, hml, hown, hts⟩ (kX5_fixed l D ct ad Z G M60 H.size b61 ((0 : Int32)) ((1 : Int32)) y62 hc61 hk61 hy62) (cwV 2 hts gX1_readMarks_X5_fixed rfl rfl rfl (by decide +kernel) ⟨Nat.le_of_ble_eq_true rfl, Nat.le_of_ble_eq_true rfl⟩) ⟨fun a U g mk q => by obtain ⟨q0, q1, qP, qK, qD, qZ, qN⟩ := q; exact ⟨q0, q1, qP, va_K.moved (u := U) (U := U.calling g mk a) (Vm.Alike.refl U.vm) qK, qD, sF.moved (u := U) (U := U.calling g mk a) (Vm.Alike.refl U.vm) qZ, nF.same rfl qN⟩, va_recv hK hP (ci := 5) (q0 := b61) rfl (wld_o ct ad G M60 hc61 hk61 (by decide)), fun U hU hW => ⟨rfl, by rw [hU], by rw [hU]; exact hP, va_K.moved hW.alike hK, hD.weaken (fun _ _ _ _ => trivial), by rw [hU]; exact ((hZ.kept hS.2.1).narrow hf9).moved hW.alike, hN.warm hW⟩⟩ rfl rfl hl.1 rfl (lv_room (by simp only [List.map, va_re_cat]; exact Nat.le_of_ble_eq_true rfl)) dX1_readMarks_35 ⟨(Nat.zero_le _), (Nat.zero_le _)⟩) hS (fun q _ h => hf9 q h) hf9 (fun r u t H locs ht hvm hw hB hz1 hk1 hS => ?_)
    obtain ⟨hP, hK9, hD9⟩ := hB
    rw [ht] at hP
    try dsimp only at hw
    subst hw
    have hD := hD9.weaken (fun _ q _ h => hf9 q.1 h)
    refine W_st (st' := [.int y62.2, .int (20 : Int32), .ref (ad b59)]) (by rw [va_some ho59]) ?_
    obtain ⟨hvc, hF⟩ := chk_some hF
    refine va_iast hx hb hK hP hD hS b59 1 (wld_i ct ad G y62.1 hc59 hk59) rfl hvc dX1_readMarks_38 (fun H locs hP hD hS => ?_)
    obtain ⟨M63, eM63, hF⟩ := ltt_some hF
    rw [set_i ct ad G y62.1 hc59 hk59, ← eM63] at hP hD
    obtain rfl := Option.some.inj hF
    exact W.vret hx hb hr (fun t ht hW => ⟨⟨(), rfl, trivial, ⟨by rw [ht]; exact hP, va_K.moved hW.alike hK, hD⟩⟩, hS.F ht⟩) hS.2.2 dX1_readMarks_39
set_option maxRecDepth 20000 in
theorem gX1_readMoves_X5_fixed : GoodIn wuX1_readMoves (wsV RX1 183 RX5 yX5_fixed wuX5_fixed) := gu_V mw_1355 mw_1356 mw_1357 mw_169 mw_1358
set_option maxRecDepth 20000 in
set_option maxRecDepth 20000 in
theorem gX1_readMoves_X1_unsigned : GoodIn wuX1_readMoves (wsV RX1 186 RX1 yX1_unsigned wuX1_unsigned) := gu_V mw_1350 mw_1352 mw_34 mw_168 mw_1353
set_option maxRecDepth 20000 in
theorem dX1_readMoves_0 : decode cX1_readMoves 0 = .ok (.aload_n 0, 1) := by decide +kernel
theorem dX1_readMoves_1 : decode cX1_readMoves 1 = .ok (.getfield 12, 3) := by decide +kernel
theorem dX1_readMoves_4 : decode cX1_readMoves 4 = .ok (.iconst 0, 1) := by decide +kernel
theorem dX1_readMoves_5 : decode cX1_readMoves 5 = .ok (.iconst 1, 1) := by decide +kernel
theorem dX1_readMoves_6 : decode cX1_readMoves 6 = .ok (.invokevirtual 183, 3) := by decide +kernel
theorem dX1_readMoves_9 : decode cX1_readMoves 9 = .ok (.ifCond .ne 4, 3) := by decide +kernel
theorem dX1_readMoves_12 : decode cX1_readMoves 12 = .ok (.return_, 1) := by decide +kernel
theorem dX1_readMoves_13 : decode cX1_readMoves 13 = .ok (.iconst 0, 1) := by decide +kernel
theorem dX1_readMoves_14 : decode cX1_readMoves 14 = .ok (.istore_n 3, 1) := by decide +kernel
theorem dX1_readMoves_15 : decode cX1_readMoves 15 = .ok (.iload_n 3, 1) := by decide +kernel
theorem dX1_readMoves_16 : decode cX1_readMoves 16 = .ok (.bipush 8, 2) := by decide +kernel
theorem dX1_readMoves_18 : decode cX1_readMoves 18 = .ok (.if_icmp .gt 110, 3) := by decide +kernel
theorem dX1_readMoves_21 : decode cX1_readMoves 21 = .ok (.aload_n 0, 1) := by decide +kernel
theorem dX1_readMoves_22 : decode cX1_readMoves 22 = .ok (.iconst 3, 1) := by decide +kernel
theorem dX1_readMoves_23 : decode cX1_readMoves 23 = .ok (.invokevirtual 186, 3) := by decide +kernel
theorem dX1_readMoves_26 : decode cX1_readMoves 26 = .ok (.istore 4, 2) := by decide +kernel
theorem dX1_readMoves_28 : decode cX1_readMoves 28 = .ok (.iload 4, 2) := by decide +kernel
theorem dX1_readMoves_30 : decode cX1_readMoves 30 = .ok (.iconst 3, 1) := by decide +kernel
theorem dX1_readMoves_31 : decode cX1_readMoves 31 = .ok (.if_icmp .ne 4, 3) := by decide +kernel
theorem dX1_readMoves_34 : decode cX1_readMoves 34 = .ok (.return_, 1) := by decide +kernel
theorem dX1_readMoves_35 : decode cX1_readMoves 35 = .ok (.iload_n 3, 1) := by decide +kernel
theorem dX1_readMoves_36 : decode cX1_readMoves 36 = .ok (.bipush 8, 2) := by decide +kernel
theorem dX1_readMoves_38 : decode cX1_readMoves 38 = .ok (.if_icmp .ne 18, 3) := by decide +kernel
theorem dX1_readMoves_41 : decode cX1_readMoves 41 = .ok (.aload_n 0, 1) := by decide +kernel
theorem dX1_readMoves_42 : decode cX1_readMoves 42 = .ok (.getfield 12, 3) := by decide +kernel
theorem dX1_readMoves_45 : decode cX1_readMoves 45 = .ok (.iconst 2, 1) := by decide +kernel
theorem dX1_readMoves_46 : decode cX1_readMoves 46 = .ok (.aload_n 0, 1) := by decide +kernel
theorem dX1_readMoves_47 : decode cX1_readMoves 47 = .ok (.getfield 12, 3) := by decide +kernel
theorem dX1_readMoves_50 : decode cX1_readMoves 50 = .ok (.getfield 194, 3) := by decide +kernel
theorem dX1_readMoves_53 : decode cX1_readMoves 53 = .ok (.invokevirtual 197, 3) := by decide +kernel
theorem dX1_readMoves_56 : decode cX1_readMoves 56 = .ok (.iconst 2, 1) := by decide +kernel
theorem dX1_readMoves_57 : decode cX1_readMoves 57 = .ok (.bipush 8, 2) := by decide +kernel
theorem dX1_readMoves_59 : decode cX1_readMoves 59 = .ok (.iload_n 1, 1) := by decide +kernel
theorem dX1_readMoves_60 : decode cX1_readMoves 60 = .ok (.imul, 1) := by decide +kernel
theorem dX1_readMoves_61 : decode cX1_readMoves 61 = .ok (.iload_n 3, 1) := by decide +kernel
theorem dX1_readMoves_62 : decode cX1_readMoves 62 = .ok (.iadd, 1) := by decide +kernel
theorem dX1_readMoves_63 : decode cX1_readMoves 63 = .ok (.imul, 1) := by decide +kernel
theorem dX1_readMoves_64 : decode cX1_readMoves 64 = .ok (.istore 5, 2) := by decide +kernel
theorem dX1_readMoves_66 : decode cX1_readMoves 66 = .ok (.aload_n 0, 1) := by decide +kernel
theorem dX1_readMoves_67 : decode cX1_readMoves 67 = .ok (.getfield 68, 3) := by decide +kernel
theorem dX1_readMoves_70 : decode cX1_readMoves 70 = .ok (.getfield 243, 3) := by decide +kernel
theorem dX1_readMoves_73 : decode cX1_readMoves 73 = .ok (.iload 5, 2) := by decide +kernel
theorem dX1_readMoves_75 : decode cX1_readMoves 75 = .ok (.iload 4, 2) := by decide +kernel
theorem dX1_readMoves_77 : decode cX1_readMoves 77 = .ok (.iastore, 1) := by decide +kernel
theorem dX1_readMoves_78 : decode cX1_readMoves 78 = .ok (.aload_n 0, 1) := by decide +kernel
theorem dX1_readMoves_79 : decode cX1_readMoves 79 = .ok (.getfield 68, 3) := by decide +kernel
theorem dX1_readMoves_82 : decode cX1_readMoves 82 = .ok (.getfield 243, 3) := by decide +kernel
theorem dX1_readMoves_85 : decode cX1_readMoves 85 = .ok (.iload 5, 2) := by decide +kernel
theorem dX1_readMoves_87 : decode cX1_readMoves 87 = .ok (.iconst 1, 1) := by decide +kernel
theorem dX1_readMoves_88 : decode cX1_readMoves 88 = .ok (.iadd, 1) := by decide +kernel
theorem dX1_readMoves_89 : decode cX1_readMoves 89 = .ok (.aload_n 0, 1) := by decide +kernel
theorem dX1_readMoves_90 : decode cX1_readMoves 90 = .ok (.iload 4, 2) := by decide +kernel
theorem dX1_readMoves_92 : decode cX1_readMoves 92 = .ok (.iconst 2, 1) := by decide +kernel
theorem dX1_readMoves_93 : decode cX1_readMoves 93 = .ok (.if_icmp .ne 7, 3) := by decide +kernel
theorem dX1_readMoves_96 : decode cX1_readMoves 96 = .ok (.iconst 3, 1) := by decide +kernel
theorem dX1_readMoves_97 : decode cX1_readMoves 97 = .ok (.goto 6, 3) := by decide +kernel
theorem dX1_readMoves_100 : decode cX1_readMoves 100 = .ok (.iload_n 2, 1) := by decide +kernel
theorem dX1_readMoves_101 : decode cX1_readMoves 101 = .ok (.iconst 1, 1) := by decide +kernel
theorem dX1_readMoves_102 : decode cX1_readMoves 102 = .ok (.isub, 1) := by decide +kernel
theorem dX1_readMoves_103 : decode cX1_readMoves 103 = .ok (.invokevirtual 186, 3) := by decide +kernel
theorem dX1_readMoves_106 : decode cX1_readMoves 106 = .ok (.iastore, 1) := by decide +kernel
theorem dX1_readMoves_107 : decode cX1_readMoves 107 = .ok (.aload_n 0, 1) := by decide +kernel
theorem dX1_readMoves_108 : decode cX1_readMoves 108 = .ok (.getfield 68, 3) := by decide +kernel
theorem dX1_readMoves_111 : decode cX1_readMoves 111 = .ok (.getfield 212, 3) := by decide +kernel
theorem dX1_readMoves_114 : decode cX1_readMoves 114 = .ok (.bipush 25, 2) := by decide +kernel
theorem dX1_readMoves_116 : decode cX1_readMoves 116 = .ok (.iload_n 1, 1) := by decide +kernel
theorem dX1_readMoves_117 : decode cX1_readMoves 117 = .ok (.iadd, 1) := by decide +kernel
theorem dX1_readMoves_118 : decode cX1_readMoves 118 = .ok (.iload_n 3, 1) := by decide +kernel
theorem dX1_readMoves_119 : decode cX1_readMoves 119 = .ok (.iconst 1, 1) := by decide +kernel
theorem dX1_readMoves_120 : decode cX1_readMoves 120 = .ok (.iadd, 1) := by decide +kernel
theorem dX1_readMoves_121 : decode cX1_readMoves 121 = .ok (.iastore, 1) := by decide +kernel
theorem dX1_readMoves_122 : decode cX1_readMoves 122 = .ok (.iinc 3 1, 3) := by decide +kernel
theorem dX1_readMoves_125 : decode cX1_readMoves 125 = .ok (.goto (-110), 3) := by decide +kernel
theorem dX1_readMoves_128 : decode cX1_readMoves 128 = .ok (.return_, 1) := by decide +kernel
def FX1_readMoves (G : GG) (M : DD) (a : Nat) (p0 : Int32) (p1 : Int32) : Option (DD) :=
  dr G 5 ((M.2 a 0)) fun b2 =>
  bnd (FX5_fixed G M b2 ((0 : Int32)) ((1 : Int32))) fun y3 =>
  if y3.2 = ((0 : Int32)) then (some y3.1) else
  (bnd (itr (fun (s6 : Int32 × DD) => ((if ((8 : Int32)) < s6.1 then (some (.inr (.inl (s6.1, s6.2)))) else
  (bnd (FX1_unsigned G s6.2 a ((3 : Int32))) fun y10 =>
  if y10.2 = ((3 : Int32)) then (some (.inr (.inr y10.1))) else
  (bnd (if s6.1 = ((8 : Int32)) then (dr G 5 ((y10.1.2 a 0)) fun b34 =>
  ltt (y10.1.1 b34 4) fun x35 =>
  none) else
  (some (y10.1))) fun (y12 : DD) =>
  ltt ((((8 : Int32)) * p0)) fun x13 =>
  ltt ((x13 + s6.1)) fun x14 =>
  ltt ((((2 : Int32)) * x14)) fun x15 =>
  dr G 3 ((y12.2 a 10)) fun b16 =>
  dr G 13 ((y12.2 b16 1)) fun b17 =>
  chk (¬ (x15 < 0 ∨ G.2.2 b17 ≤ x15.toNatClampNeg)) <|
  ltt (uI y12 b17 x15.toNatClampNeg y10.2) fun M18 =>
  dr G 3 ((M18.2 a 10)) fun b19 =>
  ltt ((x15 + ((1 : Int32)))) fun x20 =>
  bnd (if y10.2 = ((2 : Int32)) then (some ((3 : Int32))) else
  (ltt ((p1 - ((1 : Int32)))) fun x32 =>
  some (x32))) fun (y21 : Int32) =>
  bnd (FX1_unsigned G M18 a y21) fun y22 =>
  dr G 13 ((M18.2 b19 1)) fun b23 =>
  chk (¬ (x20 < 0 ∨ G.2.2 b23 ≤ x20.toNatClampNeg)) <|
  ltt (uI y22.1 b23 x20.toNatClampNeg y22.2) fun M24 =>
  dr G 3 ((M24.2 a 10)) fun b25 =>
  ltt ((((25 : Int32)) + p0)) fun x26 =>
  ltt ((s6.1 + ((1 : Int32)))) fun x27 =>
  dr G 13 ((M24.2 b25 0)) fun b28 =>
  chk (¬ (x26 < 0 ∨ G.2.2 b28 ≤ x26.toNatClampNeg)) <|
  ltt (uI M24 b28 x26.toNatClampNeg x27) fun M29 =>
  ltt (s6.1 + (1 : Int32)) fun x30 =>
  some (.inl (x30, M29))))) : Option ((Int32 × DD) ⊕ ((Int32 × DD) ⊕ (DD))))) 1000000 ((0 : Int32), y3.1)) fun (y5 : (Int32 × DD) ⊕ (DD)) =>
  sel y5 (fun (z5k : Int32 × DD) =>
  some z5k.2) fun r9 => some r9)
set_option maxHeartbeats 4000000 in
set_option maxRecDepth 100000 in
theorem kX1_readMoves (l : Launch) (D : va_G) (ct : CT) (ad : Nat → Nat) (Z : Nat → Nat) (G : GG) (M : DD) (sz : Nat) (a : Nat) (p0 : Int32) (p1 : Int32) (y : DD) (hc : a < G.1) (hk : G.2.1 a = 1) (hF : FX1_readMoves G M a p0 p1 = some y) : Met l yX1_readMoves wuX1_readMoves ({ frames := 3, cells := 0, slots := 0, locals := 80 }) (va_Pc [.ref (ad a), .int p0, .int p1] (kB D ct ad Z G M sz)) (va_Qv (fun (_ : Unit) => True) (fun _ t => kE D ct ad G (wA ad G sz) y t) (wA ad G sz)) 0 0 (wA ad G sz) := by
  refine Met.ofW (cc := cX1_readMoves) (maxL := 6) (ret := none) (by decide) rfl ?_
  intro p e s m args below meth c s₁ B hml hv
  obtain ⟨rfl, hsz, hP, hK, hD0, hZ, hN⟩ := hv
  have hx := B.exec
  have hb := B.bytes
  have hr := B.returns
  have hts := atoms_spec (ws := wuX1_readMoves) B.pre
  have hown : s.vm.findClass RX1 = some m.cls := findClass_of_methodNamed B.named
  have hlocks := B.notSynchronized
  subst hsz
  have hD := wD_self (sz := s.heap.size) hD0
  have hA9 : ∀ q, s.heap.size ≤ q → wA ad G s.heap.size q := fun q h => Or.inr h
  generalize hAe : wA ad G s.heap.size = A at hD hA9 hZ ⊢
  have hS : va_S A s.heap s.heap [] := va_S.rf
  have hl := lv_entry ([.ref (ad a), .int p0, .int p1]) (n := 6) (Nat.le_of_ble_eq_true rfl)
  rw [lg_entry_eq]
  generalize (lg_sl ([.ref (ad a), .int p0, .int p1]) ++ List.replicate (6 - (lg_sl ([.ref (ad a), .int p0, .int p1])).length) Slot.unset).toArray = ls at hl ⊢
  have hl : lv_has ls 6 [(0, .ref (ad a)), (1, .int p0), (2, .int p1)] := hl
  unfold FX1_readMoves at hF
  refine lv_aload_n hx hb dX1_readMoves_0 rfl (lv_at hl 0 rfl) ?_
  refine va_get (D := D) (ci := 1) (v := va_re ad (M.2 a 0)) (C := RX1) (T := TX1) (N := 22) hx hb hts (mus hf_X1) hown hK hP a (wld_o ct ad G M hc hk (by decide)) rfl 0 (by decide) (hts (.fieldLink RX1 12 "VideoSuite$Decoder" "reader" "LVideoSuite$Reader;") (mu mw_640)) (fun _ h9 => h9) rfl dX1_readMoves_1 ?_
  refine lv_iconst (v := (0 : Int32)) hx hb dX1_readMoves_4 (by decide) ?_
  refine lv_iconst (v := (1 : Int32)) hx hb dX1_readMoves_5 (by decide) ?_
  obtain ⟨b2, ho2, hc2, hk2, hF⟩ := dr_some hF
  refine W_st (st' := [.int (1 : Int32), .int (0 : Int32), .ref (ad b2)]) (by rw [va_some ho2]) ?_
  obtain ⟨y3, hy3, hF⟩ := bnd_some hF
  have hf9 := wA_in hD hA9 hS
  refine va_calli (va_runV (As := [.int (0 : Int32), .int (1 : Int32)]) (rest := []) ⟨hx, hb, hml, hown, hts⟩ (kX5_fixed l D ct ad Z G M s.heap.size b2 ((0 : Int32)) ((1 : Int32)) y3 hc2 hk2 hy3) (cwV 2 hts gX1_readMoves_X5_fixed rfl rfl rfl (by decide +kernel) ⟨Nat.le_of_ble_eq_true rfl, Nat.le_of_ble_eq_true rfl⟩) ⟨fun a U g mk q => by obtain ⟨q0, q1, qP, qK, qD, qZ, qN⟩ := q; exact ⟨q0, q1, qP, va_K.moved (u := U) (U := U.calling g mk a) (Vm.Alike.refl U.vm) qK, qD, sF.moved (u := U) (U := U.calling g mk a) (Vm.Alike.refl U.vm) qZ, nF.same rfl qN⟩, va_recv hK hP (ci := 5) (q0 := b2) rfl (wld_o ct ad G M hc2 hk2 (by decide)), fun U hU hW => ⟨rfl, by rw [hU], by rw [hU]; exact hP, va_K.moved hW.alike hK, hD.weaken (fun _ _ _ _ => trivial), by rw [hU]; exact ((hZ.kept hS.2.1).narrow hf9).moved hW.alike, hN.warm hW⟩⟩ rfl rfl hl.1 rfl (lv_room (Nat.le_of_ble_eq_true rfl)) dX1_readMoves_6 ⟨(Nat.zero_le _), (Nat.zero_le _)⟩) hS (fun q _ h => hf9 q h) hf9 (fun r u t H locs ht hvm hw hB hz1 hk1 hS => ?_)
  obtain ⟨hP, hK9, hD9⟩ := hB
  rw [ht] at hP
  try dsimp only at hw
  subst hw
  have hD := hD9.weaken (fun _ q _ h => hf9 q.1 h)
  refine lv_if_ne (tgt := 13) hx hb dX1_readMoves_9 (by decide) (fun c4 => ?_) (fun c4 => ?_)
  · rw [if_neg c4] at hF
    refine lv_iconst (v := (0 : Int32)) hx hb dX1_readMoves_13 (by decide) ?_
    refine lv_istore_n (lv' := [(3, .int (0 : Int32)), (0, .ref (ad a)), (1, .int p0), (2, .int p1)]) hx hb dX1_readMoves_14 rfl hl (by decide) rfl (fun ls hl => ?_)
    obtain ⟨y5, hy5, hF⟩ := bnd_some hF
    have K5 : ∀ z5k : Int32 × DD, y5 = .inl z5k → ∀ (H : Heap) (locs : List Loc) (ls : Array Slot), va_P D classes (wld ct ad G z5k.2) H → va_D A (wld ct ad G z5k.2) → va_S A s.heap H locs → lv_has ls 6 [(3, .int z5k.1), (0, .ref (ad a)), (1, .int p0), (2, .int p1)] → W p l e (headSpec wuX1_readMoves ({ frames := 3, cells := 0, slots := 0, locals := 80 })).room s m ([.ref (ad a), .int p0, .int p1] : List Value).toArray below meth c H locs 0 0 (MQ below (va_Qv (fun (_ : Unit) => True) (fun _ t => kE D ct ad G A y t) A) ([.ref (ad a), .int p0, .int p1] : List Value).toArray s 0 0 A) (F0 m 128 ls []) := by
      intro z5k hz5 H locs ls hP hD hS hl
      have hF := sel_inl (hz5 ▸ hF)
      obtain rfl := Option.some.inj hF
      exact W.vret hx hb hr (fun t ht hW => ⟨⟨(), rfl, trivial, ⟨by rw [ht]; exact hP, va_K.moved hW.alike hK, hD⟩⟩, hS.F ht⟩) hS.2.2 dX1_readMoves_128
    have hR5 := hF
    clear hF
    refine itr_rule (fun (s6 : Int32 × DD) => ∀ (H : Heap) (locs : List Loc) (ls : Array Slot), va_P D classes (wld ct ad G s6.2) H → va_D A (wld ct ad G s6.2) → va_S A s.heap H locs → lv_has ls 6 [(3, .int s6.1), (0, .ref (ad a)), (1, .int p0), (2, .int p1)] → W p l e (headSpec wuX1_readMoves ({ frames := 3, cells := 0, slots := 0, locals := 80 })).room s m ([.ref (ad a), .int p0, .int p1] : List Value).toArray below meth c H locs 0 0 (MQ below (va_Qv (fun (_ : Unit) => True) (fun _ t => kE D ct ad G A y t) A) ([.ref (ad a), .int p0, .int p1] : List Value).toArray s 0 0 A) (F0 m 15 ls [])) ?_ _ _ hy5 _ _ _ hP hD hS (lv_sub hl [0, 1, 2, 3] rfl)
    rintro s6 ⟨z8, hF, hwz8⟩ H locs ls hP hD hS hl
    try dsimp only at hF
    refine lv_iload_n hx hb dX1_readMoves_15 rfl (lv_at hl 0 rfl) ?_
    refine lv_bipush (v := (8 : Int32)) hx hb dX1_readMoves_16 (by decide) ?_
    refine lv_icmp_gt (tgt := 128) hx hb dX1_readMoves_18 (by decide) (fun c9 => ?_) (fun c9 => ?_)
    · rw [if_pos c9] at hF
      obtain rfl := Option.some.inj hF
      exact K5 _ hwz8.symm _ _ _ hP hD hS (lv_sub hl [0, 1, 2, 3] rfl)
    · rw [if_neg c9] at hF
      refine lv_aload_n hx hb dX1_readMoves_21 rfl (lv_at hl 1 rfl) ?_
      refine lv_iconst (v := (3 : Int32)) hx hb dX1_readMoves_22 (by decide) ?_
      obtain ⟨y10, hy10, hF⟩ := bnd_some hF
      have hf9 := wA_in hD hA9 hS
      refine va_calli (va_runV (As := [.int (3 : Int32)]) (rest := []) ⟨hx, hb, hml, hown, hts⟩ (kX1_unsigned l D ct ad Z G s6.2 H.size a ((3 : Int32)) y10 hc hk hy10) (cwV 1 hts gX1_readMoves_X1_unsigned rfl rfl rfl (by decide +kernel) ⟨Nat.le_of_ble_eq_true rfl, Nat.le_of_ble_eq_true rfl⟩) ⟨fun a U g mk q => by obtain ⟨q0, q1, qP, qK, qD, qZ, qN⟩ := q; exact ⟨q0, q1, qP, va_K.moved (u := U) (U := U.calling g mk a) (Vm.Alike.refl U.vm) qK, qD, sF.moved (u := U) (U := U.calling g mk a) (Vm.Alike.refl U.vm) qZ, nF.same rfl qN⟩, va_recv hK hP (ci := 1) (q0 := a) rfl (wld_o ct ad G s6.2 hc hk (by decide)), fun U hU hW => ⟨rfl, by rw [hU], by rw [hU]; exact hP, va_K.moved hW.alike hK, hD.weaken (fun _ _ _ _ => trivial), by rw [hU]; exact ((hZ.kept hS.2.1).narrow hf9).moved hW.alike, hN.warm hW⟩⟩ rfl rfl hl.1 rfl (lv_room (Nat.le_of_ble_eq_true rfl)) dX1_readMoves_23 ⟨(Nat.zero_le _), (Nat.zero_le _)⟩) hS (fun q _ h => hf9 q h) hf9 (fun r u t H locs ht hvm hw hB hz1 hk1 hS => ?_)
      obtain ⟨hP, hK9, hD9⟩ := hB
      rw [ht] at hP
      try dsimp only at hw
      subst hw
      have hD := hD9.weaken (fun _ q _ h => hf9 q.1 h)
      refine lv_istore (lv' := [(4, .int y10.2), (3, .int s6.1), (0, .ref (ad a)), (1, .int p0), (2, .int p1)]) hx hb dX1_readMoves_26 hl (by decide) rfl (fun ls hl => ?_)
      refine lv_iload hx hb dX1_readMoves_28 (lv_at hl 0 rfl) ?_
      refine lv_iconst (v := (3 : Int32)) hx hb dX1_readMoves_30 (by decide) ?_
      refine lv_icmp_ne (tgt := 35) hx hb dX1_readMoves_31 (by decide) (fun c11 => ?_) (fun c11 => ?_)
      · rw [if_neg c11] at hF
        refine lv_iload_n hx hb dX1_readMoves_35 rfl (lv_at hl 1 rfl) ?_
        refine lv_bipush (v := (8 : Int32)) hx hb dX1_readMoves_36 (by decide) ?_
        obtain ⟨y12, hy12, hF⟩ := bnd_some hF
        have J12 : ∀ (H : Heap) (locs : List Loc) (ls : Array Slot), va_P D classes (wld ct ad G y12) H → va_D A (wld ct ad G y12) → va_S A s.heap H locs → lv_has ls 6 [(4, .int y10.2), (3, .int s6.1), (0, .ref (ad a)), (1, .int p0), (2, .int p1)] → W p l e (headSpec wuX1_readMoves ({ frames := 3, cells := 0, slots := 0, locals := 80 })).room s m ([.ref (ad a), .int p0, .int p1] : List Value).toArray below meth c H locs 0 0 (MQ below (va_Qv (fun (_ : Unit) => True) (fun _ t => kE D ct ad G A y t) A) ([.ref (ad a), .int p0, .int p1] : List Value).toArray s 0 0 A) (F0 m 56 ls []) := by
          intro H locs ls hP hD hS hl
          refine lv_iconst (v := (2 : Int32)) hx hb dX1_readMoves_56 (by decide) ?_
          refine lv_bipush (v := (8 : Int32)) hx hb dX1_readMoves_57 (by decide) ?_
          refine lv_iload_n hx hb dX1_readMoves_59 rfl (lv_at hl 3 rfl) ?_
          refine lv_imul hx hb dX1_readMoves_60 ?_
          obtain ⟨x13, ex13, hF⟩ := ltt_some hF
          refine lv_topi (fun zx13 ezx13 => ?_)
          obtain rfl : x13 = zx13 := ex13.trans ezx13.symm
          refine lv_iload_n hx hb dX1_readMoves_61 rfl (lv_at hl 1 rfl) ?_
          refine lv_iadd hx hb dX1_readMoves_62 ?_
          obtain ⟨x14, ex14, hF⟩ := ltt_some hF
          refine lv_topi (fun zx14 ezx14 => ?_)
          obtain rfl : x14 = zx14 := ex14.trans ezx14.symm
          refine lv_imul hx hb dX1_readMoves_63 ?_
          obtain ⟨x15, ex15, hF⟩ := ltt_some hF
          refine lv_topi (fun zx15 ezx15 => ?_)
          obtain rfl : x15 = zx15 := ex15.trans ezx15.symm
          refine lv_istore (lv' := [(5, .int x15), (4, .int y10.2), (3, .int s6.1), (0, .ref (ad a)), (1, .int p0), (2, .int p1)]) hx hb dX1_readMoves_64 hl (by decide) rfl (fun ls hl => ?_)
          refine lv_aload_n hx hb dX1_readMoves_66 rfl (lv_at hl 3 rfl) ?_
          refine va_get (D := D) (ci := 1) (v := va_re ad (y12.2 a 10)) (C := RX1) (T := TX1) (N := 22) hx hb hts (mus hf_X1) hown hK hP a (wld_o ct ad G y12 hc hk (by decide)) rfl 10 (by decide) (hts (.fieldLink RX1 68 "VideoSuite$Decoder" "head" "LVideoSuite$Header;") (mu mw_652)) (fun _ h9 => h9) rfl dX1_readMoves_67 ?_
          obtain ⟨b16, ho16, hc16, hk16, hF⟩ := dr_some hF
          refine W_st (st' := [.ref (ad b16)]) (by rw [va_some ho16]) ?_
          refine va_get (D := D) (ci := 3) (v := va_re ad (y12.2 b16 1)) (C := RX3) (T := TX3) (N := 4) hx hb hts (mus hf_X3) hown hK hP b16 (wld_o ct ad G y12 hc16 hk16 (by decide)) rfl 1 (by decide) (hts (.fieldLink RX1 243 "VideoSuite$Header" "move" "[I") (mu mw_623)) (fun _ h9 => h9) rfl dX1_readMoves_70 ?_
          refine lv_iload hx hb dX1_readMoves_73 (lv_at hl 0 rfl) ?_
          refine lv_iload hx hb dX1_readMoves_75 (lv_at hl 1 rfl) ?_
          obtain ⟨b17, ho17, hc17, hk17, hF⟩ := dr_some hF
          refine W_st (st' := [.int y10.2, .int x15, .ref (ad b17)]) (by rw [va_some ho17]) ?_
          obtain ⟨hvc, hF⟩ := chk_some hF
          refine va_iast hx hb hK hP hD hS b17 1 (wld_i ct ad G y12 hc17 hk17) rfl hvc dX1_readMoves_77 (fun H locs hP hD hS => ?_)
          obtain ⟨M18, eM18, hF⟩ := ltt_some hF
          rw [set_i ct ad G y12 hc17 hk17, ← eM18] at hP hD
          refine lv_aload_n hx hb dX1_readMoves_78 rfl (lv_at hl 3 rfl) ?_
          refine va_get (D := D) (ci := 1) (v := va_re ad (M18.2 a 10)) (C := RX1) (T := TX1) (N := 22) hx hb hts (mus hf_X1) hown hK hP a (wld_o ct ad G M18 hc hk (by decide)) rfl 10 (by decide) (hts (.fieldLink RX1 68 "VideoSuite$Decoder" "head" "LVideoSuite$Header;") (mu mw_652)) (fun _ h9 => h9) rfl dX1_readMoves_79 ?_
          obtain ⟨b19, ho19, hc19, hk19, hF⟩ := dr_some hF
          refine W_st (st' := [.ref (ad b19)]) (by rw [va_some ho19]) ?_
          refine va_get (D := D) (ci := 3) (v := va_re ad (M18.2 b19 1)) (C := RX3) (T := TX3) (N := 4) hx hb hts (mus hf_X3) hown hK hP b19 (wld_o ct ad G M18 hc19 hk19 (by decide)) rfl 1 (by decide) (hts (.fieldLink RX1 243 "VideoSuite$Header" "move" "[I") (mu mw_623)) (fun _ h9 => h9) rfl dX1_readMoves_82 ?_
          refine lv_iload hx hb dX1_readMoves_85 (lv_at hl 0 rfl) ?_
          refine lv_iconst (v := (1 : Int32)) hx hb dX1_readMoves_87 (by decide) ?_
          refine lv_iadd hx hb dX1_readMoves_88 ?_
          obtain ⟨x20, ex20, hF⟩ := ltt_some hF
          refine lv_topi (fun zx20 ezx20 => ?_)
          obtain rfl : x20 = zx20 := ex20.trans ezx20.symm
          refine lv_aload_n hx hb dX1_readMoves_89 rfl (lv_at hl 3 rfl) ?_
          refine lv_iload hx hb dX1_readMoves_90 (lv_at hl 1 rfl) ?_
          refine lv_iconst (v := (2 : Int32)) hx hb dX1_readMoves_92 (by decide) ?_
          obtain ⟨y21, hy21, hF⟩ := bnd_some hF
          have J21 : ∀ (H : Heap) (locs : List Loc) (ls : Array Slot), va_P D classes (wld ct ad G M18) H → va_D A (wld ct ad G M18) → va_S A s.heap H locs → lv_has ls 6 [(5, .int x15), (4, .int y10.2), (3, .int s6.1), (0, .ref (ad a)), (1, .int p0), (2, .int p1)] → W p l e (headSpec wuX1_readMoves ({ frames := 3, cells := 0, slots := 0, locals := 80 })).room s m ([.ref (ad a), .int p0, .int p1] : List Value).toArray below meth c H locs 0 0 (MQ below (va_Qv (fun (_ : Unit) => True) (fun _ t => kE D ct ad G A y t) A) ([.ref (ad a), .int p0, .int p1] : List Value).toArray s 0 0 A) (F0 m 103 ls [.int y21, .ref (ad a), .int x20, va_re ad (M18.2 b19 1)]) := by
            intro H locs ls hP hD hS hl
            obtain ⟨y22, hy22, hF⟩ := bnd_some hF
            have hf9 := wA_in hD hA9 hS
            refine va_calli (va_runV (As := [.int y21]) (rest := [.int x20, va_re ad (M18.2 b19 1)]) ⟨hx, hb, hml, hown, hts⟩ (kX1_unsigned l D ct ad Z G M18 H.size a y21 y22 hc hk hy22) (cwV 1 hts gX1_readMoves_X1_unsigned rfl rfl rfl (by decide +kernel) ⟨Nat.le_of_ble_eq_true rfl, Nat.le_of_ble_eq_true rfl⟩) ⟨fun a U g mk q => by obtain ⟨q0, q1, qP, qK, qD, qZ, qN⟩ := q; exact ⟨q0, q1, qP, va_K.moved (u := U) (U := U.calling g mk a) (Vm.Alike.refl U.vm) qK, qD, sF.moved (u := U) (U := U.calling g mk a) (Vm.Alike.refl U.vm) qZ, nF.same rfl qN⟩, va_recv hK hP (ci := 1) (q0 := a) rfl (wld_o ct ad G M18 hc hk (by decide)), fun U hU hW => ⟨rfl, by rw [hU], by rw [hU]; exact hP, va_K.moved hW.alike hK, hD.weaken (fun _ _ _ _ => trivial), by rw [hU]; exact ((hZ.kept hS.2.1).narrow hf9).moved hW.alike, hN.warm hW⟩⟩ rfl rfl hl.1 rfl (lv_room (by simp only [List.map, va_re_cat]; exact Nat.le_of_ble_eq_true rfl)) dX1_readMoves_103 ⟨(Nat.zero_le _), (Nat.zero_le _)⟩) hS (fun q _ h => hf9 q h) hf9 (fun r u t H locs ht hvm hw hB hz1 hk1 hS => ?_)
            obtain ⟨hP, hK9, hD9⟩ := hB
            rw [ht] at hP
            try dsimp only at hw
            subst hw
            have hD := hD9.weaken (fun _ q _ h => hf9 q.1 h)
            obtain ⟨b23, ho23, hc23, hk23, hF⟩ := dr_some hF
            refine W_st (st' := [.int y22.2, .int x20, .ref (ad b23)]) (by rw [va_some ho23]) ?_
            obtain ⟨hvc, hF⟩ := chk_some hF
            refine va_iast hx hb hK hP hD hS b23 1 (wld_i ct ad G y22.1 hc23 hk23) rfl hvc dX1_readMoves_106 (fun H locs hP hD hS => ?_)
            obtain ⟨M24, eM24, hF⟩ := ltt_some hF
            rw [set_i ct ad G y22.1 hc23 hk23, ← eM24] at hP hD
            refine lv_aload_n hx hb dX1_readMoves_107 rfl (lv_at hl 3 rfl) ?_
            refine va_get (D := D) (ci := 1) (v := va_re ad (M24.2 a 10)) (C := RX1) (T := TX1) (N := 22) hx hb hts (mus hf_X1) hown hK hP a (wld_o ct ad G M24 hc hk (by decide)) rfl 10 (by decide) (hts (.fieldLink RX1 68 "VideoSuite$Decoder" "head" "LVideoSuite$Header;") (mu mw_652)) (fun _ h9 => h9) rfl dX1_readMoves_108 ?_
            obtain ⟨b25, ho25, hc25, hk25, hF⟩ := dr_some hF
            refine W_st (st' := [.ref (ad b25)]) (by rw [va_some ho25]) ?_
            refine va_get (D := D) (ci := 3) (v := va_re ad (M24.2 b25 0)) (C := RX3) (T := TX3) (N := 4) hx hb hts (mus hf_X3) hown hK hP b25 (wld_o ct ad G M24 hc25 hk25 (by decide)) rfl 0 (by decide) (hts (.fieldLink RX1 212 "VideoSuite$Header" "v" "[I") (mu mw_618)) (fun _ h9 => h9) rfl dX1_readMoves_111 ?_
            refine lv_bipush (v := (25 : Int32)) hx hb dX1_readMoves_114 (by decide) ?_
            refine lv_iload_n hx hb dX1_readMoves_116 rfl (lv_at hl 4 rfl) ?_
            refine lv_iadd hx hb dX1_readMoves_117 ?_
            obtain ⟨x26, ex26, hF⟩ := ltt_some hF
            refine lv_topi (fun zx26 ezx26 => ?_)
            obtain rfl : x26 = zx26 := ex26.trans ezx26.symm
            refine lv_iload_n hx hb dX1_readMoves_118 rfl (lv_at hl 2 rfl) ?_
            refine lv_iconst (v := (1 : Int32)) hx hb dX1_readMoves_119 (by decide) ?_
            refine lv_iadd hx hb dX1_readMoves_120 ?_
            obtain ⟨x27, ex27, hF⟩ := ltt_some hF
            refine lv_topi (fun zx27 ezx27 => ?_)
            obtain rfl : x27 = zx27 := ex27.trans ezx27.symm
            obtain ⟨b28, ho28, hc28, hk28, hF⟩ := dr_some hF
            refine W_st (st' := [.int x27, .int x26, .ref (ad b28)]) (by rw [va_some ho28]) ?_
            obtain ⟨hvc, hF⟩ := chk_some hF
            refine va_iast hx hb hK hP hD hS b28 1 (wld_i ct ad G M24 hc28 hk28) rfl hvc dX1_readMoves_121 (fun H locs hP hD hS => ?_)
            obtain ⟨M29, eM29, hF⟩ := ltt_some hF
            rw [set_i ct ad G M24 hc28 hk28, ← eM29] at hP hD
            obtain ⟨x30, ex30, hF⟩ := ltt_some hF
            refine lv_iinc (v := x30) (lv' := [(3, .int x30), (5, .int x15), (4, .int y10.2), (0, .ref (ad a)), (1, .int p0), (2, .int p1)]) hx hb dX1_readMoves_122 hl (k := 2) rfl (by rw [ex30]; rfl) (by decide) rfl (fun ls hl => ?_)
            refine lv_goto (tgt := 15) hx hb dX1_readMoves_125 (by decide) ?_
            obtain rfl := Option.some.inj hF
            exact hwz8 _ _ _ hP hD hS (lv_sub hl [0, 3, 4, 5] rfl)
          clear hF
          have hF := hy21
          clear hy21
          refine lv_icmp_ne (tgt := 100) hx hb dX1_readMoves_93 (by decide) (fun c31 => ?_) (fun c31 => ?_)
          · rw [if_neg c31] at hF
            refine lv_iload_n hx hb dX1_readMoves_100 rfl (lv_at hl 5 rfl) ?_
            refine lv_iconst (v := (1 : Int32)) hx hb dX1_readMoves_101 (by decide) ?_
            refine lv_isub hx hb dX1_readMoves_102 ?_
            obtain ⟨x32, ex32, hF⟩ := ltt_some hF
            refine lv_topi (fun zx32 ezx32 => ?_)
            obtain rfl : x32 = zx32 := ex32.trans ezx32.symm
            obtain rfl := Option.some.inj hF
            exact J21 _ _ _ hP hD hS (lv_sub hl [0, 1, 2, 3, 4, 5] rfl)
          · rw [if_pos c31] at hF
            refine lv_iconst (v := (3 : Int32)) hx hb dX1_readMoves_96 (by decide) ?_
            refine lv_goto (tgt := 103) hx hb dX1_readMoves_97 (by decide) ?_
            obtain rfl := Option.some.inj hF
            exact J21 _ _ _ hP hD hS (lv_sub hl [0, 1, 2, 3, 4, 5] rfl)
        clear hF
        have hF := hy12
        clear hy12
        refine lv_icmp_ne (tgt := 56) hx hb dX1_readMoves_38 (by decide) (fun c33 => ?_) (fun c33 => ?_)
        · rw [if_neg c33] at hF
          obtain rfl := Option.some.inj hF
          exact J12 _ _ _ hP hD hS (lv_sub hl [0, 1, 2, 3, 4] rfl)
        · rw [if_pos c33] at hF
          refine lv_aload_n hx hb dX1_readMoves_41 rfl (lv_at hl 2 rfl) ?_
          refine va_get (D := D) (ci := 1) (v := va_re ad (y10.1.2 a 0)) (C := RX1) (T := TX1) (N := 22) hx hb hts (mus hf_X1) hown hK hP a (wld_o ct ad G y10.1 hc hk (by decide)) rfl 0 (by decide) (hts (.fieldLink RX1 12 "VideoSuite$Decoder" "reader" "LVideoSuite$Reader;") (mu mw_640)) (fun _ h9 => h9) rfl dX1_readMoves_42 ?_
          refine lv_iconst (v := (2 : Int32)) hx hb dX1_readMoves_45 (by decide) ?_
          refine lv_aload_n hx hb dX1_readMoves_46 rfl (lv_at hl 2 rfl) ?_
          refine va_get (D := D) (ci := 1) (v := va_re ad (y10.1.2 a 0)) (C := RX1) (T := TX1) (N := 22) hx hb hts (mus hf_X1) hown hK hP a (wld_o ct ad G y10.1 hc hk (by decide)) rfl 0 (by decide) (hts (.fieldLink RX1 12 "VideoSuite$Decoder" "reader" "LVideoSuite$Reader;") (mu mw_640)) (fun _ h9 => h9) rfl dX1_readMoves_47 ?_
          obtain ⟨b34, ho34, hc34, hk34, hF⟩ := dr_some hF
          refine W_st (st' := [.ref (ad b34), .int (2 : Int32), .ref (ad b34)]) (by rw [va_some ho34]) ?_
          refine va_get (D := D) (ci := 5) (v := .int (y10.1.1 b34 4)) (C := RX5) (T := TX5) (N := 17) hx hb hts (mus hf_X5) hown hK hP b34 (wld_o ct ad G y10.1 hc34 hk34 (by decide)) rfl 4 (by decide) (hts (.fieldLink RX1 194 "VideoSuite$Reader" "begin" "I") (mu mw_293)) (fun _ h9 => h9) rfl dX1_readMoves_50 ?_
          obtain ⟨x35, ex35, hF⟩ := ltt_some hF
          refine lv_topi (fun zx35 ezx35 => ?_)
          obtain rfl : x35 = zx35 := ex35.trans ezx35.symm
          cases hF
      · rw [if_pos c11] at hF
        obtain rfl := Option.some.inj hF
        have hF := sel_inr (hwz8 ▸ hR5)
        obtain rfl := Option.some.inj hF
        exact W.vret hx hb hr (fun t ht hW => ⟨⟨(), rfl, trivial, ⟨by rw [ht]; exact hP, va_K.moved hW.alike hK, hD⟩⟩, hS.F ht⟩) hS.2.2 dX1_readMoves_34
  · rw [if_pos c4] at hF
    obtain rfl := Option.some.inj hF
    exact W.vret hx hb hr (fun t ht hW => ⟨⟨(), rfl, trivial, ⟨by rw [ht]; exact hP, va_K.moved hW.alike hK, hD⟩⟩, hS.F ht⟩) hS.2.2 dX1_readMoves_12
set_option maxRecDepth 20000 in
theorem gX1_readOrder_X1_signed : GoodIn wuX1_readOrder (wsV RX1 209 RX1 yX1_signed wuX1_signed) := gu_V mw_1364 mw_1366 mw_36 mw_168 mw_1367
set_option maxRecDepth 20000 in
theorem gX1_readOrder_X5_fixed : GoodIn wuX1_readOrder (wsV RX1 183 RX5 yX5_fixed wuX5_fixed) := gu_V mw_1355 mw_1356 mw_1357 mw_169 mw_1358
set_option maxRecDepth 20000 in
theorem dX1_readOrder_0 : decode cX1_readOrder 0 = .ok (.aload_n 0, 1) := by decide +kernel
theorem dX1_readOrder_1 : decode cX1_readOrder 1 = .ok (.getfield 68, 3) := by decide +kernel
theorem dX1_readOrder_4 : decode cX1_readOrder 4 = .ok (.getfield 212, 3) := by decide +kernel
theorem dX1_readOrder_7 : decode cX1_readOrder 7 = .ok (.astore_n 3, 1) := by decide +kernel
theorem dX1_readOrder_8 : decode cX1_readOrder 8 = .ok (.aload_n 1, 1) := by decide +kernel
theorem dX1_readOrder_9 : decode cX1_readOrder 9 = .ok (.iconst 3, 1) := by decide +kernel
theorem dX1_readOrder_10 : decode cX1_readOrder 10 = .ok (.iaload, 1) := by decide +kernel
theorem dX1_readOrder_11 : decode cX1_readOrder 11 = .ok (.ifCond .ne 41, 3) := by decide +kernel
theorem dX1_readOrder_14 : decode cX1_readOrder 14 = .ok (.aload_n 3, 1) := by decide +kernel
theorem dX1_readOrder_15 : decode cX1_readOrder 15 = .ok (.iconst 5, 1) := by decide +kernel
theorem dX1_readOrder_16 : decode cX1_readOrder 16 = .ok (.aload_n 0, 1) := by decide +kernel
theorem dX1_readOrder_17 : decode cX1_readOrder 17 = .ok (.getfield 12, 3) := by decide +kernel
theorem dX1_readOrder_20 : decode cX1_readOrder 20 = .ok (.iconst 0, 1) := by decide +kernel
theorem dX1_readOrder_21 : decode cX1_readOrder 21 = .ok (.aload_n 1, 1) := by decide +kernel
theorem dX1_readOrder_22 : decode cX1_readOrder 22 = .ok (.iconst 4, 1) := by decide +kernel
theorem dX1_readOrder_23 : decode cX1_readOrder 23 = .ok (.iaload, 1) := by decide +kernel
theorem dX1_readOrder_24 : decode cX1_readOrder 24 = .ok (.invokevirtual 183, 3) := by decide +kernel
theorem dX1_readOrder_27 : decode cX1_readOrder 27 = .ok (.iastore, 1) := by decide +kernel
theorem dX1_readOrder_28 : decode cX1_readOrder 28 = .ok (.aload_n 2, 1) := by decide +kernel
theorem dX1_readOrder_29 : decode cX1_readOrder 29 = .ok (.iconst 2, 1) := by decide +kernel
theorem dX1_readOrder_30 : decode cX1_readOrder 30 = .ok (.iaload, 1) := by decide +kernel
theorem dX1_readOrder_31 : decode cX1_readOrder 31 = .ok (.iconst 1, 1) := by decide +kernel
theorem dX1_readOrder_32 : decode cX1_readOrder 32 = .ok (.if_icmp .ne 69, 3) := by decide +kernel
theorem dX1_readOrder_35 : decode cX1_readOrder 35 = .ok (.aload_n 3, 1) := by decide +kernel
theorem dX1_readOrder_36 : decode cX1_readOrder 36 = .ok (.bipush 6, 2) := by decide +kernel
theorem dX1_readOrder_38 : decode cX1_readOrder 38 = .ok (.aload_n 0, 1) := by decide +kernel
theorem dX1_readOrder_39 : decode cX1_readOrder 39 = .ok (.sipush (-32768), 3) := by decide +kernel
theorem dX1_readOrder_42 : decode cX1_readOrder 42 = .ok (.sipush 32767, 3) := by decide +kernel
theorem dX1_readOrder_45 : decode cX1_readOrder 45 = .ok (.invokevirtual 209, 3) := by decide +kernel
theorem dX1_readOrder_48 : decode cX1_readOrder 48 = .ok (.iastore, 1) := by decide +kernel
theorem dX1_readOrder_49 : decode cX1_readOrder 49 = .ok (.goto 52, 3) := by decide +kernel
theorem dX1_readOrder_52 : decode cX1_readOrder 52 = .ok (.aload_n 1, 1) := by decide +kernel
theorem dX1_readOrder_53 : decode cX1_readOrder 53 = .ok (.iconst 3, 1) := by decide +kernel
theorem dX1_readOrder_54 : decode cX1_readOrder 54 = .ok (.iaload, 1) := by decide +kernel
theorem dX1_readOrder_55 : decode cX1_readOrder 55 = .ok (.iconst 1, 1) := by decide +kernel
theorem dX1_readOrder_56 : decode cX1_readOrder 56 = .ok (.if_icmp .ne 45, 3) := by decide +kernel
theorem dX1_readOrder_59 : decode cX1_readOrder 59 = .ok (.aload_n 1, 1) := by decide +kernel
theorem dX1_readOrder_60 : decode cX1_readOrder 60 = .ok (.bipush 11, 2) := by decide +kernel
theorem dX1_readOrder_62 : decode cX1_readOrder 62 = .ok (.iaload, 1) := by decide +kernel
theorem dX1_readOrder_63 : decode cX1_readOrder 63 = .ok (.ifCond .ne 38, 3) := by decide +kernel
theorem dX1_readOrder_66 : decode cX1_readOrder 66 = .ok (.aload_n 3, 1) := by decide +kernel
theorem dX1_readOrder_67 : decode cX1_readOrder 67 = .ok (.bipush 6, 2) := by decide +kernel
theorem dX1_readOrder_69 : decode cX1_readOrder 69 = .ok (.aload_n 0, 1) := by decide +kernel
theorem dX1_readOrder_70 : decode cX1_readOrder 70 = .ok (.sipush (-32768), 3) := by decide +kernel
theorem dX1_readOrder_73 : decode cX1_readOrder 73 = .ok (.sipush 32767, 3) := by decide +kernel
theorem dX1_readOrder_76 : decode cX1_readOrder 76 = .ok (.invokevirtual 209, 3) := by decide +kernel
theorem dX1_readOrder_79 : decode cX1_readOrder 79 = .ok (.iastore, 1) := by decide +kernel
theorem dX1_readOrder_80 : decode cX1_readOrder 80 = .ok (.aload_n 2, 1) := by decide +kernel
theorem dX1_readOrder_81 : decode cX1_readOrder 81 = .ok (.iconst 2, 1) := by decide +kernel
theorem dX1_readOrder_82 : decode cX1_readOrder 82 = .ok (.iaload, 1) := by decide +kernel
theorem dX1_readOrder_83 : decode cX1_readOrder 83 = .ok (.iconst 1, 1) := by decide +kernel
theorem dX1_readOrder_84 : decode cX1_readOrder 84 = .ok (.if_icmp .ne 17, 3) := by decide +kernel
theorem dX1_readOrder_87 : decode cX1_readOrder 87 = .ok (.aload_n 3, 1) := by decide +kernel
theorem dX1_readOrder_88 : decode cX1_readOrder 88 = .ok (.bipush 7, 2) := by decide +kernel
theorem dX1_readOrder_90 : decode cX1_readOrder 90 = .ok (.aload_n 0, 1) := by decide +kernel
theorem dX1_readOrder_91 : decode cX1_readOrder 91 = .ok (.sipush (-32768), 3) := by decide +kernel
theorem dX1_readOrder_94 : decode cX1_readOrder 94 = .ok (.sipush 32767, 3) := by decide +kernel
theorem dX1_readOrder_97 : decode cX1_readOrder 97 = .ok (.invokevirtual 209, 3) := by decide +kernel
theorem dX1_readOrder_100 : decode cX1_readOrder 100 = .ok (.iastore, 1) := by decide +kernel
theorem dX1_readOrder_101 : decode cX1_readOrder 101 = .ok (.return_, 1) := by decide +kernel
def FX1_readOrder (G : GG) (M : DD) (a : Nat) (p0 : Option Nat) (p1 : Option Nat) : Option (DD) :=
  dr G 3 ((M.2 a 10)) fun b2 =>
  dr G 13 p0 fun b3 =>
  chk (¬ (((3 : Int32)) < 0 ∨ G.2.2 b3 ≤ ((3 : Int32)).toNatClampNeg)) <|
  ltt (M.1 b3 ((3 : Int32)).toNatClampNeg) fun x4 =>
  bnd (if x4 = ((0 : Int32)) then (chk (¬ (((4 : Int32)) < 0 ∨ G.2.2 b3 ≤ ((4 : Int32)).toNatClampNeg)) <|
  ltt (M.1 b3 ((4 : Int32)).toNatClampNeg) fun x22 =>
  dr G 5 ((M.2 a 0)) fun b23 =>
  bnd (FX5_fixed G M b23 ((0 : Int32)) x22) fun y24 =>
  dr G 13 ((M.2 b2 0)) fun b25 =>
  chk (¬ (((5 : Int32)) < 0 ∨ G.2.2 b25 ≤ ((5 : Int32)).toNatClampNeg)) <|
  ltt (uI y24.1 b25 ((5 : Int32)).toNatClampNeg y24.2) fun M26 =>
  dr G 13 p1 fun b27 =>
  chk (¬ (((2 : Int32)) < 0 ∨ G.2.2 b27 ≤ ((2 : Int32)).toNatClampNeg)) <|
  ltt (M26.1 b27 ((2 : Int32)).toNatClampNeg) fun x28 =>
  bnd (if x28 = ((1 : Int32)) then (bnd (FX1_signed G M26 a ((-32768 : Int32)) ((32767 : Int32))) fun y31 =>
  chk (¬ (((6 : Int32)) < 0 ∨ G.2.2 b25 ≤ ((6 : Int32)).toNatClampNeg)) <|
  ltt (uI y31.1 b25 ((6 : Int32)).toNatClampNeg y31.2) fun M32 =>
  some (M32)) else
  (some (M26))) fun (y29 : DD) =>
  some (y29)) else
  (chk (¬ (((3 : Int32)) < 0 ∨ G.2.2 b3 ≤ ((3 : Int32)).toNatClampNeg)) <|
  ltt (M.1 b3 ((3 : Int32)).toNatClampNeg) fun x7 =>
  bnd (if x7 = ((1 : Int32)) then (chk (¬ (((11 : Int32)) < 0 ∨ G.2.2 b3 ≤ ((11 : Int32)).toNatClampNeg)) <|
  ltt (M.1 b3 ((11 : Int32)).toNatClampNeg) fun x10 =>
  bnd (if x10 = ((0 : Int32)) then (bnd (FX1_signed G M a ((-32768 : Int32)) ((32767 : Int32))) fun y13 =>
  dr G 13 ((M.2 b2 0)) fun b14 =>
  chk (¬ (((6 : Int32)) < 0 ∨ G.2.2 b14 ≤ ((6 : Int32)).toNatClampNeg)) <|
  ltt (uI y13.1 b14 ((6 : Int32)).toNatClampNeg y13.2) fun M15 =>
  dr G 13 p1 fun b16 =>
  chk (¬ (((2 : Int32)) < 0 ∨ G.2.2 b16 ≤ ((2 : Int32)).toNatClampNeg)) <|
  ltt (M15.1 b16 ((2 : Int32)).toNatClampNeg) fun x17 =>
  bnd (if x17 = ((1 : Int32)) then (bnd (FX1_signed G M15 a ((-32768 : Int32)) ((32767 : Int32))) fun y20 =>
  chk (¬ (((7 : Int32)) < 0 ∨ G.2.2 b14 ≤ ((7 : Int32)).toNatClampNeg)) <|
  ltt (uI y20.1 b14 ((7 : Int32)).toNatClampNeg y20.2) fun M21 =>
  some (M21)) else
  (some (M15))) fun (y18 : DD) =>
  some (y18)) else
  (some (M))) fun (y11 : DD) =>
  some (y11)) else
  (some (M))) fun (y8 : DD) =>
  some (y8))) fun (y5 : DD) =>
  some y5
set_option maxHeartbeats 4000000 in
set_option maxRecDepth 100000 in
theorem kX1_readOrder (l : Launch) (D : va_G) (ct : CT) (ad : Nat → Nat) (Z : Nat → Nat) (G : GG) (M : DD) (sz : Nat) (a : Nat) (p0 : Option Nat) (p1 : Option Nat) (y : DD) (hc : a < G.1) (hk : G.2.1 a = 1) (hF : FX1_readOrder G M a p0 p1 = some y) : Met l yX1_readOrder wuX1_readOrder ({ frames := 3, cells := 0, slots := 0, locals := 81 }) (va_Pc [.ref (ad a), va_re ad p0, va_re ad p1] (kB D ct ad Z G M sz)) (va_Qv (fun (_ : Unit) => True) (fun _ t => kE D ct ad G (wA ad G sz) y t) (wA ad G sz)) 0 0 (wA ad G sz) := by
  refine Met.ofW (cc := cX1_readOrder) (maxL := 4) (ret := none) (by decide) rfl ?_
  intro p e s m args below meth c s₁ B hml hv
  obtain ⟨rfl, hsz, hP, hK, hD0, hZ, hN⟩ := hv
  have hx := B.exec
  have hb := B.bytes
  have hr := B.returns
  have hts := atoms_spec (ws := wuX1_readOrder) B.pre
  have hown : s.vm.findClass RX1 = some m.cls := findClass_of_methodNamed B.named
  have hlocks := B.notSynchronized
  subst hsz
  have hD := wD_self (sz := s.heap.size) hD0
  have hA9 : ∀ q, s.heap.size ≤ q → wA ad G s.heap.size q := fun q h => Or.inr h
  generalize hAe : wA ad G s.heap.size = A at hD hA9 hZ ⊢
  have hS : va_S A s.heap s.heap [] := va_S.rf
  have hl := lv_entry ([.ref (ad a), va_re ad p0, va_re ad p1]) (n := 4) (by cases p0 <;> cases p1 <;> exact Nat.le_of_ble_eq_true rfl)
  rw [lg_entry_eq]
  generalize (lg_sl ([.ref (ad a), va_re ad p0, va_re ad p1]) ++ List.replicate (4 - (lg_sl ([.ref (ad a), va_re ad p0, va_re ad p1])).length) Slot.unset).toArray = ls at hl ⊢
  have hl : lv_has ls 4 [(0, .ref (ad a)), (1, va_re ad p0), (2, va_re ad p1)] := by have e9 : lv_args 0 [.ref (ad a), va_re ad p0, va_re ad p1] = [(0, .ref (ad a)), (1, va_re ad p0), (2, va_re ad p1)] := (by cases p0 <;> cases p1 <;> rfl); rw [e9] at hl; exact hl
  unfold FX1_readOrder at hF
  refine lv_aload_n hx hb dX1_readOrder_0 rfl (lv_at hl 0 rfl) ?_
  refine va_get (D := D) (ci := 1) (v := va_re ad (M.2 a 10)) (C := RX1) (T := TX1) (N := 22) hx hb hts (mus hf_X1) hown hK hP a (wld_o ct ad G M hc hk (by decide)) rfl 10 (by decide) (hts (.fieldLink RX1 68 "VideoSuite$Decoder" "head" "LVideoSuite$Header;") (mu mw_652)) (fun _ h9 => h9) rfl dX1_readOrder_1 ?_
  obtain ⟨b2, ho2, hc2, hk2, hF⟩ := dr_some hF
  refine W_st (st' := [.ref (ad b2)]) (by rw [va_some ho2]) ?_
  refine va_get (D := D) (ci := 3) (v := va_re ad (M.2 b2 0)) (C := RX3) (T := TX3) (N := 4) hx hb hts (mus hf_X3) hown hK hP b2 (wld_o ct ad G M hc2 hk2 (by decide)) rfl 0 (by decide) (hts (.fieldLink RX1 212 "VideoSuite$Header" "v" "[I") (mu mw_618)) (fun _ h9 => h9) rfl dX1_readOrder_4 ?_
  refine lv_astoreq_n (lv' := [(3, va_re ad (M.2 b2 0)), (0, .ref (ad a)), (1, va_re ad p0), (2, va_re ad p1)]) hx hb dX1_readOrder_7 rfl hl (by decide) (by generalize p1 = o9; cases o9 <;> rfl) (fun ls hl => ?_)
  refine lv_aloadq_n hx hb dX1_readOrder_8 rfl (lv_at hl 2 rfl) ?_
  refine lv_iconst (v := (3 : Int32)) hx hb dX1_readOrder_9 (by decide) ?_
  obtain ⟨b3, ho3, hc3, hk3, hF⟩ := dr_some hF
  refine W_st (st' := [.int (3 : Int32), .ref (ad b3)]) (by rw [va_some ho3]) ?_
  obtain ⟨hvc, hF⟩ := chk_some hF
  refine va_iald hx hb hK hP b3 1 (wld_i ct ad G M hc3 hk3) rfl hvc dX1_readOrder_10 ?_
  obtain ⟨x4, ex4, hF⟩ := ltt_some hF
  refine lv_topi (fun zx4 ezx4 => ?_)
  obtain rfl : x4 = zx4 := ex4.trans ezx4.symm
  obtain ⟨y5, hy5, hF⟩ := bnd_some hF
  have J5 : ∀ (H : Heap) (locs : List Loc) (ls : Array Slot), va_P D classes (wld ct ad G y5) H → va_D A (wld ct ad G y5) → va_S A s.heap H locs → lv_has ls 4 [(3, va_re ad (M.2 b2 0)), (0, .ref (ad a)), (1, va_re ad p0), (2, va_re ad p1)] → W p l e (headSpec wuX1_readOrder ({ frames := 3, cells := 0, slots := 0, locals := 81 })).room s m ([.ref (ad a), va_re ad p0, va_re ad p1] : List Value).toArray below meth c H locs 0 0 (MQ below (va_Qv (fun (_ : Unit) => True) (fun _ t => kE D ct ad G A y t) A) ([.ref (ad a), va_re ad p0, va_re ad p1] : List Value).toArray s 0 0 A) (F0 m 101 ls []) := by
    intro H locs ls hP hD hS hl
    obtain rfl := Option.some.inj hF
    exact W.vret hx hb hr (fun t ht hW => ⟨⟨(), rfl, trivial, ⟨by rw [ht]; exact hP, va_K.moved hW.alike hK, hD⟩⟩, hS.F ht⟩) hS.2.2 dX1_readOrder_101
  clear hF
  have hF := hy5
  clear hy5
  refine lv_if_ne (tgt := 52) hx hb dX1_readOrder_11 (by decide) (fun c6 => ?_) (fun c6 => ?_)
  · rw [if_neg c6] at hF
    refine lv_aloadq_n hx hb dX1_readOrder_52 rfl (lv_at hl 2 rfl) ?_
    refine lv_iconst (v := (3 : Int32)) hx hb dX1_readOrder_53 (by decide) ?_
    refine W_st (st' := [.int (3 : Int32), .ref (ad b3)]) (by rw [va_some ho3]) ?_
    obtain ⟨hvc, hF⟩ := chk_some hF
    refine va_iald hx hb hK hP b3 1 (wld_i ct ad G M hc3 hk3) rfl hvc dX1_readOrder_54 ?_
    obtain ⟨x7, ex7, hF⟩ := ltt_some hF
    refine lv_topi (fun zx7 ezx7 => ?_)
    obtain rfl : x7 = zx7 := ex7.trans ezx7.symm
    refine lv_iconst (v := (1 : Int32)) hx hb dX1_readOrder_55 (by decide) ?_
    obtain ⟨y8, hy8, hF⟩ := bnd_some hF
    have J8 : ∀ (H : Heap) (locs : List Loc) (ls : Array Slot), va_P D classes (wld ct ad G y8) H → va_D A (wld ct ad G y8) → va_S A s.heap H locs → lv_has ls 4 [(3, va_re ad (M.2 b2 0)), (0, .ref (ad a)), (1, va_re ad p0), (2, va_re ad p1)] → W p l e (headSpec wuX1_readOrder ({ frames := 3, cells := 0, slots := 0, locals := 81 })).room s m ([.ref (ad a), va_re ad p0, va_re ad p1] : List Value).toArray below meth c H locs 0 0 (MQ below (va_Qv (fun (_ : Unit) => True) (fun _ t => kE D ct ad G A y t) A) ([.ref (ad a), va_re ad p0, va_re ad p1] : List Value).toArray s 0 0 A) (F0 m 101 ls []) := by
      intro H locs ls hP hD hS hl
      obtain rfl := Option.some.inj hF
      exact J5 _ _ _ hP hD hS (lv_sub hl [0, 1, 2, 3] rfl)
    clear hF
    have hF := hy8
    clear hy8
    refine lv_icmp_ne (tgt := 101) hx hb dX1_readOrder_56 (by decide) (fun c9 => ?_) (fun c9 => ?_)
    · rw [if_neg c9] at hF
      obtain rfl := Option.some.inj hF
      exact J8 _ _ _ hP hD hS (lv_sub hl [0, 1, 2, 3] rfl)
    · rw [if_pos c9] at hF
      refine lv_aloadq_n hx hb dX1_readOrder_59 rfl (lv_at hl 2 rfl) ?_
      refine lv_bipush (v := (11 : Int32)) hx hb dX1_readOrder_60 (by decide) ?_
      refine W_st (st' := [.int (11 : Int32), .ref (ad b3)]) (by rw [va_some ho3]) ?_
      obtain ⟨hvc, hF⟩ := chk_some hF
      refine va_iald hx hb hK hP b3 1 (wld_i ct ad G M hc3 hk3) rfl hvc dX1_readOrder_62 ?_
      obtain ⟨x10, ex10, hF⟩ := ltt_some hF
      refine lv_topi (fun zx10 ezx10 => ?_)
      obtain rfl : x10 = zx10 := ex10.trans ezx10.symm
      obtain ⟨y11, hy11, hF⟩ := bnd_some hF
      have J11 : ∀ (H : Heap) (locs : List Loc) (ls : Array Slot), va_P D classes (wld ct ad G y11) H → va_D A (wld ct ad G y11) → va_S A s.heap H locs → lv_has ls 4 [(3, va_re ad (M.2 b2 0)), (0, .ref (ad a)), (1, va_re ad p0), (2, va_re ad p1)] → W p l e (headSpec wuX1_readOrder ({ frames := 3, cells := 0, slots := 0, locals := 81 })).room s m ([.ref (ad a), va_re ad p0, va_re ad p1] : List Value).toArray below meth c H locs 0 0 (MQ below (va_Qv (fun (_ : Unit) => True) (fun _ t => kE D ct ad G A y t) A) ([.ref (ad a), va_re ad p0, va_re ad p1] : List Value).toArray s 0 0 A) (F0 m 101 ls []) := by
        intro H locs ls hP hD hS hl
        obtain rfl := Option.some.inj hF
        exact J8 _ _ _ hP hD hS (lv_sub hl [0, 1, 2, 3] rfl)
      clear hF
      have hF := hy11
      clear hy11
      refine lv_if_ne (tgt := 101) hx hb dX1_readOrder_63 (by decide) (fun c12 => ?_) (fun c12 => ?_)
      · rw [if_neg c12] at hF
        obtain rfl := Option.some.inj hF
        exact J11 _ _ _ hP hD hS (lv_sub hl [0, 1, 2, 3] rfl)
      · rw [if_pos c12] at hF
        refine lv_aloadq_n hx hb dX1_readOrder_66 rfl (lv_at hl 0 rfl) ?_
        refine lv_bipush (v := (6 : Int32)) hx hb dX1_readOrder_67 (by decide) ?_
        refine lv_aload_n hx hb dX1_readOrder_69 rfl (lv_at hl 1 rfl) ?_
        refine lv_sipush (v := (-32768 : Int32)) hx hb dX1_readOrder_70 (by decide) ?_
        refine lv_sipush (v := (32767 : Int32)) hx hb dX1_readOrder_73 (by decide) ?_
        obtain ⟨y13, hy13, hF⟩ := bnd_some hF
        have hf9 := wA_in hD hA9 hS
        refine va_calli (va_runV (As := [.int (-32768 : Int32), .int (32767 : Int32)]) (rest := [.int (6 : Int32), va_re ad (M.2 b2 0)]) ⟨hx, hb, hml, hown, hts⟩ (kX1_signed l D ct ad Z G M s.heap.size a ((-32768 : Int32)) ((32767 : Int32)) y13 hc hk hy13) (cwV 2 hts gX1_readOrder_X1_signed rfl rfl rfl (by decide +kernel) ⟨Nat.le_of_ble_eq_true rfl, Nat.le_of_ble_eq_true rfl⟩) ⟨fun a U g mk q => by obtain ⟨q0, q1, qP, qK, qD, qZ, qN⟩ := q; exact ⟨q0, q1, qP, va_K.moved (u := U) (U := U.calling g mk a) (Vm.Alike.refl U.vm) qK, qD, sF.moved (u := U) (U := U.calling g mk a) (Vm.Alike.refl U.vm) qZ, nF.same rfl qN⟩, va_recv hK hP (ci := 1) (q0 := a) rfl (wld_o ct ad G M hc hk (by decide)), fun U hU hW => ⟨rfl, by rw [hU], by rw [hU]; exact hP, va_K.moved hW.alike hK, hD.weaken (fun _ _ _ _ => trivial), by rw [hU]; exact ((hZ.kept hS.2.1).narrow hf9).moved hW.alike, hN.warm hW⟩⟩ rfl rfl hl.1 rfl (lv_room (by simp only [List.map, va_re_cat]; exact Nat.le_of_ble_eq_true rfl)) dX1_readOrder_76 ⟨(Nat.zero_le _), (Nat.zero_le _)⟩) hS (fun q _ h => hf9 q h) hf9 (fun r u t H locs ht hvm hw hB hz1 hk1 hS => ?_)
        obtain ⟨hP, hK9, hD9⟩ := hB
        rw [ht] at hP
        try dsimp only at hw
        subst hw
        have hD := hD9.weaken (fun _ q _ h => hf9 q.1 h)
        obtain ⟨b14, ho14, hc14, hk14, hF⟩ := dr_some hF
        refine W_st (st' := [.int y13.2, .int (6 : Int32), .ref (ad b14)]) (by rw [va_some ho14]) ?_
        obtain ⟨hvc, hF⟩ := chk_some hF
        refine va_iast hx hb hK hP hD hS b14 1 (wld_i ct ad G y13.1 hc14 hk14) rfl hvc dX1_readOrder_79 (fun H locs hP hD hS => ?_)
        obtain ⟨M15, eM15, hF⟩ := ltt_some hF
        rw [set_i ct ad G y13.1 hc14 hk14, ← eM15] at hP hD
        refine lv_aloadq_n hx hb dX1_readOrder_80 rfl (lv_at hl 3 rfl) ?_
        refine lv_iconst (v := (2 : Int32)) hx hb dX1_readOrder_81 (by decide) ?_
        obtain ⟨b16, ho16, hc16, hk16, hF⟩ := dr_some hF
        refine W_st (st' := [.int (2 : Int32), .ref (ad b16)]) (by rw [va_some ho16]) ?_
        obtain ⟨hvc, hF⟩ := chk_some hF
        refine va_iald hx hb hK hP b16 1 (wld_i ct ad G M15 hc16 hk16) rfl hvc dX1_readOrder_82 ?_
        obtain ⟨x17, ex17, hF⟩ := ltt_some hF
        refine lv_topi (fun zx17 ezx17 => ?_)
        obtain rfl : x17 = zx17 := ex17.trans ezx17.symm
        refine lv_iconst (v := (1 : Int32)) hx hb dX1_readOrder_83 (by decide) ?_
        obtain ⟨y18, hy18, hF⟩ := bnd_some hF
        have J18 : ∀ (H : Heap) (locs : List Loc) (ls : Array Slot), va_P D classes (wld ct ad G y18) H → va_D A (wld ct ad G y18) → va_S A s.heap H locs → lv_has ls 4 [(3, va_re ad (M.2 b2 0)), (0, .ref (ad a)), (1, va_re ad p0), (2, va_re ad p1)] → W p l e (headSpec wuX1_readOrder ({ frames := 3, cells := 0, slots := 0, locals := 81 })).room s m ([.ref (ad a), va_re ad p0, va_re ad p1] : List Value).toArray below meth c H locs 0 0 (MQ below (va_Qv (fun (_ : Unit) => True) (fun _ t => kE D ct ad G A y t) A) ([.ref (ad a), va_re ad p0, va_re ad p1] : List Value).toArray s 0 0 A) (F0 m 101 ls []) := by
          intro H locs ls hP hD hS hl
          obtain rfl := Option.some.inj hF
          exact J11 _ _ _ hP hD hS (lv_sub hl [0, 1, 2, 3] rfl)
        clear hF
        have hF := hy18
        clear hy18
        refine lv_icmp_ne (tgt := 101) hx hb dX1_readOrder_84 (by decide) (fun c19 => ?_) (fun c19 => ?_)
        · rw [if_neg c19] at hF
          obtain rfl := Option.some.inj hF
          exact J18 _ _ _ hP hD hS (lv_sub hl [0, 1, 2, 3] rfl)
        · rw [if_pos c19] at hF
          refine lv_aloadq_n hx hb dX1_readOrder_87 rfl (lv_at hl 0 rfl) ?_
          refine lv_bipush (v := (7 : Int32)) hx hb dX1_readOrder_88 (by decide) ?_
          refine lv_aload_n hx hb dX1_readOrder_90 rfl (lv_at hl 1 rfl) ?_
          refine lv_sipush (v := (-32768 : Int32)) hx hb dX1_readOrder_91 (by decide) ?_
          refine lv_sipush (v := (32767 : Int32)) hx hb dX1_readOrder_94 (by decide) ?_
          obtain ⟨y20, hy20, hF⟩ := bnd_some hF
          have hf9 := wA_in hD hA9 hS
          refine va_calli (va_runV (As := [.int (-32768 : Int32), .int (32767 : Int32)]) (rest := [.int (7 : Int32), va_re ad (M.2 b2 0)]) ⟨hx, hb, hml, hown, hts⟩ (kX1_signed l D ct ad Z G M15 H.size a ((-32768 : Int32)) ((32767 : Int32)) y20 hc hk hy20) (cwV 2 hts gX1_readOrder_X1_signed rfl rfl rfl (by decide +kernel) ⟨Nat.le_of_ble_eq_true rfl, Nat.le_of_ble_eq_true rfl⟩) ⟨fun a U g mk q => by obtain ⟨q0, q1, qP, qK, qD, qZ, qN⟩ := q; exact ⟨q0, q1, qP, va_K.moved (u := U) (U := U.calling g mk a) (Vm.Alike.refl U.vm) qK, qD, sF.moved (u := U) (U := U.calling g mk a) (Vm.Alike.refl U.vm) qZ, nF.same rfl qN⟩, va_recv hK hP (ci := 1) (q0 := a) rfl (wld_o ct ad G M15 hc hk (by decide)), fun U hU hW => ⟨rfl, by rw [hU], by rw [hU]; exact hP, va_K.moved hW.alike hK, hD.weaken (fun _ _ _ _ => trivial), by rw [hU]; exact ((hZ.kept hS.2.1).narrow hf9).moved hW.alike, hN.warm hW⟩⟩ rfl rfl hl.1 rfl (lv_room (by simp only [List.map, va_re_cat]; exact Nat.le_of_ble_eq_true rfl)) dX1_readOrder_97 ⟨(Nat.zero_le _), (Nat.zero_le _)⟩) hS (fun q _ h => hf9 q h) hf9 (fun r u t H locs ht hvm hw hB hz1 hk1 hS => ?_)
          obtain ⟨hP, hK9, hD9⟩ := hB
          rw [ht] at hP
          try dsimp only at hw
          subst hw
          have hD := hD9.weaken (fun _ q _ h => hf9 q.1 h)
          refine W_st (st' := [.int y20.2, .int (7 : Int32), .ref (ad b14)]) (by rw [va_some ho14]) ?_
          obtain ⟨hvc, hF⟩ := chk_some hF
          refine va_iast hx hb hK hP hD hS b14 1 (wld_i ct ad G y20.1 hc14 hk14) rfl hvc dX1_readOrder_100 (fun H locs hP hD hS => ?_)
          obtain ⟨M21, eM21, hF⟩ := ltt_some hF
          rw [set_i ct ad G y20.1 hc14 hk14, ← eM21] at hP hD
          obtain rfl := Option.some.inj hF
          exact J18 _ _ _ hP hD hS (lv_sub hl [0, 1, 2, 3] rfl)
  · rw [if_pos c6] at hF
    refine lv_aloadq_n hx hb dX1_readOrder_14 rfl (lv_at hl 0 rfl) ?_
    refine lv_iconst (v := (5 : Int32)) hx hb dX1_readOrder_15 (by decide) ?_
    refine lv_aload_n hx hb dX1_readOrder_16 rfl (lv_at hl 1 rfl) ?_
    refine va_get (D := D) (ci := 1) (v := va_re ad (M.2 a 0)) (C := RX1) (T := TX1) (N := 22) hx hb hts (mus hf_X1) hown hK hP a (wld_o ct ad G M hc hk (by decide)) rfl 0 (by decide) (hts (.fieldLink RX1 12 "VideoSuite$Decoder" "reader" "LVideoSuite$Reader;") (mu mw_640)) (fun _ h9 => h9) rfl dX1_readOrder_17 ?_
    refine lv_iconst (v := (0 : Int32)) hx hb dX1_readOrder_20 (by decide) ?_
    refine lv_aloadq_n hx hb dX1_readOrder_21 rfl (lv_at hl 2 rfl) ?_
    refine lv_iconst (v := (4 : Int32)) hx hb dX1_readOrder_22 (by decide) ?_
    refine W_st (st' := [.int (4 : Int32), .ref (ad b3), .int (0 : Int32), va_re ad (M.2 a 0), .int (5 : Int32), va_re ad (M.2 b2 0)]) (by rw [va_some ho3]) ?_
    obtain ⟨hvc, hF⟩ := chk_some hF
    refine va_iald hx hb hK hP b3 1 (wld_i ct ad G M hc3 hk3) rfl hvc dX1_readOrder_23 ?_
    obtain ⟨x22, ex22, hF⟩ := ltt_some hF
    refine lv_topi (fun zx22 ezx22 => ?_)
    obtain rfl : x22 = zx22 := ex22.trans ezx22.symm
    obtain ⟨b23, ho23, hc23, hk23, hF⟩ := dr_some hF
    refine W_st (st' := [.int x22, .int (0 : Int32), .ref (ad b23), .int (5 : Int32), va_re ad (M.2 b2 0)]) (by rw [va_some ho23]) ?_
    obtain ⟨y24, hy24, hF⟩ := bnd_some hF
    have hf9 := wA_in hD hA9 hS
    refine va_calli (va_runV (As := [.int (0 : Int32), .int x22]) (rest := [.int (5 : Int32), va_re ad (M.2 b2 0)]) ⟨hx, hb, hml, hown, hts⟩ (kX5_fixed l D ct ad Z G M s.heap.size b23 ((0 : Int32)) x22 y24 hc23 hk23 hy24) (cwV 2 hts gX1_readOrder_X5_fixed rfl rfl rfl (by decide +kernel) ⟨Nat.le_of_ble_eq_true rfl, Nat.le_of_ble_eq_true rfl⟩) ⟨fun a U g mk q => by obtain ⟨q0, q1, qP, qK, qD, qZ, qN⟩ := q; exact ⟨q0, q1, qP, va_K.moved (u := U) (U := U.calling g mk a) (Vm.Alike.refl U.vm) qK, qD, sF.moved (u := U) (U := U.calling g mk a) (Vm.Alike.refl U.vm) qZ, nF.same rfl qN⟩, va_recv hK hP (ci := 5) (q0 := b23) rfl (wld_o ct ad G M hc23 hk23 (by decide)), fun U hU hW => ⟨rfl, by rw [hU], by rw [hU]; exact hP, va_K.moved hW.alike hK, hD.weaken (fun _ _ _ _ => trivial), by rw [hU]; exact ((hZ.kept hS.2.1).narrow hf9).moved hW.alike, hN.warm hW⟩⟩ rfl rfl hl.1 rfl (lv_room (by simp only [List.map, va_re_cat]; exact Nat.le_of_ble_eq_true rfl)) dX1_readOrder_24 ⟨(Nat.zero_le _), (Nat.zero_le _)⟩) hS (fun q _ h => hf9 q h) hf9 (fun r u t H locs ht hvm hw hB hz1 hk1 hS => ?_)
    obtain ⟨hP, hK9, hD9⟩ := hB
    rw [ht] at hP
    try dsimp only at hw
    subst hw
    have hD := hD9.weaken (fun _ q _ h => hf9 q.1 h)
    obtain ⟨b25, ho25, hc25, hk25, hF⟩ := dr_some hF
    refine W_st (st' := [.int y24.2, .int (5 : Int32), .ref (ad b25)]) (by rw [va_some ho25]) ?_
    obtain ⟨hvc, hF⟩ := chk_some hF
    refine va_iast hx hb hK hP hD hS b25 1 (wld_i ct ad G y24.1 hc25 hk25) rfl hvc dX1_readOrder_27 (fun H locs hP hD hS => ?_)
    obtain ⟨M26, eM26, hF⟩ := ltt_some hF
    rw [set_i ct ad G y24.1 hc25 hk25, ← eM26] at hP hD
    refine lv_aloadq_n hx hb dX1_readOrder_28 rfl (lv_at hl 3 rfl) ?_
    refine lv_iconst (v := (2 : Int32)) hx hb dX1_readOrder_29 (by decide) ?_
    obtain ⟨b27, ho27, hc27, hk27, hF⟩ := dr_some hF
    refine W_st (st' := [.int (2 : Int32), .ref (ad b27)]) (by rw [va_some ho27]) ?_
    obtain ⟨hvc, hF⟩ := chk_some hF
    refine va_iald hx hb hK hP b27 1 (wld_i ct ad G M26 hc27 hk27) rfl hvc dX1_readOrder_30 ?_
    obtain ⟨x28, ex28, hF⟩ := ltt_some hF
    refine lv_topi (fun zx28 ezx28 => ?_)
    obtain rfl : x28 = zx28 := ex28.trans ezx28.symm
    refine lv_iconst (v := (1 : Int32)) hx hb dX1_readOrder_31 (by decide) ?_
    obtain ⟨y29, hy29, hF⟩ := bnd_some hF
    have J29 : ∀ (H : Heap) (locs : List Loc) (ls : Array Slot), va_P D classes (wld ct ad G y29) H → va_D A (wld ct ad G y29) → va_S A s.heap H locs → lv_has ls 4 [(3, va_re ad (M.2 b2 0)), (0, .ref (ad a)), (1, va_re ad p0), (2, va_re ad p1)] → W p l e (headSpec wuX1_readOrder ({ frames := 3, cells := 0, slots := 0, locals := 81 })).room s m ([.ref (ad a), va_re ad p0, va_re ad p1] : List Value).toArray below meth c H locs 0 0 (MQ below (va_Qv (fun (_ : Unit) => True) (fun _ t => kE D ct ad G A y t) A) ([.ref (ad a), va_re ad p0, va_re ad p1] : List Value).toArray s 0 0 A) (F0 m 101 ls []) := by
      intro H locs ls hP hD hS hl
      obtain rfl := Option.some.inj hF
      exact J5 _ _ _ hP hD hS (lv_sub hl [0, 1, 2, 3] rfl)
    clear hF
    have hF := hy29
    clear hy29
    refine lv_icmp_ne (tgt := 101) hx hb dX1_readOrder_32 (by decide) (fun c30 => ?_) (fun c30 => ?_)
    · rw [if_neg c30] at hF
      obtain rfl := Option.some.inj hF
      exact J29 _ _ _ hP hD hS (lv_sub hl [0, 1, 2, 3] rfl)
    · rw [if_pos c30] at hF
      refine lv_aloadq_n hx hb dX1_readOrder_35 rfl (lv_at hl 0 rfl) ?_
      refine lv_bipush (v := (6 : Int32)) hx hb dX1_readOrder_36 (by decide) ?_
      refine lv_aload_n hx hb dX1_readOrder_38 rfl (lv_at hl 1 rfl) ?_
      refine lv_sipush (v := (-32768 : Int32)) hx hb dX1_readOrder_39 (by decide) ?_
      refine lv_sipush (v := (32767 : Int32)) hx hb dX1_readOrder_42 (by decide) ?_
      obtain ⟨y31, hy31, hF⟩ := bnd_some hF
      have hf9 := wA_in hD hA9 hS
      refine va_calli (va_runV (As := [.int (-32768 : Int32), .int (32767 : Int32)]) (rest := [.int (6 : Int32), va_re ad (M.2 b2 0)]) ⟨hx, hb, hml, hown, hts⟩ (kX1_signed l D ct ad Z G M26 H.size a ((-32768 : Int32)) ((32767 : Int32)) y31 hc hk hy31) (cwV 2 hts gX1_readOrder_X1_signed rfl rfl rfl (by decide +kernel) ⟨Nat.le_of_ble_eq_true rfl, Nat.le_of_ble_eq_true rfl⟩) ⟨fun a U g mk q => by obtain ⟨q0, q1, qP, qK, qD, qZ, qN⟩ := q; exact ⟨q0, q1, qP, va_K.moved (u := U) (U := U.calling g mk a) (Vm.Alike.refl U.vm) qK, qD, sF.moved (u := U) (U := U.calling g mk a) (Vm.Alike.refl U.vm) qZ, nF.same rfl qN⟩, va_recv hK hP (ci := 1) (q0 := a) rfl (wld_o ct ad G M26 hc hk (by decide)), fun U hU hW => ⟨rfl, by rw [hU], by rw [hU]; exact hP, va_K.moved hW.alike hK, hD.weaken (fun _ _ _ _ => trivial), by rw [hU]; exact ((hZ.kept hS.2.1).narrow hf9).moved hW.alike, hN.warm hW⟩⟩ rfl rfl hl.1 rfl (lv_room (by simp only [List.map, va_re_cat]; exact Nat.le_of_ble_eq_true rfl)) dX1_readOrder_45 ⟨(Nat.zero_le _), (Nat.zero_le _)⟩) hS (fun q _ h => hf9 q h) hf9 (fun r u t H locs ht hvm hw hB hz1 hk1 hS => ?_)
      obtain ⟨hP, hK9, hD9⟩ := hB
      rw [ht] at hP
      try dsimp only at hw
      subst hw
      have hD := hD9.weaken (fun _ q _ h => hf9 q.1 h)
      refine W_st (st' := [.int y31.2, .int (6 : Int32), .ref (ad b25)]) (by rw [va_some ho25]) ?_
      obtain ⟨hvc, hF⟩ := chk_some hF
      refine va_iast hx hb hK hP hD hS b25 1 (wld_i ct ad G y31.1 hc25 hk25) rfl hvc dX1_readOrder_48 (fun H locs hP hD hS => ?_)
      obtain ⟨M32, eM32, hF⟩ := ltt_some hF
      rw [set_i ct ad G y31.1 hc25 hk25, ← eM32] at hP hD
      refine lv_goto (tgt := 101) hx hb dX1_readOrder_49 (by decide) ?_
      obtain rfl := Option.some.inj hF
      exact J29 _ _ _ hP hD hS (lv_sub hl [0, 1, 2, 3] rfl)
set_option maxRecDepth 20000 in
theorem gX1_readParameters_J7_fill_53178 : GoodIn wuX1_readParameters (va_wsS RX1 91 yJ7_fill_53178 wuJ7_fill_53178) := gu_S mw_1325 mw_1125 mw_182 mw_1126
set_option maxRecDepth 20000 in
set_option maxRecDepth 20000 in
theorem gX1_readParameters_X1_unsigned : GoodIn wuX1_readParameters (wsV RX1 186 RX1 yX1_unsigned wuX1_unsigned) := gu_V mw_1350 mw_1352 mw_34 mw_168 mw_1353
set_option maxRecDepth 20000 in
set_option maxRecDepth 20000 in
theorem gX1_readParameters_X5_fixed : GoodIn wuX1_readParameters (wsV RX1 183 RX5 yX5_fixed wuX5_fixed) := gu_V mw_1355 mw_1356 mw_1357 mw_169 mw_1358
set_option maxRecDepth 20000 in
set_option maxRecDepth 20000 in
theorem gX1_readParameters_X1_signed : GoodIn wuX1_readParameters (wsV RX1 209 RX1 yX1_signed wuX1_signed) := gu_V mw_1364 mw_1366 mw_36 mw_168 mw_1367
set_option maxRecDepth 20000 in
set_option maxRecDepth 20000 in
theorem gX1_readParameters_X5_expect : GoodIn wuX1_readParameters (wsV RX1 200 RX5 yX5_expect wuX5_expect) := gu_V mw_2277 mw_2278 mw_2279 mw_169 mw_2280
theorem dX1_readParameters_0 : decode cX1_readParameters 0 = .ok (.aload_n 0, 1) := by decide +kernel
theorem dX1_readParameters_1 : decode cX1_readParameters 1 = .ok (.getfield 62, 3) := by decide +kernel
theorem dX1_readParameters_4 : decode cX1_readParameters 4 = .ok (.astore_n 1, 1) := by decide +kernel
theorem dX1_readParameters_5 : decode cX1_readParameters 5 = .ok (.aload_n 1, 1) := by decide +kernel
theorem dX1_readParameters_6 : decode cX1_readParameters 6 = .ok (.iconst 0, 1) := by decide +kernel
theorem dX1_readParameters_7 : decode cX1_readParameters 7 = .ok (.invokestatic 91, 3) := by decide +kernel
theorem dX1_readParameters_10 : decode cX1_readParameters 10 = .ok (.aload_n 0, 1) := by decide +kernel
theorem dX1_readParameters_11 : decode cX1_readParameters 11 = .ok (.iconst 3, 1) := by decide +kernel
theorem dX1_readParameters_12 : decode cX1_readParameters 12 = .ok (.invokevirtual 186, 3) := by decide +kernel
theorem dX1_readParameters_15 : decode cX1_readParameters 15 = .ok (.istore_n 2, 1) := by decide +kernel
theorem dX1_readParameters_16 : decode cX1_readParameters 16 = .ok (.aload_n 1, 1) := by decide +kernel
theorem dX1_readParameters_17 : decode cX1_readParameters 17 = .ok (.iconst 0, 1) := by decide +kernel
theorem dX1_readParameters_18 : decode cX1_readParameters 18 = .ok (.aload_n 0, 1) := by decide +kernel
theorem dX1_readParameters_19 : decode cX1_readParameters 19 = .ok (.iconst 3, 1) := by decide +kernel
theorem dX1_readParameters_20 : decode cX1_readParameters 20 = .ok (.invokevirtual 186, 3) := by decide +kernel
theorem dX1_readParameters_23 : decode cX1_readParameters 23 = .ok (.iastore, 1) := by decide +kernel
theorem dX1_readParameters_24 : decode cX1_readParameters 24 = .ok (.aload_n 1, 1) := by decide +kernel
theorem dX1_readParameters_25 : decode cX1_readParameters 25 = .ok (.iconst 1, 1) := by decide +kernel
theorem dX1_readParameters_26 : decode cX1_readParameters 26 = .ok (.aload_n 0, 1) := by decide +kernel
theorem dX1_readParameters_27 : decode cX1_readParameters 27 = .ok (.getfield 12, 3) := by decide +kernel
theorem dX1_readParameters_30 : decode cX1_readParameters 30 = .ok (.iconst 0, 1) := by decide +kernel
theorem dX1_readParameters_31 : decode cX1_readParameters 31 = .ok (.iconst 1, 1) := by decide +kernel
theorem dX1_readParameters_32 : decode cX1_readParameters 32 = .ok (.invokevirtual 183, 3) := by decide +kernel
theorem dX1_readParameters_35 : decode cX1_readParameters 35 = .ok (.iastore, 1) := by decide +kernel
theorem dX1_readParameters_36 : decode cX1_readParameters 36 = .ok (.aload_n 1, 1) := by decide +kernel
theorem dX1_readParameters_37 : decode cX1_readParameters 37 = .ok (.iconst 2, 1) := by decide +kernel
theorem dX1_readParameters_38 : decode cX1_readParameters 38 = .ok (.aload_n 0, 1) := by decide +kernel
theorem dX1_readParameters_39 : decode cX1_readParameters 39 = .ok (.getfield 12, 3) := by decide +kernel
theorem dX1_readParameters_42 : decode cX1_readParameters 42 = .ok (.iconst 0, 1) := by decide +kernel
theorem dX1_readParameters_43 : decode cX1_readParameters 43 = .ok (.iconst 1, 1) := by decide +kernel
theorem dX1_readParameters_44 : decode cX1_readParameters 44 = .ok (.invokevirtual 183, 3) := by decide +kernel
theorem dX1_readParameters_47 : decode cX1_readParameters 47 = .ok (.iastore, 1) := by decide +kernel
theorem dX1_readParameters_48 : decode cX1_readParameters 48 = .ok (.aload_n 0, 1) := by decide +kernel
theorem dX1_readParameters_49 : decode cX1_readParameters 49 = .ok (.iconst 0, 1) := by decide +kernel
theorem dX1_readParameters_50 : decode cX1_readParameters 50 = .ok (.invokevirtual 186, 3) := by decide +kernel
theorem dX1_readParameters_53 : decode cX1_readParameters 53 = .ok (.pop, 1) := by decide +kernel
theorem dX1_readParameters_54 : decode cX1_readParameters 54 = .ok (.aload_n 1, 1) := by decide +kernel
theorem dX1_readParameters_55 : decode cX1_readParameters 55 = .ok (.iconst 3, 1) := by decide +kernel
theorem dX1_readParameters_56 : decode cX1_readParameters 56 = .ok (.aload_n 0, 1) := by decide +kernel
theorem dX1_readParameters_57 : decode cX1_readParameters 57 = .ok (.bipush 7, 2) := by decide +kernel
theorem dX1_readParameters_59 : decode cX1_readParameters 59 = .ok (.invokevirtual 186, 3) := by decide +kernel
theorem dX1_readParameters_62 : decode cX1_readParameters 62 = .ok (.iconst 1, 1) := by decide +kernel
theorem dX1_readParameters_63 : decode cX1_readParameters 63 = .ok (.iadd, 1) := by decide +kernel
theorem dX1_readParameters_64 : decode cX1_readParameters 64 = .ok (.iastore, 1) := by decide +kernel
theorem dX1_readParameters_65 : decode cX1_readParameters 65 = .ok (.aload_n 1, 1) := by decide +kernel
theorem dX1_readParameters_66 : decode cX1_readParameters 66 = .ok (.iconst 4, 1) := by decide +kernel
theorem dX1_readParameters_67 : decode cX1_readParameters 67 = .ok (.aload_n 0, 1) := by decide +kernel
theorem dX1_readParameters_68 : decode cX1_readParameters 68 = .ok (.bipush 7, 2) := by decide +kernel
theorem dX1_readParameters_70 : decode cX1_readParameters 70 = .ok (.invokevirtual 186, 3) := by decide +kernel
theorem dX1_readParameters_73 : decode cX1_readParameters 73 = .ok (.iconst 1, 1) := by decide +kernel
theorem dX1_readParameters_74 : decode cX1_readParameters 74 = .ok (.iadd, 1) := by decide +kernel
theorem dX1_readParameters_75 : decode cX1_readParameters 75 = .ok (.iastore, 1) := by decide +kernel
theorem dX1_readParameters_76 : decode cX1_readParameters 76 = .ok (.aload_n 1, 1) := by decide +kernel
theorem dX1_readParameters_77 : decode cX1_readParameters 77 = .ok (.iconst 5, 1) := by decide +kernel
theorem dX1_readParameters_78 : decode cX1_readParameters 78 = .ok (.aload_n 0, 1) := by decide +kernel
theorem dX1_readParameters_79 : decode cX1_readParameters 79 = .ok (.getfield 12, 3) := by decide +kernel
theorem dX1_readParameters_82 : decode cX1_readParameters 82 = .ok (.iconst 0, 1) := by decide +kernel
theorem dX1_readParameters_83 : decode cX1_readParameters 83 = .ok (.iconst 1, 1) := by decide +kernel
theorem dX1_readParameters_84 : decode cX1_readParameters 84 = .ok (.invokevirtual 183, 3) := by decide +kernel
theorem dX1_readParameters_87 : decode cX1_readParameters 87 = .ok (.iastore, 1) := by decide +kernel
theorem dX1_readParameters_88 : decode cX1_readParameters 88 = .ok (.aload_n 1, 1) := by decide +kernel
theorem dX1_readParameters_89 : decode cX1_readParameters 89 = .ok (.bipush 6, 2) := by decide +kernel
theorem dX1_readParameters_91 : decode cX1_readParameters 91 = .ok (.aload_n 0, 1) := by decide +kernel
theorem dX1_readParameters_92 : decode cX1_readParameters 92 = .ok (.getfield 12, 3) := by decide +kernel
theorem dX1_readParameters_95 : decode cX1_readParameters 95 = .ok (.iconst 0, 1) := by decide +kernel
theorem dX1_readParameters_96 : decode cX1_readParameters 96 = .ok (.iconst 2, 1) := by decide +kernel
theorem dX1_readParameters_97 : decode cX1_readParameters 97 = .ok (.invokevirtual 183, 3) := by decide +kernel
theorem dX1_readParameters_100 : decode cX1_readParameters 100 = .ok (.iastore, 1) := by decide +kernel
theorem dX1_readParameters_101 : decode cX1_readParameters 101 = .ok (.aload_n 1, 1) := by decide +kernel
theorem dX1_readParameters_102 : decode cX1_readParameters 102 = .ok (.bipush 6, 2) := by decide +kernel
theorem dX1_readParameters_104 : decode cX1_readParameters 104 = .ok (.iaload, 1) := by decide +kernel
theorem dX1_readParameters_105 : decode cX1_readParameters 105 = .ok (.iconst 2, 1) := by decide +kernel
theorem dX1_readParameters_106 : decode cX1_readParameters 106 = .ok (.if_icmp .le 18, 3) := by decide +kernel
theorem dX1_readParameters_109 : decode cX1_readParameters 109 = .ok (.aload_n 0, 1) := by decide +kernel
theorem dX1_readParameters_110 : decode cX1_readParameters 110 = .ok (.getfield 12, 3) := by decide +kernel
theorem dX1_readParameters_113 : decode cX1_readParameters 113 = .ok (.iconst 2, 1) := by decide +kernel
theorem dX1_readParameters_114 : decode cX1_readParameters 114 = .ok (.aload_n 0, 1) := by decide +kernel
theorem dX1_readParameters_115 : decode cX1_readParameters 115 = .ok (.getfield 12, 3) := by decide +kernel
theorem dX1_readParameters_118 : decode cX1_readParameters 118 = .ok (.getfield 194, 3) := by decide +kernel
theorem dX1_readParameters_121 : decode cX1_readParameters 121 = .ok (.invokevirtual 197, 3) := by decide +kernel
theorem dX1_readParameters_124 : decode cX1_readParameters 124 = .ok (.aload_n 1, 1) := by decide +kernel
theorem dX1_readParameters_125 : decode cX1_readParameters 125 = .ok (.bipush 7, 2) := by decide +kernel
theorem dX1_readParameters_127 : decode cX1_readParameters 127 = .ok (.aload_n 0, 1) := by decide +kernel
theorem dX1_readParameters_128 : decode cX1_readParameters 128 = .ok (.bipush (-26), 2) := by decide +kernel
theorem dX1_readParameters_130 : decode cX1_readParameters 130 = .ok (.bipush 25, 2) := by decide +kernel
theorem dX1_readParameters_132 : decode cX1_readParameters 132 = .ok (.invokevirtual 209, 3) := by decide +kernel
theorem dX1_readParameters_135 : decode cX1_readParameters 135 = .ok (.iastore, 1) := by decide +kernel
theorem dX1_readParameters_136 : decode cX1_readParameters 136 = .ok (.aload_n 0, 1) := by decide +kernel
theorem dX1_readParameters_137 : decode cX1_readParameters 137 = .ok (.bipush (-26), 2) := by decide +kernel
theorem dX1_readParameters_139 : decode cX1_readParameters 139 = .ok (.bipush 25, 2) := by decide +kernel
theorem dX1_readParameters_141 : decode cX1_readParameters 141 = .ok (.invokevirtual 209, 3) := by decide +kernel
theorem dX1_readParameters_144 : decode cX1_readParameters 144 = .ok (.pop, 1) := by decide +kernel
theorem dX1_readParameters_145 : decode cX1_readParameters 145 = .ok (.aload_n 1, 1) := by decide +kernel
theorem dX1_readParameters_146 : decode cX1_readParameters 146 = .ok (.bipush 8, 2) := by decide +kernel
theorem dX1_readParameters_148 : decode cX1_readParameters 148 = .ok (.aload_n 0, 1) := by decide +kernel
theorem dX1_readParameters_149 : decode cX1_readParameters 149 = .ok (.bipush (-12), 2) := by decide +kernel
theorem dX1_readParameters_151 : decode cX1_readParameters 151 = .ok (.bipush 12, 2) := by decide +kernel
theorem dX1_readParameters_153 : decode cX1_readParameters 153 = .ok (.invokevirtual 209, 3) := by decide +kernel
theorem dX1_readParameters_156 : decode cX1_readParameters 156 = .ok (.iastore, 1) := by decide +kernel
theorem dX1_readParameters_157 : decode cX1_readParameters 157 = .ok (.aload_n 1, 1) := by decide +kernel
theorem dX1_readParameters_158 : decode cX1_readParameters 158 = .ok (.bipush 9, 2) := by decide +kernel
theorem dX1_readParameters_160 : decode cX1_readParameters 160 = .ok (.aload_n 0, 1) := by decide +kernel
theorem dX1_readParameters_161 : decode cX1_readParameters 161 = .ok (.getfield 12, 3) := by decide +kernel
theorem dX1_readParameters_164 : decode cX1_readParameters 164 = .ok (.iconst 0, 1) := by decide +kernel
theorem dX1_readParameters_165 : decode cX1_readParameters 165 = .ok (.iconst 1, 1) := by decide +kernel
theorem dX1_readParameters_166 : decode cX1_readParameters 166 = .ok (.invokevirtual 183, 3) := by decide +kernel
theorem dX1_readParameters_169 : decode cX1_readParameters 169 = .ok (.iastore, 1) := by decide +kernel
theorem dX1_readParameters_170 : decode cX1_readParameters 170 = .ok (.aload_n 1, 1) := by decide +kernel
theorem dX1_readParameters_171 : decode cX1_readParameters 171 = .ok (.bipush 10, 2) := by decide +kernel
theorem dX1_readParameters_173 : decode cX1_readParameters 173 = .ok (.aload_n 0, 1) := by decide +kernel
theorem dX1_readParameters_174 : decode cX1_readParameters 174 = .ok (.getfield 12, 3) := by decide +kernel
theorem dX1_readParameters_177 : decode cX1_readParameters 177 = .ok (.iconst 0, 1) := by decide +kernel
theorem dX1_readParameters_178 : decode cX1_readParameters 178 = .ok (.iconst 1, 1) := by decide +kernel
theorem dX1_readParameters_179 : decode cX1_readParameters 179 = .ok (.invokevirtual 183, 3) := by decide +kernel
theorem dX1_readParameters_182 : decode cX1_readParameters 182 = .ok (.iastore, 1) := by decide +kernel
theorem dX1_readParameters_183 : decode cX1_readParameters 183 = .ok (.aload_n 0, 1) := by decide +kernel
theorem dX1_readParameters_184 : decode cX1_readParameters 184 = .ok (.getfield 12, 3) := by decide +kernel
theorem dX1_readParameters_187 : decode cX1_readParameters 187 = .ok (.iconst 0, 1) := by decide +kernel
theorem dX1_readParameters_188 : decode cX1_readParameters 188 = .ok (.invokevirtual 200, 3) := by decide +kernel
theorem dX1_readParameters_191 : decode cX1_readParameters 191 = .ok (.aload_n 1, 1) := by decide +kernel
theorem dX1_readParameters_192 : decode cX1_readParameters 192 = .ok (.bipush 11, 2) := by decide +kernel
theorem dX1_readParameters_194 : decode cX1_readParameters 194 = .ok (.iconst 1, 1) := by decide +kernel
theorem dX1_readParameters_195 : decode cX1_readParameters 195 = .ok (.iastore, 1) := by decide +kernel
theorem dX1_readParameters_196 : decode cX1_readParameters 196 = .ok (.aload_n 1, 1) := by decide +kernel
theorem dX1_readParameters_197 : decode cX1_readParameters 197 = .ok (.iconst 0, 1) := by decide +kernel
theorem dX1_readParameters_198 : decode cX1_readParameters 198 = .ok (.aload_n 0, 1) := by decide +kernel
theorem dX1_readParameters_199 : decode cX1_readParameters 199 = .ok (.getfield 51, 3) := by decide +kernel
theorem dX1_readParameters_202 : decode cX1_readParameters 202 = .ok (.iload_n 2, 1) := by decide +kernel
theorem dX1_readParameters_203 : decode cX1_readParameters 203 = .ok (.aaload, 1) := by decide +kernel
theorem dX1_readParameters_204 : decode cX1_readParameters 204 = .ok (.iconst 0, 1) := by decide +kernel
theorem dX1_readParameters_205 : decode cX1_readParameters 205 = .ok (.bipush 12, 2) := by decide +kernel
theorem dX1_readParameters_207 : decode cX1_readParameters 207 = .ok (.invokestatic 203, 3) := by decide +kernel
theorem dX1_readParameters_210 : decode cX1_readParameters 210 = .ok (.return_, 1) := by decide +kernel
def FX1_readParameters (G : GG) (M : DD) (a : Nat)  : Option (DD) :=
  bnd (FJ7_fill_53178 G M ((M.2 a 9)) ((0 : Int32))) fun y1 =>
  bnd (FX1_unsigned G y1 a ((3 : Int32))) fun y2 =>
  bnd (FX1_unsigned G y2.1 a ((3 : Int32))) fun y3 =>
  dr G 13 ((M.2 a 9)) fun b4 =>
  chk (¬ (((0 : Int32)) < 0 ∨ G.2.2 b4 ≤ ((0 : Int32)).toNatClampNeg)) <|
  ltt (uI y3.1 b4 ((0 : Int32)).toNatClampNeg y3.2) fun M5 =>
  dr G 5 ((M5.2 a 0)) fun b6 =>
  bnd (FX5_fixed G M5 b6 ((0 : Int32)) ((1 : Int32))) fun y7 =>
  chk (¬ (((1 : Int32)) < 0 ∨ G.2.2 b4 ≤ ((1 : Int32)).toNatClampNeg)) <|
  ltt (uI y7.1 b4 ((1 : Int32)).toNatClampNeg y7.2) fun M8 =>
  dr G 5 ((M8.2 a 0)) fun b9 =>
  bnd (FX5_fixed G M8 b9 ((0 : Int32)) ((1 : Int32))) fun y10 =>
  chk (¬ (((2 : Int32)) < 0 ∨ G.2.2 b4 ≤ ((2 : Int32)).toNatClampNeg)) <|
  ltt (uI y10.1 b4 ((2 : Int32)).toNatClampNeg y10.2) fun M11 =>
  bnd (FX1_unsigned G M11 a ((0 : Int32))) fun y12 =>
  bnd (FX1_unsigned G y12.1 a ((7 : Int32))) fun y13 =>
  ltt ((y13.2 + ((1 : Int32)))) fun x14 =>
  chk (¬ (((3 : Int32)) < 0 ∨ G.2.2 b4 ≤ ((3 : Int32)).toNatClampNeg)) <|
  ltt (uI y13.1 b4 ((3 : Int32)).toNatClampNeg x14) fun M15 =>
  bnd (FX1_unsigned G M15 a ((7 : Int32))) fun y16 =>
  ltt ((y16.2 + ((1 : Int32)))) fun x17 =>
  chk (¬ (((4 : Int32)) < 0 ∨ G.2.2 b4 ≤ ((4 : Int32)).toNatClampNeg)) <|
  ltt (uI y16.1 b4 ((4 : Int32)).toNatClampNeg x17) fun M18 =>
  dr G 5 ((M18.2 a 0)) fun b19 =>
  bnd (FX5_fixed G M18 b19 ((0 : Int32)) ((1 : Int32))) fun y20 =>
  chk (¬ (((5 : Int32)) < 0 ∨ G.2.2 b4 ≤ ((5 : Int32)).toNatClampNeg)) <|
  ltt (uI y20.1 b4 ((5 : Int32)).toNatClampNeg y20.2) fun M21 =>
  dr G 5 ((M21.2 a 0)) fun b22 =>
  bnd (FX5_fixed G M21 b22 ((0 : Int32)) ((2 : Int32))) fun y23 =>
  chk (¬ (((6 : Int32)) < 0 ∨ G.2.2 b4 ≤ ((6 : Int32)).toNatClampNeg)) <|
  ltt (uI y23.1 b4 ((6 : Int32)).toNatClampNeg y23.2) fun M24 =>
  chk (¬ (((6 : Int32)) < 0 ∨ G.2.2 b4 ≤ ((6 : Int32)).toNatClampNeg)) <|
  ltt (M24.1 b4 ((6 : Int32)).toNatClampNeg) fun x25 =>
  bnd (if x25 ≤ ((2 : Int32)) then (some (M24)) else
  (dr G 5 ((M24.2 a 0)) fun b45 =>
  ltt (M24.1 b45 4) fun x46 =>
  none)) fun (y26 : DD) =>
  bnd (FX1_signed G y26 a ((-26 : Int32)) ((25 : Int32))) fun y27 =>
  chk (¬ (((7 : Int32)) < 0 ∨ G.2.2 b4 ≤ ((7 : Int32)).toNatClampNeg)) <|
  ltt (uI y27.1 b4 ((7 : Int32)).toNatClampNeg y27.2) fun M28 =>
  bnd (FX1_signed G M28 a ((-26 : Int32)) ((25 : Int32))) fun y29 =>
  bnd (FX1_signed G y29.1 a ((-12 : Int32)) ((12 : Int32))) fun y30 =>
  chk (¬ (((8 : Int32)) < 0 ∨ G.2.2 b4 ≤ ((8 : Int32)).toNatClampNeg)) <|
  ltt (uI y30.1 b4 ((8 : Int32)).toNatClampNeg y30.2) fun M31 =>
  dr G 5 ((M31.2 a 0)) fun b32 =>
  bnd (FX5_fixed G M31 b32 ((0 : Int32)) ((1 : Int32))) fun y33 =>
  chk (¬ (((9 : Int32)) < 0 ∨ G.2.2 b4 ≤ ((9 : Int32)).toNatClampNeg)) <|
  ltt (uI y33.1 b4 ((9 : Int32)).toNatClampNeg y33.2) fun M34 =>
  dr G 5 ((M34.2 a 0)) fun b35 =>
  bnd (FX5_fixed G M34 b35 ((0 : Int32)) ((1 : Int32))) fun y36 =>
  chk (¬ (((10 : Int32)) < 0 ∨ G.2.2 b4 ≤ ((10 : Int32)).toNatClampNeg)) <|
  ltt (uI y36.1 b4 ((10 : Int32)).toNatClampNeg y36.2) fun M37 =>
  dr G 5 ((M37.2 a 0)) fun b38 =>
  bnd (FX5_expect G M37 b38 ((0 : Int32))) fun y39 =>
  chk (¬ (((11 : Int32)) < 0 ∨ G.2.2 b4 ≤ ((11 : Int32)).toNatClampNeg)) <|
  ltt (uI y39 b4 ((11 : Int32)).toNatClampNeg ((1 : Int32))) fun M40 =>
  dr G 15 ((M40.2 a 6)) fun b41 =>
  chk (¬ (y2.2 < 0 ∨ G.2.2 b41 ≤ y2.2.toNatClampNeg)) <|
  dr G 13 ((M40.2 b41 y2.2.toNatClampNeg)) fun b42 =>
  chk (¬ ((0 : Int32)) < 0 ∧ ¬ ((0 : Int32)) < 0 ∧ ¬ ((12 : Int32)) < 0 ∧ ((0 : Int32)).toNatClampNeg + ((12 : Int32)).toNatClampNeg ≤ G.2.2 b4 ∧ ((0 : Int32)).toNatClampNeg + ((12 : Int32)).toNatClampNeg ≤ G.2.2 b42) <|
  ltt (rI M40 b42 (va_cpy (M40.1 b4) (M40.1 b42) ((0 : Int32)).toNatClampNeg ((0 : Int32)).toNatClampNeg ((12 : Int32)).toNatClampNeg)) fun M43 =>
  some M43
set_option maxHeartbeats 4000000 in
set_option maxRecDepth 100000 in
theorem kX1_readParameters (l : Launch) (D : va_G) (ct : CT) (ad : Nat → Nat) (Z : Nat → Nat) (G : GG) (M : DD) (sz : Nat) (a : Nat)  (y : DD) (hc : a < G.1) (hk : G.2.1 a = 1) (hF : FX1_readParameters G M a  = some y) : Met l yX1_readParameters wuX1_readParameters ({ frames := 3, cells := 0, slots := 0, locals := 81 }) (va_Pc [.ref (ad a)] (kB D ct ad Z G M sz)) (va_Qv (fun (_ : Unit) => True) (fun _ t => kE D ct ad G (wA ad G sz) y t) (wA ad G sz)) 0 0 (wA ad G sz) := by
  refine Met.ofW (cc := cX1_readParameters) (maxL := 3) (ret := none) (by decide) rfl ?_
  intro p e s m args below meth c s₁ B hml hv
  obtain ⟨rfl, hsz, hP, hK, hD0, hZ, hN⟩ := hv
  have hx := B.exec
  have hb := B.bytes
  have hr := B.returns
  have hts := atoms_spec (ws := wuX1_readParameters) B.pre
  have hown : s.vm.findClass RX1 = some m.cls := findClass_of_methodNamed B.named
  have hlocks := B.notSynchronized
  subst hsz
  have hD := wD_self (sz := s.heap.size) hD0
  have hA9 : ∀ q, s.heap.size ≤ q → wA ad G s.heap.size q := fun q h => Or.inr h
  generalize hAe : wA ad G s.heap.size = A at hD hA9 hZ ⊢
  have hS : va_S A s.heap s.heap [] := va_S.rf
  have hl := lv_entry ([.ref (ad a)]) (n := 3) (Nat.le_of_ble_eq_true rfl)
  rw [lg_entry_eq]
  generalize (lg_sl ([.ref (ad a)]) ++ List.replicate (3 - (lg_sl ([.ref (ad a)])).length) Slot.unset).toArray = ls at hl ⊢
  have hl : lv_has ls 3 [(0, .ref (ad a))] := hl
  unfold FX1_readParameters at hF
  refine lv_aload_n hx hb dX1_readParameters_0 rfl (lv_at hl 0 rfl) ?_
  refine va_get (D := D) (ci := 1) (v := va_re ad (M.2 a 9)) (C := RX1) (T := TX1) (N := 22) hx hb hts (mus hf_X1) hown hK hP a (wld_o ct ad G M hc hk (by decide)) rfl 9 (by decide) (hts (.fieldLink RX1 62 "VideoSuite$Decoder" "draft" "[I") (mu mw_651)) (fun _ h9 => h9) rfl dX1_readParameters_1 ?_
  refine lv_astoreq_n (lv' := [(1, va_re ad (M.2 a 9)), (0, .ref (ad a))]) hx hb dX1_readParameters_4 rfl hl (by decide) rfl (fun ls hl => ?_)
  refine lv_aloadq_n hx hb dX1_readParameters_5 rfl (lv_at hl 0 rfl) ?_
  refine lv_iconst (v := (0 : Int32)) hx hb dX1_readParameters_6 (by decide) ?_
  obtain ⟨y1, hy1, hF⟩ := bnd_some hF
  have hf9 := wA_in hD hA9 hS
  refine va_callv (va_runS (As := [va_re ad (M.2 a 9), .int (0 : Int32)]) (rest := []) ⟨hx, hb, hml, hown, hts⟩ (kJ7_fill_53178 l D ct ad Z G M s.heap.size ((M.2 a 9)) ((0 : Int32)) y1 hy1) (va_cwS 2 hts gX1_readParameters_J7_fill_53178 rfl rfl rfl (by decide +kernel) ⟨Nat.le_of_ble_eq_true rfl, Nat.le_of_ble_eq_true rfl⟩) ⟨fun a U g mk q => by obtain ⟨q0, q1, qP, qK, qD, qZ, qN⟩ := q; exact ⟨q0, q1, qP, va_K.moved (u := U) (U := U.calling g mk a) (Vm.Alike.refl U.vm) qK, qD, sF.moved (u := U) (U := U.calling g mk a) (Vm.Alike.refl U.vm) qZ, nF.same rfl qN⟩, fun U hU hW => ⟨rfl, by rw [hU], by rw [hU]; exact hP, va_K.moved hW.alike hK, hD.weaken (fun _ _ _ _ => trivial), by rw [hU]; exact ((hZ.kept hS.2.1).narrow hf9).moved hW.alike, hN.warm hW⟩⟩ rfl rfl hl.1 rfl (lv_room (Nat.le_of_ble_eq_true rfl)) dX1_readParameters_7 ⟨(Nat.zero_le _), (Nat.zero_le _)⟩) hS (fun q _ h => hf9 q h) hf9 (fun u t H locs ht hvm hw hB hz1 hk1 hS => ?_)
  obtain ⟨hP, hK9, hD9⟩ := hB
  rw [ht] at hP
  have hD := hD9.weaken (fun _ q _ h => hf9 q.1 h)
  refine lv_aload_n hx hb dX1_readParameters_10 rfl (lv_at hl 1 rfl) ?_
  refine lv_iconst (v := (3 : Int32)) hx hb dX1_readParameters_11 (by decide) ?_
  obtain ⟨y2, hy2, hF⟩ := bnd_some hF
  have hf9 := wA_in hD hA9 hS
  refine va_calli (va_runV (As := [.int (3 : Int32)]) (rest := []) ⟨hx, hb, hml, hown, hts⟩ (kX1_unsigned l D ct ad Z G y1 H.size a ((3 : Int32)) y2 hc hk hy2) (cwV 1 hts gX1_readParameters_X1_unsigned rfl rfl rfl (by decide +kernel) ⟨Nat.le_of_ble_eq_true rfl, Nat.le_of_ble_eq_true rfl⟩) ⟨fun a U g mk q => by obtain ⟨q0, q1, qP, qK, qD, qZ, qN⟩ := q; exact ⟨q0, q1, qP, va_K.moved (u := U) (U := U.calling g mk a) (Vm.Alike.refl U.vm) qK, qD, sF.moved (u := U) (U := U.calling g mk a) (Vm.Alike.refl U.vm) qZ, nF.same rfl qN⟩, va_recv hK hP (ci := 1) (q0 := a) rfl (wld_o ct ad G y1 hc hk (by decide)), fun U hU hW => ⟨rfl, by rw [hU], by rw [hU]; exact hP, va_K.moved hW.alike hK, hD.weaken (fun _ _ _ _ => trivial), by rw [hU]; exact ((hZ.kept hS.2.1).narrow hf9).moved hW.alike, hN.warm hW⟩⟩ rfl rfl hl.1 rfl (lv_room (Nat.le_of_ble_eq_true rfl)) dX1_readParameters_12 ⟨(Nat.zero_le _), (Nat.zero_le _)⟩) hS (fun q _ h => hf9 q h) hf9 (fun r u t H locs ht hvm hw hB hz1 hk1 hS => ?_)
  obtain ⟨hP, hK9, hD9⟩ := hB
  rw [ht] at hP
  try dsimp only at hw
  subst hw
  have hD := hD9.weaken (fun _ q _ h => hf9 q.1 h)
  refine lv_istore_n (lv' := [(2, .int y2.2), (1, va_re ad (M.2 a 9)), (0, .ref (ad a))]) hx hb dX1_readParameters_15 rfl hl (by decide) (by generalize ((M.2 a 9)) = o9; cases o9 <;> rfl) (fun ls hl => ?_)
  refine lv_aloadq_n hx hb dX1_readParameters_16 rfl (lv_at hl 1 rfl) ?_
  refine lv_iconst (v := (0 : Int32)) hx hb dX1_readParameters_17 (by decide) ?_
  refine lv_aload_n hx hb dX1_readParameters_18 rfl (lv_at hl 2 rfl) ?_
  refine lv_iconst (v := (3 : Int32)) hx hb dX1_readParameters_19 (by decide) ?_
  obtain ⟨y3, hy3, hF⟩ := bnd_some hF
  have hf9 := wA_in hD hA9 hS
  refine va_calli (va_runV (As := [.int (3 : Int32)]) (rest := [.int (0 : Int32), va_re ad (M.2 a 9)]) ⟨hx, hb, hml, hown, hts⟩ (kX1_unsigned l D ct ad Z G y2.1 H.size a ((3 : Int32)) y3 hc hk hy3) (cwV 1 hts gX1_readParameters_X1_unsigned rfl rfl rfl (by decide +kernel) ⟨Nat.le_of_ble_eq_true rfl, Nat.le_of_ble_eq_true rfl⟩) ⟨fun a U g mk q => by obtain ⟨q0, q1, qP, qK, qD, qZ, qN⟩ := q; exact ⟨q0, q1, qP, va_K.moved (u := U) (U := U.calling g mk a) (Vm.Alike.refl U.vm) qK, qD, sF.moved (u := U) (U := U.calling g mk a) (Vm.Alike.refl U.vm) qZ, nF.same rfl qN⟩, va_recv hK hP (ci := 1) (q0 := a) rfl (wld_o ct ad G y2.1 hc hk (by decide)), fun U hU hW => ⟨rfl, by rw [hU], by rw [hU]; exact hP, va_K.moved hW.alike hK, hD.weaken (fun _ _ _ _ => trivial), by rw [hU]; exact ((hZ.kept hS.2.1).narrow hf9).moved hW.alike, hN.warm hW⟩⟩ rfl rfl hl.1 rfl (lv_room (by simp only [List.map, va_re_cat]; exact Nat.le_of_ble_eq_true rfl)) dX1_readParameters_20 ⟨(Nat.zero_le _), (Nat.zero_le _)⟩) hS (fun q _ h => hf9 q h) hf9 (fun r u t H locs ht hvm hw hB hz1 hk1 hS => ?_)
  obtain ⟨hP, hK9, hD9⟩ := hB
  rw [ht] at hP
  try dsimp only at hw
  subst hw
  have hD := hD9.weaken (fun _ q _ h => hf9 q.1 h)
  obtain ⟨b4, ho4, hc4, hk4, hF⟩ := dr_some hF
  refine W_st (st' := [.int y3.2, .int (0 : Int32), .ref (ad b4)]) (by rw [va_some ho4]) ?_
  obtain ⟨hvc, hF⟩ := chk_some hF
  refine va_iast hx hb hK hP hD hS b4 1 (wld_i ct ad G y3.1 hc4 hk4) rfl hvc dX1_readParameters_23 (fun H locs hP hD hS => ?_)
  obtain ⟨M5, eM5, hF⟩ := ltt_some hF
  rw [set_i ct ad G y3.1 hc4 hk4, ← eM5] at hP hD
  refine lv_aloadq_n hx hb dX1_readParameters_24 rfl (lv_at hl 1 rfl) ?_
  refine lv_iconst (v := (1 : Int32)) hx hb dX1_readParameters_25 (by decide) ?_
  refine lv_aload_n hx hb dX1_readParameters_26 rfl (lv_at hl 2 rfl) ?_
  refine va_get (D := D) (ci := 1) (v := va_re ad (M5.2 a 0)) (C := RX1) (T := TX1) (N := 22) hx hb hts (mus hf_X1) hown hK hP a (wld_o ct ad G M5 hc hk (by decide)) rfl 0 (by decide) (hts (.fieldLink RX1 12 "VideoSuite$Decoder" "reader" "LVideoSuite$Reader;") (mu mw_640)) (fun _ h9 => h9) rfl dX1_readParameters_27 ?_
  refine lv_iconst (v := (0 : Int32)) hx hb dX1_readParameters_30 (by decide) ?_
  refine lv_iconst (v := (1 : Int32)) hx hb dX1_readParameters_31 (by decide) ?_
  obtain ⟨b6, ho6, hc6, hk6, hF⟩ := dr_some hF
  refine W_st (st' := [.int (1 : Int32), .int (0 : Int32), .ref (ad b6), .int (1 : Int32), va_re ad (M.2 a 9)]) (by rw [va_some ho6]) ?_
  obtain ⟨y7, hy7, hF⟩ := bnd_some hF
  have hf9 := wA_in hD hA9 hS
  refine va_calli (va_runV (As := [.int (0 : Int32), .int (1 : Int32)]) (rest := [.int (1 : Int32), va_re ad (M.2 a 9)]) ⟨hx, hb, hml, hown, hts⟩ (kX5_fixed l D ct ad Z G M5 H.size b6 ((0 : Int32)) ((1 : Int32)) y7 hc6 hk6 hy7) (cwV 2 hts gX1_readParameters_X5_fixed rfl rfl rfl (by decide +kernel) ⟨Nat.le_of_ble_eq_true rfl, Nat.le_of_ble_eq_true rfl⟩) ⟨fun a U g mk q => by obtain ⟨q0, q1, qP, qK, qD, qZ, qN⟩ := q; exact ⟨q0, q1, qP, va_K.moved (u := U) (U := U.calling g mk a) (Vm.Alike.refl U.vm) qK, qD, sF.moved (u := U) (U := U.calling g mk a) (Vm.Alike.refl U.vm) qZ, nF.same rfl qN⟩, va_recv hK hP (ci := 5) (q0 := b6) rfl (wld_o ct ad G M5 hc6 hk6 (by decide)), fun U hU hW => ⟨rfl, by rw [hU], by rw [hU]; exact hP, va_K.moved hW.alike hK, hD.weaken (fun _ _ _ _ => trivial), by rw [hU]; exact ((hZ.kept hS.2.1).narrow hf9).moved hW.alike, hN.warm hW⟩⟩ rfl rfl hl.1 rfl (lv_room (by simp only [List.map, va_re_cat]; exact Nat.le_of_ble_eq_true rfl)) dX1_readParameters_32 ⟨(Nat.zero_le _), (Nat.zero_le _)⟩) hS (fun q _ h => hf9 q h) hf9 (fun r u t H locs ht hvm hw hB hz1 hk1 hS => ?_)
  obtain ⟨hP, hK9, hD9⟩ := hB
  rw [ht] at hP
  try dsimp only at hw
  subst hw
  have hD := hD9.weaken (fun _ q _ h => hf9 q.1 h)
  refine W_st (st' := [.int y7.2, .int (1 : Int32), .ref (ad b4)]) (by rw [va_some ho4]) ?_
  obtain ⟨hvc, hF⟩ := chk_some hF
  refine va_iast hx hb hK hP hD hS b4 1 (wld_i ct ad G y7.1 hc4 hk4) rfl hvc dX1_readParameters_35 (fun H locs hP hD hS => ?_)
  obtain ⟨M8, eM8, hF⟩ := ltt_some hF
  rw [set_i ct ad G y7.1 hc4 hk4, ← eM8] at hP hD
  refine lv_aloadq_n hx hb dX1_readParameters_36 rfl (lv_at hl 1 rfl) ?_
  refine lv_iconst (v := (2 : Int32)) hx hb dX1_readParameters_37 (by decide) ?_
  refine lv_aload_n hx hb dX1_readParameters_38 rfl (lv_at hl 2 rfl) ?_
  refine va_get (D := D) (ci := 1) (v := va_re ad (M8.2 a 0)) (C := RX1) (T := TX1) (N := 22) hx hb hts (mus hf_X1) hown hK hP a (wld_o ct ad G M8 hc hk (by decide)) rfl 0 (by decide) (hts (.fieldLink RX1 12 "VideoSuite$Decoder" "reader" "LVideoSuite$Reader;") (mu mw_640)) (fun _ h9 => h9) rfl dX1_readParameters_39 ?_
  refine lv_iconst (v := (0 : Int32)) hx hb dX1_readParameters_42 (by decide) ?_
  refine lv_iconst (v := (1 : Int32)) hx hb dX1_readParameters_43 (by decide) ?_
  obtain ⟨b9, ho9, hc9, hk9, hF⟩ := dr_some hF
  refine W_st (st' := [.int (1 : Int32), .int (0 : Int32), .ref (ad b9), .int (2 : Int32), va_re ad (M.2 a 9)]) (by rw [va_some ho9]) ?_
  obtain ⟨y10, hy10, hF⟩ := bnd_some hF
  have hf9 := wA_in hD hA9 hS
  refine va_calli (va_runV (As := [.int (0 : Int32), .int (1 : Int32)]) (rest := [.int (2 : Int32), va_re ad (M.2 a 9)]) ⟨hx, hb, hml, hown, hts⟩ (kX5_fixed l D ct ad Z G M8 H.size b9 ((0 : Int32)) ((1 : Int32)) y10 hc9 hk9 hy10) (cwV 2 hts gX1_readParameters_X5_fixed rfl rfl rfl (by decide +kernel) ⟨Nat.le_of_ble_eq_true rfl, Nat.le_of_ble_eq_true rfl⟩) ⟨fun a U g mk q => by obtain ⟨q0, q1, qP, qK, qD, qZ, qN⟩ := q; exact ⟨q0, q1, qP, va_K.moved (u := U) (U := U.calling g mk a) (Vm.Alike.refl U.vm) qK, qD, sF.moved (u := U) (U := U.calling g mk a) (Vm.Alike.refl U.vm) qZ, nF.same rfl qN⟩, va_recv hK hP (ci := 5) (q0 := b9) rfl (wld_o ct ad G M8 hc9 hk9 (by decide)), fun U hU hW => ⟨rfl, by rw [hU], by rw [hU]; exact hP, va_K.moved hW.alike hK, hD.weaken (fun _ _ _ _ => trivial), by rw [hU]; exact ((hZ.kept hS.2.1).narrow hf9).moved hW.alike, hN.warm hW⟩⟩ rfl rfl hl.1 rfl (lv_room (by simp only [List.map, va_re_cat]; exact Nat.le_of_ble_eq_true rfl)) dX1_readParameters_44 ⟨(Nat.zero_le _), (Nat.zero_le _)⟩) hS (fun q _ h => hf9 q h) hf9 (fun r u t H locs ht hvm hw hB hz1 hk1 hS => ?_)
  obtain ⟨hP, hK9, hD9⟩ := hB
  rw [ht] at hP
  try dsimp only at hw
  subst hw
  have hD := hD9.weaken (fun _ q _ h => hf9 q.1 h)
  refine W_st (st' := [.int y10.2, .int (2 : Int32), .ref (ad b4)]) (by rw [va_some ho4]) ?_
  obtain ⟨hvc, hF⟩ := chk_some hF
  refine va_iast hx hb hK hP hD hS b4 1 (wld_i ct ad G y10.1 hc4 hk4) rfl hvc dX1_readParameters_47 (fun H locs hP hD hS => ?_)
  obtain ⟨M11, eM11, hF⟩ := ltt_some hF
  rw [set_i ct ad G y10.1 hc4 hk4, ← eM11] at hP hD
  refine lv_aload_n hx hb dX1_readParameters_48 rfl (lv_at hl 2 rfl) ?_
  refine lv_iconst (v := (0 : Int32)) hx hb dX1_readParameters_49 (by decide) ?_
  obtain ⟨y12, hy12, hF⟩ := bnd_some hF
  have hf9 := wA_in hD hA9 hS
  refine va_calli (va_runV (As := [.int (0 : Int32)]) (rest := []) ⟨hx, hb, hml, hown, hts⟩ (kX1_unsigned l D ct ad Z G M11 H.size a ((0 : Int32)) y12 hc hk hy12) (cwV 1 hts gX1_readParameters_X1_unsigned rfl rfl rfl (by decide +kernel) ⟨Nat.le_of_ble_eq_true rfl, Nat.le_of_ble_eq_true rfl⟩) ⟨fun a U g mk q => by obtain ⟨q0, q1, qP, qK, qD, qZ, qN⟩ := q; exact ⟨q0, q1, qP, va_K.moved (u := U) (U := U.calling g mk a) (Vm.Alike.refl U.vm) qK, qD, sF.moved (u := U) (U := U.calling g mk a) (Vm.Alike.refl U.vm) qZ, nF.same rfl qN⟩, va_recv hK hP (ci := 1) (q0 := a) rfl (wld_o ct ad G M11 hc hk (by decide)), fun U hU hW => ⟨rfl, by rw [hU], by rw [hU]; exact hP, va_K.moved hW.alike hK, hD.weaken (fun _ _ _ _ => trivial), by rw [hU]; exact ((hZ.kept hS.2.1).narrow hf9).moved hW.alike, hN.warm hW⟩⟩ rfl rfl hl.1 rfl (lv_room (Nat.le_of_ble_eq_true rfl)) dX1_readParameters_50 ⟨(Nat.zero_le _), (Nat.zero_le _)⟩) hS (fun q _ h => hf9 q h) hf9 (fun r u t H locs ht hvm hw hB hz1 hk1 hS => ?_)
  obtain ⟨hP, hK9, hD9⟩ := hB
  rw [ht] at hP
  try dsimp only at hw
  subst hw
  have hD := hD9.weaken (fun _ q _ h => hf9 q.1 h)
  refine lv_pop hx hb dX1_readParameters_53 rfl ?_
  refine lv_aloadq_n hx hb dX1_readParameters_54 rfl (lv_at hl 1 rfl) ?_
  refine lv_iconst (v := (3 : Int32)) hx hb dX1_readParameters_55 (by decide) ?_
  refine lv_aload_n hx hb dX1_readParameters_56 rfl (lv_at hl 2 rfl) ?_
  refine lv_bipush (v := (7 : Int32)) hx hb dX1_readParameters_57 (by decide) ?_
  obtain ⟨y13, hy13, hF⟩ := bnd_some hF
  have hf9 := wA_in hD hA9 hS
  refine va_calli (va_runV (As := [.int (7 : Int32)]) (rest := [.int (3 : Int32), va_re ad (M.2 a 9)]) ⟨hx, hb, hml, hown, hts⟩ (kX1_unsigned l D ct ad Z G y12.1 H.size a ((7 : Int32)) y13 hc hk hy13) (cwV 1 hts gX1_readParameters_X1_unsigned rfl rfl rfl (by decide +kernel) ⟨Nat.le_of_ble_eq_true rfl, Nat.le_of_ble_eq_true rfl⟩) ⟨fun a U g mk q => by obtain ⟨q0, q1, qP, qK, qD, qZ, qN⟩ := q; exact ⟨q0, q1, qP, va_K.moved (u := U) (U := U.calling g mk a) (Vm.Alike.refl U.vm) qK, qD, sF.moved (u := U) (U := U.calling g mk a) (Vm.Alike.refl U.vm) qZ, nF.same rfl qN⟩, va_recv hK hP (ci := 1) (q0 := a) rfl (wld_o ct ad G y12.1 hc hk (by decide)), fun U hU hW => ⟨rfl, by rw [hU], by rw [hU]; exact hP, va_K.moved hW.alike hK, hD.weaken (fun _ _ _ _ => trivial), by rw [hU]; exact ((hZ.kept hS.2.1).narrow hf9).moved hW.alike, hN.warm hW⟩⟩ rfl rfl hl.1 rfl (lv_room (by simp only [List.map, va_re_cat]; exact Nat.le_of_ble_eq_true rfl)) dX1_readParameters_59 ⟨(Nat.zero_le _), (Nat.zero_le _)⟩) hS (fun q _ h => hf9 q h) hf9 (fun r u t H locs ht hvm hw hB hz1 hk1 hS => ?_)
  obtain ⟨hP, hK9, hD9⟩ := hB
  rw [ht] at hP
  try dsimp only at hw
  subst hw
  have hD := hD9.weaken (fun _ q _ h => hf9 q.1 h)
  refine lv_iconst (v := (1 : Int32)) hx hb dX1_readParameters_62 (by decide) ?_
  refine lv_iadd hx hb dX1_readParameters_63 ?_
  obtain ⟨x14, ex14, hF⟩ := ltt_some hF
  refine lv_topi (fun zx14 ezx14 => ?_)
  obtain rfl : x14 = zx14 := ex14.trans ezx14.symm
  refine W_st (st' := [.int x14, .int (3 : Int32), .ref (ad b4)]) (by rw [va_some ho4]) ?_
  obtain ⟨hvc, hF⟩ := chk_some hF
  refine va_iast hx hb hK hP hD hS b4 1 (wld_i ct ad G y13.1 hc4 hk4) rfl hvc dX1_readParameters_64 (fun H locs hP hD hS => ?_)
  obtain ⟨M15, eM15, hF⟩ := ltt_some hF
  rw [set_i ct ad G y13.1 hc4 hk4, ← eM15] at hP hD
  refine lv_aloadq_n hx hb dX1_readParameters_65 rfl (lv_at hl 1 rfl) ?_
  refine lv_iconst (v := (4 : Int32)) hx hb dX1_readParameters_66 (by decide) ?_
  refine lv_aload_n hx hb dX1_readParameters_67 rfl (lv_at hl 2 rfl) ?_
  refine lv_bipush (v := (7 : Int32)) hx hb dX1_readParameters_68 (by decide) ?_
  obtain ⟨y16, hy16, hF⟩ := bnd_some hF
  have hf9 := wA_in hD hA9 hS
  refine va_calli (va_runV (As := [.int (7 : Int32)]) (rest := [.int (4 : Int32), va_re ad (M.2 a 9)]) ⟨hx, hb, hml, hown, hts⟩ (kX1_unsigned l D ct ad Z G M15 H.size a ((7 : Int32)) y16 hc hk hy16) (cwV 1 hts gX1_readParameters_X1_unsigned rfl rfl rfl (by decide +kernel) ⟨Nat.le_of_ble_eq_true rfl, Nat.le_of_ble_eq_true rfl⟩) ⟨fun a U g mk q => by obtain ⟨q0, q1, qP, qK, qD, qZ, qN⟩ := q; exact ⟨q0, q1, qP, va_K.moved (u := U) (U := U.calling g mk a) (Vm.Alike.refl U.vm) qK, qD, sF.moved (u := U) (U := U.calling g mk a) (Vm.Alike.refl U.vm) qZ, nF.same rfl qN⟩, va_recv hK hP (ci := 1) (q0 := a) rfl (wld_o ct ad G M15 hc hk (by decide)), fun U hU hW => ⟨rfl, by rw [hU], by rw [hU]; exact hP, va_K.moved hW.alike hK, hD.weaken (fun _ _ _ _ => trivial), by rw [hU]; exact ((hZ.kept hS.2.1).narrow hf9).moved hW.alike, hN.warm hW⟩⟩ rfl rfl hl.1 rfl (lv_room (by simp only [List.map, va_re_cat]; exact Nat.le_of_ble_eq_true rfl)) dX1_readParameters_70 ⟨(Nat.zero_le _), (Nat.zero_le _)⟩) hS (fun q _ h => hf9 q h) hf9 (fun r u t H locs ht hvm hw hB hz1 hk1 hS => ?_)
  obtain ⟨hP, hK9, hD9⟩ := hB
  rw [ht] at hP
  try dsimp only at hw
  subst hw
  have hD := hD9.weaken (fun _ q _ h => hf9 q.1 h)
  refine lv_iconst (v := (1 : Int32)) hx hb dX1_readParameters_73 (by decide) ?_
  refine lv_iadd hx hb dX1_readParameters_74 ?_
  obtain ⟨x17, ex17, hF⟩ := ltt_some hF
  refine lv_topi (fun zx17 ezx17 => ?_)
  obtain rfl : x17 = zx17 := ex17.trans ezx17.symm
  refine W_st (st' := [.int x17, .int (4 : Int32), .ref (ad b4)]) (by rw [va_some ho4]) ?_
  obtain ⟨hvc, hF⟩ := chk_some hF
  refine va_iast hx hb hK hP hD hS b4 1 (wld_i ct ad G y16.1 hc4 hk4) rfl hvc dX1_readParameters_75 (fun H locs hP hD hS => ?_)
  obtain ⟨M18, eM18, hF⟩ := ltt_some hF
  rw [set_i ct ad G y16.1 hc4 hk4, ← eM18] at hP hD
  refine lv_aloadq_n hx hb dX1_readParameters_76 rfl (lv_at hl 1 rfl) ?_
  refine lv_iconst (v := (5 : Int32)) hx hb dX1_readParameters_77 (by decide) ?_
  refine lv_aload_n hx hb dX1_readParameters_78 rfl (lv_at hl 2 rfl) ?_
  refine va_get (D := D) (ci := 1) (v := va_re ad (M18.2 a 0)) (C := RX1) (T := TX1) (N := 22) hx hb hts (mus hf_X1) hown hK hP a (wld_o ct ad G M18 hc hk (by decide)) rfl 0 (by decide) (hts (.fieldLink RX1 12 "VideoSuite$Decoder" "reader" "LVideoSuite$Reader;") (mu mw_640)) (fun _ h9 => h9) rfl dX1_readParameters_79 ?_
  refine lv_iconst (v := (0 : Int32)) hx hb dX1_readParameters_82 (by decide) ?_
  refine lv_iconst (v := (1 : Int32)) hx hb dX1_readParameters_83 (by decide) ?_
  obtain ⟨b19, ho19, hc19, hk19, hF⟩ := dr_some hF
  refine W_st (st' := [.int (1 : Int32), .int (0 : Int32), .ref (ad b19), .int (5 : Int32), va_re ad (M.2 a 9)]) (by rw [va_some ho19]) ?_
  obtain ⟨y20, hy20, hF⟩ := bnd_some hF
  have hf9 := wA_in hD hA9 hS
  refine va_calli (va_runV (As := [.int (0 : Int32), .int (1 : Int32)]) (rest := [.int (5 : Int32), va_re ad (M.2 a 9)]) ⟨hx, hb, hml, hown, hts⟩ (kX5_fixed l D ct ad Z G M18 H.size b19 ((0 : Int32)) ((1 : Int32)) y20 hc19 hk19 hy20) (cwV 2 hts gX1_readParameters_X5_fixed rfl rfl rfl (by decide +kernel) ⟨Nat.le_of_ble_eq_true rfl, Nat.le_of_ble_eq_true rfl⟩) ⟨fun a U g mk q => by obtain ⟨q0, q1, qP, qK, qD, qZ, qN⟩ := q; exact ⟨q0, q1, qP, va_K.moved (u := U) (U := U.calling g mk a) (Vm.Alike.refl U.vm) qK, qD, sF.moved (u := U) (U := U.calling g mk a) (Vm.Alike.refl U.vm) qZ, nF.same rfl qN⟩, va_recv hK hP (ci := 5) (q0 := b19) rfl (wld_o ct ad G M18 hc19 hk19 (by decide)), fun U hU hW => ⟨rfl, by rw [hU], by rw [hU]; exact hP, va_K.moved hW.alike hK, hD.weaken (fun _ _ _ _ => trivial), by rw [hU]; exact ((hZ.kept hS.2.1).narrow hf9).moved hW.alike, hN.warm hW⟩⟩ rfl rfl hl.1 rfl (lv_room (by simp only [List.map, va_re_cat]; exact Nat.le_of_ble_eq_true rfl)) dX1_readParameters_84 ⟨(Nat.zero_le _), (Nat.zero_le _)⟩) hS (fun q _ h => hf9 q h) hf9 (fun r u t H locs ht hvm hw hB hz1 hk1 hS => ?_)
  obtain ⟨hP, hK9, hD9⟩ := hB
  rw [ht] at hP
  try dsimp only at hw
  subst hw
  have hD := hD9.weaken (fun _ q _ h => hf9 q.1 h)
  refine W_st (st' := [.int y20.2, .int (5 : Int32), .ref (ad b4)]) (by rw [va_some ho4]) ?_
  obtain ⟨hvc, hF⟩ := chk_some hF
  refine va_iast hx hb hK hP hD hS b4 1 (wld_i ct ad G y20.1 hc4 hk4) rfl hvc dX1_readParameters_87 (fun H locs hP hD hS => ?_)
  obtain ⟨M21, eM21, hF⟩ := ltt_some hF
  rw [set_i ct ad G y20.1 hc4 hk4, ← eM21] at hP hD
  refine lv_aloadq_n hx hb dX1_readParameters_88 rfl (lv_at hl 1 rfl) ?_
  refine lv_bipush (v := (6 : Int32)) hx hb dX1_readParameters_89 (by decide) ?_
  refine lv_aload_n hx hb dX1_readParameters_91 rfl (lv_at hl 2 rfl) ?_
  refine va_get (D := D) (ci := 1) (v := va_re ad (M21.2 a 0)) (C := RX1) (T := TX1) (N := 22) hx hb hts (mus hf_X1) hown hK hP a (wld_o ct ad G M21 hc hk (by decide)) rfl 0 (by decide) (hts (.fieldLink RX1 12 "VideoSuite$Decoder" "reader" "LVideoSuite$Reader;") (mu mw_640)) (fun _ h9 => h9) rfl dX1_readParameters_92 ?_
  refine lv_iconst (v := (0 : Int32)) hx hb dX1_readParameters_95 (by decide) ?_
  refine lv_iconst (v := (2 : Int32)) hx hb dX1_readParameters_96 (by decide) ?_
  obtain ⟨b22, ho22, hc22, hk22, hF⟩ := dr_some hF
  refine W_st (st' := [.int (2 : Int32), .int (0 : Int32), .ref (ad b22), .int (6 : Int32), va_re ad (M.2 a 9)]) (by rw [va_some ho22]) ?_
  obtain ⟨y23, hy23, hF⟩ := bnd_some hF
  have hf9 := wA_in hD hA9 hS
  refine va_calli (va_runV (As := [.int (0 : Int32), .int (2 : Int32)]) (rest := [.int (6 : Int32), va_re ad (M.2 a 9)]) ⟨hx, hb, hml, hown, hts⟩ (kX5_fixed l D ct ad Z G M21 H.size b22 ((0 : Int32)) ((2 : Int32)) y23 hc22 hk22 hy23) (cwV 2 hts gX1_readParameters_X5_fixed rfl rfl rfl (by decide +kernel) ⟨Nat.le_of_ble_eq_true rfl, Nat.le_of_ble_eq_true rfl⟩) ⟨fun a U g mk q => by obtain ⟨q0, q1, qP, qK, qD, qZ, qN⟩ := q; exact ⟨q0, q1, qP, va_K.moved (u := U) (U := U.calling g mk a) (Vm.Alike.refl U.vm) qK, qD, sF.moved (u := U) (U := U.calling g mk a) (Vm.Alike.refl U.vm) qZ, nF.same rfl qN⟩, va_recv hK hP (ci := 5) (q0 := b22) rfl (wld_o ct ad G M21 hc22 hk22 (by decide)), fun U hU hW => ⟨rfl, by rw [hU], by rw [hU]; exact hP, va_K.moved hW.alike hK, hD.weaken (fun _ _ _ _ => trivial), by rw [hU]; exact ((hZ.kept hS.2.1).narrow hf9).moved hW.alike, hN.warm hW⟩⟩ rfl rfl hl.1 rfl (lv_room (by simp only [List.map, va_re_cat]; exact Nat.le_of_ble_eq_true rfl)) dX1_readParameters_97 ⟨(Nat.zero_le _), (Nat.zero_le _)⟩) hS (fun q _ h => hf9 q h) hf9 (fun r u t H locs ht hvm hw hB hz1 hk1 hS => ?_)
  obtain ⟨hP, hK9, hD9⟩ := hB
  rw [ht] at hP
  try dsimp only at hw
  subst hw
  have hD := hD9.weaken (fun _ q _ h => hf9 q.1 h)
  refine W_st (st' := [.int y23.2, .int (6 : Int32), .ref (ad b4)]) (by rw [va_some ho4]) ?_
  obtain ⟨hvc, hF⟩ := chk_some hF
  refine va_iast hx hb hK hP hD hS b4 1 (wld_i ct ad G y23.1 hc4 hk4) rfl hvc dX1_readParameters_100 (fun H locs hP hD hS => ?_)
  obtain ⟨M24, eM24, hF⟩ := ltt_some hF
  rw [set_i ct ad G y23.1 hc4 hk4, ← eM24] at hP hD
  refine lv_aloadq_n hx hb dX1_readParameters_101 rfl (lv_at hl 1 rfl) ?_
  refine lv_bipush (v := (6 : Int32)) hx hb dX1_readParameters_102 (by decide) ?_
  refine W_st (st' := [.int (6 : Int32), .ref (ad b4)]) (by rw [va_some ho4]) ?_
  obtain ⟨hvc, hF⟩ := chk_some hF
  refine va_iald hx hb hK hP b4 1 (wld_i ct ad G M24 hc4 hk4) rfl hvc dX1_readParameters_104 ?_
  obtain ⟨x25, ex25, hF⟩ := ltt_some hF
  refine lv_topi (fun zx25 ezx25 => ?_)
  obtain rfl : x25 = zx25 := ex25.trans ezx25.symm
  refine lv_iconst (v := (2 : Int32)) hx hb dX1_readParameters_105 (by decide) ?_
  obtain ⟨y26, hy26, hF⟩ := bnd_some hF
  have J26 : ∀ (H : Heap) (locs : List Loc) (ls : Array Slot), va_P D classes (wld ct ad G y26) H → va_D A (wld ct ad G y26) → va_S A s.heap H locs → lv_has ls 3 [(2, .int y2.2), (1, va_re ad (M.2 a 9)), (0, .ref (ad a))] → W p l e (headSpec wuX1_readParameters ({ frames := 3, cells := 0, slots := 0, locals := 81 })).room s m ([.ref (ad a)] : List Value).toArray below meth c H locs 0 0 (MQ below (va_Qv (fun (_ : Unit) => True) (fun _ t => kE D ct ad G A y t) A) ([.ref (ad a)] : List Value).toArray s 0 0 A) (F0 m 124 ls []) := by
    intro H locs ls hP hD hS hl
    refine lv_aloadq_n hx hb dX1_readParameters_124 rfl (lv_at hl 1 rfl) ?_
    refine lv_bipush (v := (7 : Int32)) hx hb dX1_readParameters_125 (by decide) ?_
    refine lv_aload_n hx hb dX1_readParameters_127 rfl (lv_at hl 2 rfl) ?_
    refine lv_bipush (v := (-26 : Int32)) hx hb dX1_readParameters_128 (by decide) ?_
    refine lv_bipush (v := (25 : Int32)) hx hb dX1_readParameters_130 (by decide) ?_
    obtain ⟨y27, hy27, hF⟩ := bnd_some hF
    have hf9 := wA_in hD hA9 hS
    refine va_calli (va_runV (As := [.int (-26 : Int32), .int (25 : Int32)]) (rest := [.int (7 : Int32), va_re ad (M.2 a 9)]) ⟨hx, hb, hml, hown, hts⟩ (kX1_signed l D ct ad Z G y26 H.size a ((-26 : Int32)) ((25 : Int32)) y27 hc hk hy27) (cwV 2 hts gX1_readParameters_X1_signed rfl rfl rfl (by decide +kernel) ⟨Nat.le_of_ble_eq_true rfl, Nat.le_of_ble_eq_true rfl⟩) ⟨fun a U g mk q => by obtain ⟨q0, q1, qP, qK, qD, qZ, qN⟩ := q; exact ⟨q0, q1, qP, va_K.moved (u := U) (U := U.calling g mk a) (Vm.Alike.refl U.vm) qK, qD, sF.moved (u := U) (U := U.calling g mk a) (Vm.Alike.refl U.vm) qZ, nF.same rfl qN⟩, va_recv hK hP (ci := 1) (q0 := a) rfl (wld_o ct ad G y26 hc hk (by decide)), fun U hU hW => ⟨rfl, by rw [hU], by rw [hU]; exact hP, va_K.moved hW.alike hK, hD.weaken (fun _ _ _ _ => trivial), by rw [hU]; exact ((hZ.kept hS.2.1).narrow hf9).moved hW.alike, hN.warm hW⟩⟩ rfl rfl hl.1 rfl (lv_room (by simp only [List.map, va_re_cat]; exact Nat.le_of_ble_eq_true rfl)) dX1_readParameters_132 ⟨(Nat.zero_le _), (Nat.zero_le _)⟩) hS (fun q _ h => hf9 q h) hf9 (fun r u t H locs ht hvm hw hB hz1 hk1 hS => ?_)
    obtain ⟨hP, hK9, hD9⟩ := hB
    rw [ht] at hP
    try dsimp only at hw
    subst hw
    have hD := hD9.weaken (fun _ q _ h => hf9 q.1 h)
    refine W_st (st' := [.int y27.2, .int (7 : Int32), .ref (ad b4)]) (by rw [va_some ho4]) ?_
    obtain ⟨hvc, hF⟩ := chk_some hF
    refine va_iast hx hb hK hP hD hS b4 1 (wld_i ct ad G y27.1 hc4 hk4) rfl hvc dX1_readParameters_135 (fun H locs hP hD hS => ?_)
    obtain ⟨M28, eM28, hF⟩ := ltt_some hF
    rw [set_i ct ad G y27.1 hc4 hk4, ← eM28] at hP hD
    refine lv_aload_n hx hb dX1_readParameters_136 rfl (lv_at hl 2 rfl) ?_
    refine lv_bipush (v := (-26 : Int32)) hx hb dX1_readParameters_137 (by decide) ?_
    refine lv_bipush (v := (25 : Int32)) hx hb dX1_readParameters_139 (by decide) ?_
    obtain ⟨y29, hy29, hF⟩ := bnd_some hF
    have hf9 := wA_in hD hA9 hS
    refine va_calli (va_runV (As := [.int (-26 : Int32), .int (25 : Int32)]) (rest := []) ⟨hx, hb, hml, hown, hts⟩ (kX1_signed l D ct ad Z G M28 H.size a ((-26 : Int32)) ((25 : Int32)) y29 hc hk hy29) (cwV 2 hts gX1_readParameters_X1_signed rfl rfl rfl (by decide +kernel) ⟨Nat.le_of_ble_eq_true rfl, Nat.le_of_ble_eq_true rfl⟩) ⟨fun a U g mk q => by obtain ⟨q0, q1, qP, qK, qD, qZ, qN⟩ := q; exact ⟨q0, q1, qP, va_K.moved (u := U) (U := U.calling g mk a) (Vm.Alike.refl U.vm) qK, qD, sF.moved (u := U) (U := U.calling g mk a) (Vm.Alike.refl U.vm) qZ, nF.same rfl qN⟩, va_recv hK hP (ci := 1) (q0 := a) rfl (wld_o ct ad G M28 hc hk (by decide)), fun U hU hW => ⟨rfl, by rw [hU], by rw [hU]; exact hP, va_K.moved hW.alike hK, hD.weaken (fun _ _ _ _ => trivial), by rw [hU]; exact ((hZ.kept hS.2.1).narrow hf9).moved hW.alike, hN.warm hW⟩⟩ rfl rfl hl.1 rfl (lv_room (Nat.le_of_ble_eq_true rfl)) dX1_readParameters_141 ⟨(Nat.zero_le _), (Nat.zero_le _)⟩) hS (fun q _ h => hf9 q h) hf9 (fun r u t H locs ht hvm hw hB hz1 hk1 hS => ?_)
    obtain ⟨hP, hK9, hD9⟩ := hB
    rw [ht] at hP
    try dsimp only at hw
    subst hw
    have hD := hD9.weaken (fun _ q _ h => hf9 q.1 h)
    refine lv_pop hx hb dX1_readParameters_144 rfl ?_
    refine lv_aloadq_n hx hb dX1_readParameters_145 rfl (lv_at hl 1 rfl) ?_
    refine lv_bipush (v := (8 : Int32)) hx hb dX1_readParameters_146 (by decide) ?_
    refine lv_aload_n hx hb dX1_readParameters_148 rfl (lv_at hl 2 rfl) ?_
    refine lv_bipush (v := (-12 : Int32)) hx hb dX1_readParameters_149 (by decide) ?_
    refine lv_bipush (v := (12 : Int32)) hx hb dX1_readParameters_151 (by decide) ?_
    obtain ⟨y30, hy30, hF⟩ := bnd_some hF
    have hf9 := wA_in hD hA9 hS
    refine va_calli (va_runV (As := [.int (-12 : Int32), .int (12 : Int32)]) (rest := [.int (8 : Int32), va_re ad (M.2 a 9)]) ⟨hx, hb, hml, hown, hts⟩ (kX1_signed l D ct ad Z G y29.1 H.size a ((-12 : Int32)) ((12 : Int32)) y30 hc hk hy30) (cwV 2 hts gX1_readParameters_X1_signed rfl rfl rfl (by decide +kernel) ⟨Nat.le_of_ble_eq_true rfl, Nat.le_of_ble_eq_true rfl⟩) ⟨fun a U g mk q => by obtain ⟨q0, q1, qP, qK, qD, qZ, qN⟩ := q; exact ⟨q0, q1, qP, va_K.moved (u := U) (U := U.calling g mk a) (Vm.Alike.refl U.vm) qK, qD, sF.moved (u := U) (U := U.calling g mk a) (Vm.Alike.refl U.vm) qZ, nF.same rfl qN⟩, va_recv hK hP (ci := 1) (q0 := a) rfl (wld_o ct ad G y29.1 hc hk (by decide)), fun U hU hW => ⟨rfl, by rw [hU], by rw [hU]; exact hP, va_K.moved hW.alike hK, hD.weaken (fun _ _ _ _ => trivial), by rw [hU]; exact ((hZ.kept hS.2.1).narrow hf9).moved hW.alike, hN.warm hW⟩⟩ rfl rfl hl.1 rfl (lv_room (by simp only [List.map, va_re_cat]; exact Nat.le_of_ble_eq_true rfl)) dX1_readParameters_153 ⟨(Nat.zero_le _), (Nat.zero_le _)⟩) hS (fun q _ h => hf9 q h) hf9 (fun r u t H locs ht hvm hw hB hz1 hk1 hS => ?_)
    obtain ⟨hP, hK9, hD9⟩ := hB
    rw [ht] at hP
    try dsimp only at hw
    subst hw
    have hD := hD9.weaken (fun _ q _ h => hf9 q.1 h)
    refine W_st (st' := [.int y30.2, .int (8 : Int32), .ref (ad b4)]) (by rw [va_some ho4]) ?_
    obtain ⟨hvc, hF⟩ := chk_some hF
    refine va_iast hx hb hK hP hD hS b4 1 (wld_i ct ad G y30.1 hc4 hk4) rfl hvc dX1_readParameters_156 (fun H locs hP hD hS => ?_)
    obtain ⟨M31, eM31, hF⟩ := ltt_some hF
    rw [set_i ct ad G y30.1 hc4 hk4, ← eM31] at hP hD
    refine lv_aloadq_n hx hb dX1_readParameters_157 rfl (lv_at hl 1 rfl) ?_
    refine lv_bipush (v := (9 : Int32)) hx hb dX1_readParameters_158 (by decide) ?_
    refine lv_aload_n hx hb dX1_readParameters_160 rfl (lv_at hl 2 rfl) ?_
    refine va_get (D := D) (ci := 1) (v := va_re ad (M31.2 a 0)) (C := RX1) (T := TX1) (N := 22) hx hb hts (mus hf_X1) hown hK hP a (wld_o ct ad G M31 hc hk (by decide)) rfl 0 (by decide) (hts (.fieldLink RX1 12 "VideoSuite$Decoder" "reader" "LVideoSuite$Reader;") (mu mw_640)) (fun _ h9 => h9) rfl dX1_readParameters_161 ?_
    refine lv_iconst (v := (0 : Int32)) hx hb dX1_readParameters_164 (by decide) ?_
    refine lv_iconst (v := (1 : Int32)) hx hb dX1_readParameters_165 (by decide) ?_
    obtain ⟨b32, ho32, hc32, hk32, hF⟩ := dr_some hF
    refine W_st (st' := [.int (1 : Int32), .int (0 : Int32), .ref (ad b32), .int (9 : Int32), va_re ad (M.2 a 9)]) (by rw [va_some ho32]) ?_
    obtain ⟨y33, hy33, hF⟩ := bnd_some hF
    have hf9 := wA_in hD hA9 hS
    refine va_calli (va_runV (As := [.int (0 : Int32), .int (1 : Int32)]) (rest := [.int (9 : Int32), va_re ad (M.2 a 9)]) ⟨hx, hb, hml, hown, hts⟩ (kX5_fixed l D ct ad Z G M31 H.size b32 ((0 : Int32)) ((1 : Int32)) y33 hc32 hk32 hy33) (cwV 2 hts gX1_readParameters_X5_fixed rfl rfl rfl (by decide +kernel) ⟨Nat.le_of_ble_eq_true rfl, Nat.le_of_ble_eq_true rfl⟩) ⟨fun a U g mk q => by obtain ⟨q0, q1, qP, qK, qD, qZ, qN⟩ := q; exact ⟨q0, q1, qP, va_K.moved (u := U) (U := U.calling g mk a) (Vm.Alike.refl U.vm) qK, qD, sF.moved (u := U) (U := U.calling g mk a) (Vm.Alike.refl U.vm) qZ, nF.same rfl qN⟩, va_recv hK hP (ci := 5) (q0 := b32) rfl (wld_o ct ad G M31 hc32 hk32 (by decide)), fun U hU hW => ⟨rfl, by rw [hU], by rw [hU]; exact hP, va_K.moved hW.alike hK, hD.weaken (fun _ _ _ _ => trivial), by rw [hU]; exact ((hZ.kept hS.2.1).narrow hf9).moved hW.alike, hN.warm hW⟩⟩ rfl rfl hl.1 rfl (lv_room (by simp only [List.map, va_re_cat]; exact Nat.le_of_ble_eq_true rfl)) dX1_readParameters_166 ⟨(Nat.zero_le _), (Nat.zero_le _)⟩) hS (fun q _ h => hf9 q h) hf9 (fun r u t H locs ht hvm hw hB hz1 hk1 hS => ?_)
    obtain ⟨hP, hK9, hD9⟩ := hB
    rw [ht] at hP
    try dsimp only at hw
    subst hw
    have hD := hD9.weaken (fun _ q _ h => hf9 q.1 h)
    refine W_st (st' := [.int y33.2, .int (9 : Int32), .ref (ad b4)]) (by rw [va_some ho4]) ?_
    obtain ⟨hvc, hF⟩ := chk_some hF
    refine va_iast hx hb hK hP hD hS b4 1 (wld_i ct ad G y33.1 hc4 hk4) rfl hvc dX1_readParameters_169 (fun H locs hP hD hS => ?_)
    obtain ⟨M34, eM34, hF⟩ := ltt_some hF
    rw [set_i ct ad G y33.1 hc4 hk4, ← eM34] at hP hD
    refine lv_aloadq_n hx hb dX1_readParameters_170 rfl (lv_at hl 1 rfl) ?_
    refine lv_bipush (v := (10 : Int32)) hx hb dX1_readParameters_171 (by decide) ?_
    refine lv_aload_n hx hb dX1_readParameters_173 rfl (lv_at hl 2 rfl) ?_
    refine va_get (D := D) (ci := 1) (v := va_re ad (M34.2 a 0)) (C := RX1) (T := TX1) (N := 22) hx hb hts (mus hf_X1) hown hK hP a (wld_o ct ad G M34 hc hk (by decide)) rfl 0 (by decide) (hts (.fieldLink RX1 12 "VideoSuite$Decoder" "reader" "LVideoSuite$Reader;") (mu mw_640)) (fun _ h9 => h9) rfl dX1_readParameters_174 ?_
    refine lv_iconst (v := (0 : Int32)) hx hb dX1_readParameters_177 (by decide) ?_
    refine lv_iconst (v := (1 : Int32)) hx hb dX1_readParameters_178 (by decide) ?_
    obtain ⟨b35, ho35, hc35, hk35, hF⟩ := dr_some hF
    refine W_st (st' := [.int (1 : Int32), .int (0 : Int32), .ref (ad b35), .int (10 : Int32), va_re ad (M.2 a 9)]) (by rw [va_some ho35]) ?_
    obtain ⟨y36, hy36, hF⟩ := bnd_some hF
    have hf9 := wA_in hD hA9 hS
    refine va_calli (va_runV (As := [.int (0 : Int32), .int (1 : Int32)]) (rest := [.int (10 : Int32), va_re ad (M.2 a 9)]) ⟨hx, hb, hml, hown, hts⟩ (kX5_fixed l D ct ad Z G M34 H.size b35 ((0 : Int32)) ((1 : Int32)) y36 hc35 hk35 hy36) (cwV 2 hts gX1_readParameters_X5_fixed rfl rfl rfl (by decide +kernel) ⟨Nat.le_of_ble_eq_true rfl, Nat.le_of_ble_eq_true rfl⟩) ⟨fun a U g mk q => by obtain ⟨q0, q1, qP, qK, qD, qZ, qN⟩ := q; exact ⟨q0, q1, qP, va_K.moved (u := U) (U := U.calling g mk a) (Vm.Alike.refl U.vm) qK, qD, sF.moved (u := U) (U := U.calling g mk a) (Vm.Alike.refl U.vm) qZ, nF.same rfl qN⟩, va_recv hK hP (ci := 5) (q0 := b35) rfl (wld_o ct ad G M34 hc35 hk35 (by decide)), fun U hU hW => ⟨rfl, by rw [hU], by rw [hU]; exact hP, va_K.moved hW.alike hK, hD.weaken (fun _ _ _ _ => trivial), by rw [hU]; exact ((hZ.kept hS.2.1).narrow hf9).moved hW.alike, hN.warm hW⟩⟩ rfl rfl hl.1 rfl (lv_room (by simp only [List.map, va_re_cat]; exact Nat.le_of_ble_eq_true rfl)) dX1_readParameters_179 ⟨(Nat.zero_le _), (Nat.zero_le _)⟩) hS (fun q _ h => hf9 q h) hf9 (fun r u t H locs ht hvm hw hB hz1 hk1 hS => ?_)
    obtain ⟨hP, hK9, hD9⟩ := hB
    rw [ht] at hP
    try dsimp only at hw
    subst hw
    have hD := hD9.weaken (fun _ q _ h => hf9 q.1 h)
    refine W_st (st' := [.int y36.2, .int (10 : Int32), .ref (ad b4)]) (by rw [va_some ho4]) ?_
    obtain ⟨hvc, hF⟩ := chk_some hF
    refine va_iast hx hb hK hP hD hS b4 1 (wld_i ct ad G y36.1 hc4 hk4) rfl hvc dX1_readParameters_182 (fun H locs hP hD hS => ?_)
    obtain ⟨M37, eM37, hF⟩ := ltt_some hF
    rw [set_i ct ad G y36.1 hc4 hk4, ← eM37] at hP hD
    refine lv_aload_n hx hb dX1_readParameters_183 rfl (lv_at hl 2 rfl) ?_
    refine va_get (D := D) (ci := 1) (v := va_re ad (M37.2 a 0)) (C := RX1) (T := TX1) (N := 22) hx hb hts (mus hf_X1) hown hK hP a (wld_o ct ad G M37 hc hk (by decide)) rfl 0 (by decide) (hts (.fieldLink RX1 12 "VideoSuite$Decoder" "reader" "LVideoSuite$Reader;") (mu mw_640)) (fun _ h9 => h9) rfl dX1_readParameters_184 ?_
    refine lv_iconst (v := (0 : Int32)) hx hb dX1_readParameters_187 (by decide) ?_
    obtain ⟨b38, ho38, hc38, hk38, hF⟩ := dr_some hF
    refine W_st (st' := [.int (0 : Int32), .ref (ad b38)]) (by rw [va_some ho38]) ?_
    obtain ⟨y39, hy39, hF⟩ := bnd_some hF
    have hf9 := wA_in hD hA9 hS
    refine va_callv (va_runV (As := [.int (0 : Int32)]) (rest := []) ⟨hx, hb, hml, hown, hts⟩ (kX5_expect l D ct ad Z G M37 H.size b38 ((0 : Int32)) y39 hc38 hk38 hy39) (cwV 1 hts gX1_readParameters_X5_expect rfl rfl rfl (by decide +kernel) ⟨Nat.le_of_ble_eq_true rfl, Nat.le_of_ble_eq_true rfl⟩) ⟨fun a U g mk q => by obtain ⟨q0, q1, qP, qK, qD, qZ, qN⟩ := q; exact ⟨q0, q1, qP, va_K.moved (u := U) (U := U.calling g mk a) (Vm.Alike.refl U.vm) qK, qD, sF.moved (u := U) (U := U.calling g mk a) (Vm.Alike.refl U.vm) qZ, nF.same rfl qN⟩, va_recv hK hP (ci := 5) (q0 := b38) rfl (wld_o ct ad G M37 hc38 hk38 (by decide)), fun U hU hW => ⟨rfl, by rw [hU], by rw [hU]; exact hP, va_K.moved hW.alike hK, hD.weaken (fun _ _ _ _ => trivial), by rw [hU]; exact ((hZ.kept hS.2.1).narrow hf9).moved hW.alike, hN.warm hW⟩⟩ rfl rfl hl.1 rfl (lv_room (Nat.le_of_ble_eq_true rfl)) dX1_readParameters_188 ⟨(Nat.zero_le _), (Nat.zero_le _)⟩) hS (fun q _ h => hf9 q h) hf9 (fun u t H locs ht hvm hw hB hz1 hk1 hS => ?_)
    obtain ⟨hP, hK9, hD9⟩ := hB
    rw [ht] at hP
    have hD := hD9.weaken (fun _ q _ h => hf9 q.1 h)
    refine lv_aloadq_n hx hb dX1_readParameters_191 rfl (lv_at hl 1 rfl) ?_
    refine lv_bipush (v := (11 : Int32)) hx hb dX1_readParameters_192 (by decide) ?_
    refine lv_iconst (v := (1 : Int32)) hx hb dX1_readParameters_194 (by decide) ?_
    refine W_st (st' := [.int (1 : Int32), .int (11 : Int32), .ref (ad b4)]) (by rw [va_some ho4]) ?_
    obtain ⟨hvc, hF⟩ := chk_some hF
    refine va_iast hx hb hK hP hD hS b4 1 (wld_i ct ad G y39 hc4 hk4) rfl hvc dX1_readParameters_195 (fun H locs hP hD hS => ?_)
    obtain ⟨M40, eM40, hF⟩ := ltt_some hF
    rw [set_i ct ad G y39 hc4 hk4, ← eM40] at hP hD
    refine lv_aloadq_n hx hb dX1_readParameters_196 rfl (lv_at hl 1 rfl) ?_
    refine lv_iconst (v := (0 : Int32)) hx hb dX1_readParameters_197 (by decide) ?_
    refine lv_aload_n hx hb dX1_readParameters_198 rfl (lv_at hl 2 rfl) ?_
    refine va_get (D := D) (ci := 1) (v := va_re ad (M40.2 a 6)) (C := RX1) (T := TX1) (N := 22) hx hb hts (mus hf_X1) hown hK hP a (wld_o ct ad G M40 hc hk (by decide)) rfl 6 (by decide) (hts (.fieldLink RX1 51 "VideoSuite$Decoder" "parameters" "[[I") (mu mw_648)) (fun _ h9 => h9) rfl dX1_readParameters_199 ?_
    refine lv_iload_n hx hb dX1_readParameters_202 rfl (lv_at hl 0 rfl) ?_
    obtain ⟨b41, ho41, hc41, hk41, hF⟩ := dr_some hF
    refine W_st (st' := [.int y2.2, .ref (ad b41), .int (0 : Int32), va_re ad (M.2 a 9)]) (by rw [va_some ho41]) ?_
    obtain ⟨hvc, hF⟩ := chk_some hF
    refine ld_g hx hb hK hP hc41 hk41 hvc dX1_readParameters_203 ?_
    refine lv_iconst (v := (0 : Int32)) hx hb dX1_readParameters_204 (by decide) ?_
    refine lv_bipush (v := (12 : Int32)) hx hb dX1_readParameters_205 (by decide) ?_
    refine W_st (st' := [.int (12 : Int32), .int (0 : Int32), va_re ad (M40.2 b41 y2.2.toNatClampNeg), .int (0 : Int32), .ref (ad b4)]) (by rw [va_some ho4]) ?_
    obtain ⟨b42, ho42, hc42, hk42, hF⟩ := dr_some hF
    refine W_st (st' := [.int (12 : Int32), .int (0 : Int32), .ref (ad b42), .int (0 : Int32), .ref (ad b4)]) (by rw [va_some ho42]) ?_
    obtain ⟨hv9, hF⟩ := chk_some hF
    refine va_copyi (ty := .int) hx hb (hml.trans hl.1.symm) hown (hts (.methodLink RX1 203 arraycopyName) (mu mw_1537)) (hts (.native arraycopyName) (mu mw_1093)) (hts (.static arraycopyName) (mu mw_1092)) (hts (.initialized "java/lang/System") (mu mw_181)) hK hP hD hS b4 b42 1 1 (wld_i ct ad G M40 hc4 hk4) (wld_i ct ad G M40 hc42 hk42) rfl rfl rfl hv9.1 hv9.2.1 hv9.2.2.1 hv9.2.2.2.1 hv9.2.2.2.2 (fun _ _ => rfl) (Nat.le_of_ble_eq_true rfl) (by decide +kernel) dX1_readParameters_207 (fun H locs hP hD hS => ?_)
    obtain ⟨M43, eM43, hF⟩ := ltt_some hF
    rw [set_ri ct ad G M40 hc42 hk42, ← eM43] at hP hD
    obtain rfl := Option.some.inj hF
    exact W.vret hx hb hr (fun t ht hW => ⟨⟨(), rfl, trivial, ⟨by rw [ht]; exact hP, va_K.moved hW.alike hK, hD⟩⟩, hS.F ht⟩) hS.2.2 dX1_readParameters_210
  clear hF
  have hF := hy26
  clear hy26
  refine lv_icmp_le (tgt := 124) hx hb dX1_readParameters_106 (by decide) (fun c44 => ?_) (fun c44 => ?_)
  · rw [if_pos c44] at hF
    obtain rfl := Option.some.inj hF
    exact J26 _ _ _ hP hD hS (lv_sub hl [0, 1, 2] rfl)
  · rw [if_neg c44] at hF
    refine lv_aload_n hx hb dX1_readParameters_109 rfl (lv_at hl 2 rfl) ?_
    refine va_get (D := D) (ci := 1) (v := va_re ad (M24.2 a 0)) (C := RX1) (T := TX1) (N := 22) hx hb hts (mus hf_X1) hown hK hP a (wld_o ct ad G M24 hc hk (by decide)) rfl 0 (by decide) (hts (.fieldLink RX1 12 "VideoSuite$Decoder" "reader" "LVideoSuite$Reader;") (mu mw_640)) (fun _ h9 => h9) rfl dX1_readParameters_110 ?_
    refine lv_iconst (v := (2 : Int32)) hx hb dX1_readParameters_113 (by decide) ?_
    refine lv_aload_n hx hb dX1_readParameters_114 rfl (lv_at hl 2 rfl) ?_
    refine va_get (D := D) (ci := 1) (v := va_re ad (M24.2 a 0)) (C := RX1) (T := TX1) (N := 22) hx hb hts (mus hf_X1) hown hK hP a (wld_o ct ad G M24 hc hk (by decide)) rfl 0 (by decide) (hts (.fieldLink RX1 12 "VideoSuite$Decoder" "reader" "LVideoSuite$Reader;") (mu mw_640)) (fun _ h9 => h9) rfl dX1_readParameters_115 ?_
    obtain ⟨b45, ho45, hc45, hk45, hF⟩ := dr_some hF
    refine W_st (st' := [.ref (ad b45), .int (2 : Int32), .ref (ad b45)]) (by rw [va_some ho45]) ?_
    refine va_get (D := D) (ci := 5) (v := .int (M24.1 b45 4)) (C := RX5) (T := TX5) (N := 17) hx hb hts (mus hf_X5) hown hK hP b45 (wld_o ct ad G M24 hc45 hk45 (by decide)) rfl 4 (by decide) (hts (.fieldLink RX1 194 "VideoSuite$Reader" "begin" "I") (mu mw_293)) (fun _ h9 => h9) rfl dX1_readParameters_118 ?_
    obtain ⟨x46, ex46, hF⟩ := ltt_some hF
    refine lv_topi (fun zx46 ezx46 => ?_)
    obtain rfl : x46 = zx46 := ex46.trans ezx46.symm
    cases hF
set_option maxRecDepth 20000 in
theorem gX1_readRules_X5_number : GoodIn wuX1_readRules (wsV RX1 179 RX5 yX5_number wuX5_number) := gu_V mw_1327 mw_1328 mw_1329 mw_169 mw_1330
set_option maxRecDepth 20000 in
set_option maxRecDepth 20000 in
theorem gX1_readRules_X1_unsigned : GoodIn wuX1_readRules (wsV RX1 186 RX1 yX1_unsigned wuX1_unsigned) := gu_V mw_1350 mw_1352 mw_34 mw_168 mw_1353
set_option maxRecDepth 20000 in
set_option maxRecDepth 20000 in
theorem gX1_readRules_X1_signed : GoodIn wuX1_readRules (wsV RX1 209 RX1 yX1_signed wuX1_signed) := gu_V mw_1364 mw_1366 mw_36 mw_168 mw_1367
theorem dX1_readRules_0 : decode cX1_readRules 0 = .ok (.aload_n 0, 1) := by decide +kernel
theorem dX1_readRules_1 : decode cX1_readRules 1 = .ok (.getfield 68, 3) := by decide +kernel
theorem dX1_readRules_4 : decode cX1_readRules 4 = .ok (.getfield 212, 3) := by decide +kernel
theorem dX1_readRules_7 : decode cX1_readRules 7 = .ok (.astore_n 2, 1) := by decide +kernel
theorem dX1_readRules_8 : decode cX1_readRules 8 = .ok (.aload_n 1, 1) := by decide +kernel
theorem dX1_readRules_9 : decode cX1_readRules 9 = .ok (.iconst 1, 1) := by decide +kernel
theorem dX1_readRules_10 : decode cX1_readRules 10 = .ok (.iaload, 1) := by decide +kernel
theorem dX1_readRules_11 : decode cX1_readRules 11 = .ok (.iconst 1, 1) := by decide +kernel
theorem dX1_readRules_12 : decode cX1_readRules 12 = .ok (.if_icmp .ne 16, 3) := by decide +kernel
theorem dX1_readRules_15 : decode cX1_readRules 15 = .ok (.aload_n 2, 1) := by decide +kernel
theorem dX1_readRules_16 : decode cX1_readRules 16 = .ok (.iconst 1, 1) := by decide +kernel
theorem dX1_readRules_17 : decode cX1_readRules 17 = .ok (.iaload, 1) := by decide +kernel
theorem dX1_readRules_18 : decode cX1_readRules 18 = .ok (.iconst 2, 1) := by decide +kernel
theorem dX1_readRules_19 : decode cX1_readRules 19 = .ok (.if_icmp .eq 9, 3) := by decide +kernel
theorem dX1_readRules_22 : decode cX1_readRules 22 = .ok (.aload_n 0, 1) := by decide +kernel
theorem dX1_readRules_23 : decode cX1_readRules 23 = .ok (.iconst 2, 1) := by decide +kernel
theorem dX1_readRules_24 : decode cX1_readRules 24 = .ok (.invokevirtual 186, 3) := by decide +kernel
theorem dX1_readRules_27 : decode cX1_readRules 27 = .ok (.pop, 1) := by decide +kernel
theorem dX1_readRules_28 : decode cX1_readRules 28 = .ok (.ldc2_w 256, 3) := by decide +kernel
theorem dX1_readRules_31 : decode cX1_readRules 31 = .ok (.lstore_n 3, 1) := by decide +kernel
theorem dX1_readRules_32 : decode cX1_readRules 32 = .ok (.aload_n 2, 1) := by decide +kernel
theorem dX1_readRules_33 : decode cX1_readRules 33 = .ok (.bipush 12, 2) := by decide +kernel
theorem dX1_readRules_35 : decode cX1_readRules 35 = .ok (.aload_n 1, 1) := by decide +kernel
theorem dX1_readRules_36 : decode cX1_readRules 36 = .ok (.bipush 7, 2) := by decide +kernel
theorem dX1_readRules_38 : decode cX1_readRules 38 = .ok (.iaload, 1) := by decide +kernel
theorem dX1_readRules_39 : decode cX1_readRules 39 = .ok (.bipush 26, 2) := by decide +kernel
theorem dX1_readRules_41 : decode cX1_readRules 41 = .ok (.iadd, 1) := by decide +kernel
theorem dX1_readRules_42 : decode cX1_readRules 42 = .ok (.aload_n 0, 1) := by decide +kernel
theorem dX1_readRules_43 : decode cX1_readRules 43 = .ok (.getfield 12, 3) := by decide +kernel
theorem dX1_readRules_46 : decode cX1_readRules 46 = .ok (.iconst 0, 1) := by decide +kernel
theorem dX1_readRules_47 : decode cX1_readRules 47 = .ok (.iconst 1, 1) := by decide +kernel
theorem dX1_readRules_48 : decode cX1_readRules 48 = .ok (.lload_n 3, 1) := by decide +kernel
theorem dX1_readRules_49 : decode cX1_readRules 49 = .ok (.lload_n 3, 1) := by decide +kernel
theorem dX1_readRules_50 : decode cX1_readRules 50 = .ok (.lneg, 1) := by decide +kernel
theorem dX1_readRules_51 : decode cX1_readRules 51 = .ok (.invokevirtual 179, 3) := by decide +kernel
theorem dX1_readRules_54 : decode cX1_readRules 54 = .ok (.iadd, 1) := by decide +kernel
theorem dX1_readRules_55 : decode cX1_readRules 55 = .ok (.iastore, 1) := by decide +kernel
theorem dX1_readRules_56 : decode cX1_readRules 56 = .ok (.aload_n 2, 1) := by decide +kernel
theorem dX1_readRules_57 : decode cX1_readRules 57 = .ok (.bipush 12, 2) := by decide +kernel
theorem dX1_readRules_59 : decode cX1_readRules 59 = .ok (.iaload, 1) := by decide +kernel
theorem dX1_readRules_60 : decode cX1_readRules 60 = .ok (.ifCond .lt 12, 3) := by decide +kernel
theorem dX1_readRules_63 : decode cX1_readRules 63 = .ok (.aload_n 2, 1) := by decide +kernel
theorem dX1_readRules_64 : decode cX1_readRules 64 = .ok (.bipush 12, 2) := by decide +kernel
theorem dX1_readRules_66 : decode cX1_readRules 66 = .ok (.iaload, 1) := by decide +kernel
theorem dX1_readRules_67 : decode cX1_readRules 67 = .ok (.bipush 51, 2) := by decide +kernel
theorem dX1_readRules_69 : decode cX1_readRules 69 = .ok (.if_icmp .le 18, 3) := by decide +kernel
theorem dX1_readRules_72 : decode cX1_readRules 72 = .ok (.aload_n 0, 1) := by decide +kernel
theorem dX1_readRules_73 : decode cX1_readRules 73 = .ok (.getfield 12, 3) := by decide +kernel
theorem dX1_readRules_76 : decode cX1_readRules 76 = .ok (.iconst 2, 1) := by decide +kernel
theorem dX1_readRules_77 : decode cX1_readRules 77 = .ok (.aload_n 0, 1) := by decide +kernel
theorem dX1_readRules_78 : decode cX1_readRules 78 = .ok (.getfield 12, 3) := by decide +kernel
theorem dX1_readRules_81 : decode cX1_readRules 81 = .ok (.getfield 194, 3) := by decide +kernel
theorem dX1_readRules_84 : decode cX1_readRules 84 = .ok (.invokevirtual 197, 3) := by decide +kernel
theorem dX1_readRules_87 : decode cX1_readRules 87 = .ok (.aload_n 1, 1) := by decide +kernel
theorem dX1_readRules_88 : decode cX1_readRules 88 = .ok (.bipush 9, 2) := by decide +kernel
theorem dX1_readRules_90 : decode cX1_readRules 90 = .ok (.iaload, 1) := by decide +kernel
theorem dX1_readRules_91 : decode cX1_readRules 91 = .ok (.iconst 1, 1) := by decide +kernel
theorem dX1_readRules_92 : decode cX1_readRules 92 = .ok (.if_icmp .ne 44, 3) := by decide +kernel
theorem dX1_readRules_95 : decode cX1_readRules 95 = .ok (.aload_n 2, 1) := by decide +kernel
theorem dX1_readRules_96 : decode cX1_readRules 96 = .ok (.bipush 13, 2) := by decide +kernel
theorem dX1_readRules_98 : decode cX1_readRules 98 = .ok (.aload_n 0, 1) := by decide +kernel
theorem dX1_readRules_99 : decode cX1_readRules 99 = .ok (.iconst 2, 1) := by decide +kernel
theorem dX1_readRules_100 : decode cX1_readRules 100 = .ok (.invokevirtual 186, 3) := by decide +kernel
theorem dX1_readRules_103 : decode cX1_readRules 103 = .ok (.iastore, 1) := by decide +kernel
theorem dX1_readRules_104 : decode cX1_readRules 104 = .ok (.aload_n 2, 1) := by decide +kernel
theorem dX1_readRules_105 : decode cX1_readRules 105 = .ok (.bipush 13, 2) := by decide +kernel
theorem dX1_readRules_107 : decode cX1_readRules 107 = .ok (.iaload, 1) := by decide +kernel
theorem dX1_readRules_108 : decode cX1_readRules 108 = .ok (.iconst 1, 1) := by decide +kernel
theorem dX1_readRules_109 : decode cX1_readRules 109 = .ok (.if_icmp .eq 27, 3) := by decide +kernel
theorem dX1_readRules_112 : decode cX1_readRules 112 = .ok (.aload_n 2, 1) := by decide +kernel
theorem dX1_readRules_113 : decode cX1_readRules 113 = .ok (.bipush 14, 2) := by decide +kernel
theorem dX1_readRules_115 : decode cX1_readRules 115 = .ok (.aload_n 0, 1) := by decide +kernel
theorem dX1_readRules_116 : decode cX1_readRules 116 = .ok (.bipush (-6), 2) := by decide +kernel
theorem dX1_readRules_118 : decode cX1_readRules 118 = .ok (.bipush 6, 2) := by decide +kernel
theorem dX1_readRules_120 : decode cX1_readRules 120 = .ok (.invokevirtual 209, 3) := by decide +kernel
theorem dX1_readRules_123 : decode cX1_readRules 123 = .ok (.iastore, 1) := by decide +kernel
theorem dX1_readRules_124 : decode cX1_readRules 124 = .ok (.aload_n 2, 1) := by decide +kernel
theorem dX1_readRules_125 : decode cX1_readRules 125 = .ok (.bipush 15, 2) := by decide +kernel
theorem dX1_readRules_127 : decode cX1_readRules 127 = .ok (.aload_n 0, 1) := by decide +kernel
theorem dX1_readRules_128 : decode cX1_readRules 128 = .ok (.bipush (-6), 2) := by decide +kernel
theorem dX1_readRules_130 : decode cX1_readRules 130 = .ok (.bipush 6, 2) := by decide +kernel
theorem dX1_readRules_132 : decode cX1_readRules 132 = .ok (.invokevirtual 209, 3) := by decide +kernel
theorem dX1_readRules_135 : decode cX1_readRules 135 = .ok (.iastore, 1) := by decide +kernel
theorem dX1_readRules_136 : decode cX1_readRules 136 = .ok (.return_, 1) := by decide +kernel
def FX1_readRules (G : GG) (M : DD) (a : Nat) (p0 : Option Nat) : Option (DD) :=
  dr G 3 ((M.2 a 10)) fun b2 =>
  dr G 13 p0 fun b3 =>
  chk (¬ (((1 : Int32)) < 0 ∨ G.2.2 b3 ≤ ((1 : Int32)).toNatClampNeg)) <|
  ltt (M.1 b3 ((1 : Int32)).toNatClampNeg) fun x4 =>
  bnd (if x4 = ((1 : Int32)) then (dr G 13 ((M.2 b2 0)) fun b37 =>
  chk (¬ (((1 : Int32)) < 0 ∨ G.2.2 b37 ≤ ((1 : Int32)).toNatClampNeg)) <|
  ltt (M.1 b37 ((1 : Int32)).toNatClampNeg) fun x38 =>
  bnd (if x38 = ((2 : Int32)) then (some (M)) else
  (bnd (FX1_unsigned G M a ((2 : Int32))) fun y41 =>
  some (y41.1))) fun (y39 : DD) =>
  some (y39)) else
  (some (M))) fun (y5 : DD) =>
  chk (¬ (((7 : Int32)) < 0 ∨ G.2.2 b3 ≤ ((7 : Int32)).toNatClampNeg)) <|
  ltt (y5.1 b3 ((7 : Int32)).toNatClampNeg) fun x6 =>
  ltt ((x6 + ((26 : Int32)))) fun x7 =>
  ltt (-((-4294967295 : Int64))) fun x8 =>
  dr G 5 ((y5.2 a 0)) fun b9 =>
  bnd (FX5_number G y5 b9 ((0 : Int32)) ((1 : Int32)) ((-4294967295 : Int64)) x8) fun y10 =>
  ltt ((x7 + y10.2)) fun x11 =>
  dr G 13 ((M.2 b2 0)) fun b12 =>
  chk (¬ (((12 : Int32)) < 0 ∨ G.2.2 b12 ≤ ((12 : Int32)).toNatClampNeg)) <|
  ltt (uI y10.1 b12 ((12 : Int32)).toNatClampNeg x11) fun M13 =>
  chk (¬ (((12 : Int32)) < 0 ∨ G.2.2 b12 ≤ ((12 : Int32)).toNatClampNeg)) <|
  ltt (M13.1 b12 ((12 : Int32)).toNatClampNeg) fun x14 =>
  bnd (if x14 < ((0 : Int32)) then (dr G 5 ((M13.2 a 0)) fun b34 =>
  ltt (M13.1 b34 4) fun x35 =>
  none) else
  (some (M13))) fun (y15 : DD) =>
  chk (¬ (((12 : Int32)) < 0 ∨ G.2.2 b12 ≤ ((12 : Int32)).toNatClampNeg)) <|
  ltt (y15.1 b12 ((12 : Int32)).toNatClampNeg) fun x16 =>
  bnd (if x16 ≤ ((51 : Int32)) then (some (y15)) else
  (dr G 5 ((y15.2 a 0)) fun b31 =>
  ltt (y15.1 b31 4) fun x32 =>
  none)) fun (y17 : DD) =>
  chk (¬ (((9 : Int32)) < 0 ∨ G.2.2 b3 ≤ ((9 : Int32)).toNatClampNeg)) <|
  ltt (y17.1 b3 ((9 : Int32)).toNatClampNeg) fun x18 =>
  bnd (if x18 = ((1 : Int32)) then (bnd (FX1_unsigned G y17 a ((2 : Int32))) fun y21 =>
  chk (¬ (((13 : Int32)) < 0 ∨ G.2.2 b12 ≤ ((13 : Int32)).toNatClampNeg)) <|
  ltt (uI y21.1 b12 ((13 : Int32)).toNatClampNeg y21.2) fun M22 =>
  chk (¬ (((13 : Int32)) < 0 ∨ G.2.2 b12 ≤ ((13 : Int32)).toNatClampNeg)) <|
  ltt (M22.1 b12 ((13 : Int32)).toNatClampNeg) fun x23 =>
  bnd (if x23 = ((1 : Int32)) then (some (M22)) else
  (bnd (FX1_signed G M22 a ((-6 : Int32)) ((6 : Int32))) fun y26 =>
  chk (¬ (((14 : Int32)) < 0 ∨ G.2.2 b12 ≤ ((14 : Int32)).toNatClampNeg)) <|
  ltt (uI y26.1 b12 ((14 : Int32)).toNatClampNeg y26.2) fun M27 =>
  bnd (FX1_signed G M27 a ((-6 : Int32)) ((6 : Int32))) fun y28 =>
  chk (¬ (((15 : Int32)) < 0 ∨ G.2.2 b12 ≤ ((15 : Int32)).toNatClampNeg)) <|
  ltt (uI y28.1 b12 ((15 : Int32)).toNatClampNeg y28.2) fun M29 =>
  some (M29))) fun (y24 : DD) =>
  some (y24)) else
  (some (y17))) fun (y19 : DD) =>
  some y19
set_option maxHeartbeats 4000000 in
set_option maxRecDepth 100000 in
theorem kX1_readRules (l : Launch) (D : va_G) (ct : CT) (ad : Nat → Nat) (Z : Nat → Nat) (G : GG) (M : DD) (sz : Nat) (a : Nat) (p0 : Option Nat) (y : DD) (hc : a < G.1) (hk : G.2.1 a = 1) (hF : FX1_readRules G M a p0 = some y) : Met l yX1_readRules wuX1_readRules ({ frames := 3, cells := 0, slots := 0, locals := 81 }) (va_Pc [.ref (ad a), va_re ad p0] (kB D ct ad Z G M sz)) (va_Qv (fun (_ : Unit) => True) (fun _ t => kE D ct ad G (wA ad G sz) y t) (wA ad G sz)) 0 0 (wA ad G sz) := by
  refine Met.ofW (cc := cX1_readRules) (maxL := 5) (ret := none) (by decide) rfl ?_
  intro p e s m args below meth c s₁ B hml hv
  obtain ⟨rfl, hsz, hP, hK, hD0, hZ, hN⟩ := hv
  have hx := B.exec
  have hb := B.bytes
  have hr := B.returns
  have hts := atoms_spec (ws := wuX1_readRules) B.pre
  have hown : s.vm.findClass RX1 = some m.cls := findClass_of_methodNamed B.named
  have hlocks := B.notSynchronized
  subst hsz
  have hD := wD_self (sz := s.heap.size) hD0
  have hA9 : ∀ q, s.heap.size ≤ q → wA ad G s.heap.size q := fun q h => Or.inr h
  generalize hAe : wA ad G s.heap.size = A at hD hA9 hZ ⊢
  have hS : va_S A s.heap s.heap [] := va_S.rf
  have hl := lv_entry ([.ref (ad a), va_re ad p0]) (n := 5) (by cases p0 <;> exact Nat.le_of_ble_eq_true rfl)
  rw [lg_entry_eq]
  generalize (lg_sl ([.ref (ad a), va_re ad p0]) ++ List.replicate (5 - (lg_sl ([.ref (ad a), va_re ad p0])).length) Slot.unset).toArray = ls at hl ⊢
  have hl : lv_has ls 5 [(0, .ref (ad a)), (1, va_re ad p0)] := by have e9 : lv_args 0 [.ref (ad a), va_re ad p0] = [(0, .ref (ad a)), (1, va_re ad p0)] := (by cases p0 <;> rfl); rw [e9] at hl; exact hl
  unfold FX1_readRules at hF
  refine lv_aload_n hx hb dX1_readRules_0 rfl (lv_at hl 0 rfl) ?_
  refine va_get (D := D) (ci := 1) (v := va_re ad (M.2 a 10)) (C := RX1) (T := TX1) (N := 22) hx hb hts (mus hf_X1) hown hK hP a (wld_o ct ad G M hc hk (by decide)) rfl 10 (by decide) (hts (.fieldLink RX1 68 "VideoSuite$Decoder" "head" "LVideoSuite$Header;") (mu mw_652)) (fun _ h9 => h9) rfl dX1_readRules_1 ?_
  obtain ⟨b2, ho2, hc2, hk2, hF⟩ := dr_some hF
  refine W_st (st' := [.ref (ad b2)]) (by rw [va_some ho2]) ?_
  refine va_get (D := D) (ci := 3) (v := va_re ad (M.2 b2 0)) (C := RX3) (T := TX3) (N := 4) hx hb hts (mus hf_X3) hown hK hP b2 (wld_o ct ad G M hc2 hk2 (by decide)) rfl 0 (by decide) (hts (.fieldLink RX1 212 "VideoSuite$Header" "v" "[I") (mu mw_618)) (fun _ h9 => h9) rfl dX1_readRules_4 ?_
  refine lv_astoreq_n (lv' := [(2, va_re ad (M.2 b2 0)), (0, .ref (ad a)), (1, va_re ad p0)]) hx hb dX1_readRules_7 rfl hl (by decide) (by generalize p0 = o9; cases o9 <;> rfl) (fun ls hl => ?_)
  refine lv_aloadq_n hx hb dX1_readRules_8 rfl (lv_at hl 2 rfl) ?_
  refine lv_iconst (v := (1 : Int32)) hx hb dX1_readRules_9 (by decide) ?_
  obtain ⟨b3, ho3, hc3, hk3, hF⟩ := dr_some hF
  refine W_st (st' := [.int (1 : Int32), .ref (ad b3)]) (by rw [va_some ho3]) ?_
  obtain ⟨hvc, hF⟩ := chk_some hF
  refine va_iald hx hb hK hP b3 1 (wld_i ct ad G M hc3 hk3) rfl hvc dX1_readRules_10 ?_
  obtain ⟨x4, ex4, hF⟩ := ltt_some hF
  refine lv_topi (fun zx4 ezx4 => ?_)
  obtain rfl : x4 = zx4 := ex4.trans ezx4.symm
  refine lv_iconst (v := (1 : Int32)) hx hb dX1_readRules_11 (by decide) ?_
  obtain ⟨y5, hy5, hF⟩ := bnd_some hF
  have J5 : ∀ (H : Heap) (locs : List Loc) (ls : Array Slot), va_P D classes (wld ct ad G y5) H → va_D A (wld ct ad G y5) → va_S A s.heap H locs → lv_has ls 5 [(2, va_re ad (M.2 b2 0)), (0, .ref (ad a)), (1, va_re ad p0)] → W p l e (headSpec wuX1_readRules ({ frames := 3, cells := 0, slots := 0, locals := 81 })).room s m ([.ref (ad a), va_re ad p0] : List Value).toArray below meth c H locs 0 0 (MQ below (va_Qv (fun (_ : Unit) => True) (fun _ t => kE D ct ad G A y t) A) ([.ref (ad a), va_re ad p0] : List Value).toArray s 0 0 A) (F0 m 28 ls []) := by
    intro H locs ls hP hD hS hl
    refine lv_ldc2 (v := (-4294967295 : Int64)) hx hb hown (hts (.constantLong RX1 256 (-4294967295 : Int64)) (mu mw_1395)) dX1_readRules_28 ?_
    refine lv_lstore_n (lv' := [(3, .long (-4294967295 : Int64)), (2, va_re ad (M.2 b2 0)), (0, .ref (ad a)), (1, va_re ad p0)]) hx hb dX1_readRules_31 rfl hl (by decide) (by generalize ((M.2 b2 0)) = o9; cases o9 <;> rfl) (fun ls hl => ?_)
    refine lv_aloadq_n hx hb dX1_readRules_32 rfl (lv_at hl 1 rfl) ?_
    refine lv_bipush (v := (12 : Int32)) hx hb dX1_readRules_33 (by decide) ?_
    refine lv_aloadq_n hx hb dX1_readRules_35 rfl (lv_at hl 3 rfl) ?_
    refine lv_bipush (v := (7 : Int32)) hx hb dX1_readRules_36 (by decide) ?_
    refine W_st (st' := [.int (7 : Int32), .ref (ad b3), .int (12 : Int32), va_re ad (M.2 b2 0)]) (by rw [va_some ho3]) ?_
    obtain ⟨hvc, hF⟩ := chk_some hF
    refine va_iald hx hb hK hP b3 1 (wld_i ct ad G y5 hc3 hk3) rfl hvc dX1_readRules_38 ?_
    obtain ⟨x6, ex6, hF⟩ := ltt_some hF
    refine lv_topi (fun zx6 ezx6 => ?_)
    obtain rfl : x6 = zx6 := ex6.trans ezx6.symm
    refine lv_bipush (v := (26 : Int32)) hx hb dX1_readRules_39 (by decide) ?_
    refine lv_iadd hx hb dX1_readRules_41 ?_
    obtain ⟨x7, ex7, hF⟩ := ltt_some hF
    refine lv_topi (fun zx7 ezx7 => ?_)
    obtain rfl : x7 = zx7 := ex7.trans ezx7.symm
    refine lv_aload_n hx hb dX1_readRules_42 rfl (lv_at hl 2 rfl) ?_
    refine va_get (D := D) (ci := 1) (v := va_re ad (y5.2 a 0)) (C := RX1) (T := TX1) (N := 22) hx hb hts (mus hf_X1) hown hK hP a (wld_o ct ad G y5 hc hk (by decide)) rfl 0 (by decide) (hts (.fieldLink RX1 12 "VideoSuite$Decoder" "reader" "LVideoSuite$Reader;") (mu mw_640)) (fun _ h9 => h9) rfl dX1_readRules_43 ?_
    refine lv_iconst (v := (0 : Int32)) hx hb dX1_readRules_46 (by decide) ?_
    refine lv_iconst (v := (1 : Int32)) hx hb dX1_readRules_47 (by decide) ?_
    refine lv_lload_n hx hb dX1_readRules_48 rfl (lv_at hl 0 rfl) ?_
    refine lv_lload_n hx hb dX1_readRules_49 rfl (lv_at hl 0 rfl) ?_
    refine lv_lneg hx hb dX1_readRules_50 ?_
    obtain ⟨x8, ex8, hF⟩ := ltt_some hF
    refine lv_topl (fun zx8 ezx8 => ?_)
    obtain rfl : x8 = zx8 := ex8.trans ezx8.symm
    obtain ⟨b9, ho9, hc9, hk9, hF⟩ := dr_some hF
    refine W_st (st' := [.long x8, .long (-4294967295 : Int64), .int (1 : Int32), .int (0 : Int32), .ref (ad b9), .int x7, .int (12 : Int32), va_re ad (M.2 b2 0)]) (by rw [va_some ho9]) ?_
    obtain ⟨y10, hy10, hF⟩ := bnd_some hF
    have hf9 := wA_in hD hA9 hS
    refine va_calli (va_runV (As := [.int (0 : Int32), .int (1 : Int32), .long (-4294967295 : Int64), .long x8]) (rest := [.int x7, .int (12 : Int32), va_re ad (M.2 b2 0)]) ⟨hx, hb, hml, hown, hts⟩ (kX5_number l D ct ad Z G y5 H.size b9 ((0 : Int32)) ((1 : Int32)) ((-4294967295 : Int64)) x8 y10 hc9 hk9 hy10) (cwV 4 hts gX1_readRules_X5_number rfl rfl rfl (by decide +kernel) ⟨Nat.le_of_ble_eq_true rfl, Nat.le_of_ble_eq_true rfl⟩) ⟨fun a U g mk q => by obtain ⟨q0, q1, qP, qK, qD, qZ, qN⟩ := q; exact ⟨q0, q1, qP, va_K.moved (u := U) (U := U.calling g mk a) (Vm.Alike.refl U.vm) qK, qD, sF.moved (u := U) (U := U.calling g mk a) (Vm.Alike.refl U.vm) qZ, nF.same rfl qN⟩, va_recv hK hP (ci := 5) (q0 := b9) rfl (wld_o ct ad G y5 hc9 hk9 (by decide)), fun U hU hW => ⟨rfl, by rw [hU], by rw [hU]; exact hP, va_K.moved hW.alike hK, hD.weaken (fun _ _ _ _ => trivial), by rw [hU]; exact ((hZ.kept hS.2.1).narrow hf9).moved hW.alike, hN.warm hW⟩⟩ rfl rfl hl.1 rfl (lv_room (by simp only [List.map, va_re_cat]; exact Nat.le_of_ble_eq_true rfl)) dX1_readRules_51 ⟨(Nat.zero_le _), (Nat.zero_le _)⟩) hS (fun q _ h => hf9 q h) hf9 (fun r u t H locs ht hvm hw hB hz1 hk1 hS => ?_)
    obtain ⟨hP, hK9, hD9⟩ := hB
    rw [ht] at hP
    try dsimp only at hw
    subst hw
    have hD := hD9.weaken (fun _ q _ h => hf9 q.1 h)
    refine lv_iadd hx hb dX1_readRules_54 ?_
    obtain ⟨x11, ex11, hF⟩ := ltt_some hF
    refine lv_topi (fun zx11 ezx11 => ?_)
    obtain rfl : x11 = zx11 := ex11.trans ezx11.symm
    obtain ⟨b12, ho12, hc12, hk12, hF⟩ := dr_some hF
    refine W_st (st' := [.int x11, .int (12 : Int32), .ref (ad b12)]) (by rw [va_some ho12]) ?_
    obtain ⟨hvc, hF⟩ := chk_some hF
    refine va_iast hx hb hK hP hD hS b12 1 (wld_i ct ad G y10.1 hc12 hk12) rfl hvc dX1_readRules_55 (fun H locs hP hD hS => ?_)
    obtain ⟨M13, eM13, hF⟩ := ltt_some hF
    rw [set_i ct ad G y10.1 hc12 hk12, ← eM13] at hP hD
    refine lv_aloadq_n hx hb dX1_readRules_56 rfl (lv_at hl 1 rfl) ?_
    refine lv_bipush (v := (12 : Int32)) hx hb dX1_readRules_57 (by decide) ?_
    refine W_st (st' := [.int (12 : Int32), .ref (ad b12)]) (by rw [va_some ho12]) ?_
    obtain ⟨hvc, hF⟩ := chk_some hF
    refine va_iald hx hb hK hP b12 1 (wld_i ct ad G M13 hc12 hk12) rfl hvc dX1_readRules_59 ?_
    obtain ⟨x14, ex14, hF⟩ := ltt_some hF
    refine lv_topi (fun zx14 ezx14 => ?_)
    obtain rfl : x14 = zx14 := ex14.trans ezx14.symm
    obtain ⟨y15, hy15, hF⟩ := bnd_some hF
    have J15 : ∀ (H : Heap) (locs : List Loc) (ls : Array Slot), va_P D classes (wld ct ad G y15) H → va_D A (wld ct ad G y15) → va_S A s.heap H locs → lv_has ls 5 [(3, .long (-4294967295 : Int64)), (2, va_re ad (M.2 b2 0)), (0, .ref (ad a)), (1, va_re ad p0)] → W p l e (headSpec wuX1_readRules ({ frames := 3, cells := 0, slots := 0, locals := 81 })).room s m ([.ref (ad a), va_re ad p0] : List Value).toArray below meth c H locs 0 0 (MQ below (va_Qv (fun (_ : Unit) => True) (fun _ t => kE D ct ad G A y t) A) ([.ref (ad a), va_re ad p0] : List Value).toArray s 0 0 A) (F0 m 63 ls []) := by
      intro H locs ls hP hD hS hl
      refine lv_aloadq_n hx hb dX1_readRules_63 rfl (lv_at hl 1 rfl) ?_
      refine lv_bipush (v := (12 : Int32)) hx hb dX1_readRules_64 (by decide) ?_
      refine W_st (st' := [.int (12 : Int32), .ref (ad b12)]) (by rw [va_some ho12]) ?_
      obtain ⟨hvc, hF⟩ := chk_some hF
      refine va_iald hx hb hK hP b12 1 (wld_i ct ad G y15 hc12 hk12) rfl hvc dX1_readRules_66 ?_
      obtain ⟨x16, ex16, hF⟩ := ltt_some hF
      refine lv_topi (fun zx16 ezx16 => ?_)
      obtain rfl : x16 = zx16 := ex16.trans ezx16.symm
      refine lv_bipush (v := (51 : Int32)) hx hb dX1_readRules_67 (by decide) ?_
      obtain ⟨y17, hy17, hF⟩ := bnd_some hF
      have J17 : ∀ (H : Heap) (locs : List Loc) (ls : Array Slot), va_P D classes (wld ct ad G y17) H → va_D A (wld ct ad G y17) → va_S A s.heap H locs → lv_has ls 5 [(3, .long (-4294967295 : Int64)), (2, va_re ad (M.2 b2 0)), (0, .ref (ad a)), (1, va_re ad p0)] → W p l e (headSpec wuX1_readRules ({ frames := 3, cells := 0, slots := 0, locals := 81 })).room s m ([.ref (ad a), va_re ad p0] : List Value).toArray below meth c H locs 0 0 (MQ below (va_Qv (fun (_ : Unit) => True) (fun _ t => kE D ct ad G A y t) A) ([.ref (ad a), va_re ad p0] : List Value).toArray s 0 0 A) (F0 m 87 ls []) := by
        intro H locs ls hP hD hS hl
        refine lv_aloadq_n hx hb dX1_readRules_87 rfl (lv_at hl 3 rfl) ?_
        refine lv_bipush (v := (9 : Int32)) hx hb dX1_readRules_88 (by decide) ?_
        refine W_st (st' := [.int (9 : Int32), .ref (ad b3)]) (by rw [va_some ho3]) ?_
        obtain ⟨hvc, hF⟩ := chk_some hF
        refine va_iald hx hb hK hP b3 1 (wld_i ct ad G y17 hc3 hk3) rfl hvc dX1_readRules_90 ?_
        obtain ⟨x18, ex18, hF⟩ := ltt_some hF
        refine lv_topi (fun zx18 ezx18 => ?_)
        obtain rfl : x18 = zx18 := ex18.trans ezx18.symm
        refine lv_iconst (v := (1 : Int32)) hx hb dX1_readRules_91 (by decide) ?_
        obtain ⟨y19, hy19, hF⟩ := bnd_some hF
        have J19 : ∀ (H : Heap) (locs : List Loc) (ls : Array Slot), va_P D classes (wld ct ad G y19) H → va_D A (wld ct ad G y19) → va_S A s.heap H locs → lv_has ls 5 [(3, .long (-4294967295 : Int64)), (2, va_re ad (M.2 b2 0)), (0, .ref (ad a)), (1, va_re ad p0)] → W p l e (headSpec wuX1_readRules ({ frames := 3, cells := 0, slots := 0, locals := 81 })).room s m ([.ref (ad a), va_re ad p0] : List Value).toArray below meth c H locs 0 0 (MQ below (va_Qv (fun (_ : Unit) => True) (fun _ t => kE D ct ad G A y t) A) ([.ref (ad a), va_re ad p0] : List Value).toArray s 0 0 A) (F0 m 136 ls []) := by
          intro H locs ls hP hD hS hl
          obtain rfl := Option.some.inj hF
          exact W.vret hx hb hr (fun t ht hW => ⟨⟨(), rfl, trivial, ⟨by rw [ht]; exact hP, va_K.moved hW.alike hK, hD⟩⟩, hS.F ht⟩) hS.2.2 dX1_readRules_136
        clear hF
        have hF := hy19
        clear hy19
        refine lv_icmp_ne (tgt := 136) hx hb dX1_readRules_92 (by decide) (fun c20 => ?_) (fun c20 => ?_)
        · rw [if_neg c20] at hF
          obtain rfl := Option.some.inj hF
          exact J19 _ _ _ hP hD hS (lv_sub hl [0, 1, 2, 3] rfl)
        · rw [if_pos c20] at hF
          refine lv_aloadq_n hx hb dX1_readRules_95 rfl (lv_at hl 1 rfl) ?_
          refine lv_bipush (v := (13 : Int32)) hx hb dX1_readRules_96 (by decide) ?_
          refine lv_aload_n hx hb dX1_readRules_98 rfl (lv_at hl 2 rfl) ?_
          refine lv_iconst (v := (2 : Int32)) hx hb dX1_readRules_99 (by decide) ?_
          obtain ⟨y21, hy21, hF⟩ := bnd_some hF
          have hf9 := wA_in hD hA9 hS
          refine va_calli (va_runV (As := [.int (2 : Int32)]) (rest := [.int (13 : Int32), va_re ad (M.2 b2 0)]) ⟨hx, hb, hml, hown, hts⟩ (kX1_unsigned l D ct ad Z G y17 H.size a ((2 : Int32)) y21 hc hk hy21) (cwV 1 hts gX1_readRules_X1_unsigned rfl rfl rfl (by decide +kernel) ⟨Nat.le_of_ble_eq_true rfl, Nat.le_of_ble_eq_true rfl⟩) ⟨fun a U g mk q => by obtain ⟨q0, q1, qP, qK, qD, qZ, qN⟩ := q; exact ⟨q0, q1, qP, va_K.moved (u := U) (U := U.calling g mk a) (Vm.Alike.refl U.vm) qK, qD, sF.moved (u := U) (U := U.calling g mk a) (Vm.Alike.refl U.vm) qZ, nF.same rfl qN⟩, va_recv hK hP (ci := 1) (q0 := a) rfl (wld_o ct ad G y17 hc hk (by decide)), fun U hU hW => ⟨rfl, by rw [hU], by rw [hU]; exact hP, va_K.moved hW.alike hK, hD.weaken (fun _ _ _ _ => trivial), by rw [hU]; exact ((hZ.kept hS.2.1).narrow hf9).moved hW.alike, hN.warm hW⟩⟩ rfl rfl hl.1 rfl (lv_room (by simp only [List.map, va_re_cat]; exact Nat.le_of_ble_eq_true rfl)) dX1_readRules_100 ⟨(Nat.zero_le _), (Nat.zero_le _)⟩) hS (fun q _ h => hf9 q h) hf9 (fun r u t H locs ht hvm hw hB hz1 hk1 hS => ?_)
          obtain ⟨hP, hK9, hD9⟩ := hB
          rw [ht] at hP
          try dsimp only at hw
          subst hw
          have hD := hD9.weaken (fun _ q _ h => hf9 q.1 h)
          refine W_st (st' := [.int y21.2, .int (13 : Int32), .ref (ad b12)]) (by rw [va_some ho12]) ?_
          obtain ⟨hvc, hF⟩ := chk_some hF
          refine va_iast hx hb hK hP hD hS b12 1 (wld_i ct ad G y21.1 hc12 hk12) rfl hvc dX1_readRules_103 (fun H locs hP hD hS => ?_)
          obtain ⟨M22, eM22, hF⟩ := ltt_some hF
          rw [set_i ct ad G y21.1 hc12 hk12, ← eM22] at hP hD
          refine lv_aloadq_n hx hb dX1_readRules_104 rfl (lv_at hl 1 rfl) ?_
          refine lv_bipush (v := (13 : Int32)) hx hb dX1_readRules_105 (by decide) ?_
          refine W_st (st' := [.int (13 : Int32), .ref (ad b12)]) (by rw [va_some ho12]) ?_
          obtain ⟨hvc, hF⟩ := chk_some hF
          refine va_iald hx hb hK hP b12 1 (wld_i ct ad G M22 hc12 hk12) rfl hvc dX1_readRules_107 ?_
          obtain ⟨x23, ex23, hF⟩ := ltt_some hF
          refine lv_topi (fun zx23 ezx23 => ?_)
          obtain rfl : x23 = zx23 := ex23.trans ezx23.symm
          refine lv_iconst (v := (1 : Int32)) hx hb dX1_readRules_108 (by decide) ?_
          obtain ⟨y24, hy24, hF⟩ := bnd_some hF
          have J24 : ∀ (H : Heap) (locs : List Loc) (ls : Array Slot), va_P D classes (wld ct ad G y24) H → va_D A (wld ct ad G y24) → va_S A s.heap H locs → lv_has ls 5 [(3, .long (-4294967295 : Int64)), (2, va_re ad (M.2 b2 0)), (0, .ref (ad a)), (1, va_re ad p0)] → W p l e (headSpec wuX1_readRules ({ frames := 3, cells := 0, slots := 0, locals := 81 })).room s m ([.ref (ad a), va_re ad p0] : List Value).toArray below meth c H locs 0 0 (MQ below (va_Qv (fun (_ : Unit) => True) (fun _ t => kE D ct ad G A y t) A) ([.ref (ad a), va_re ad p0] : List Value).toArray s 0 0 A) (F0 m 136 ls []) := by
            intro H locs ls hP hD hS hl
            obtain rfl := Option.some.inj hF
            exact J19 _ _ _ hP hD hS (lv_sub hl [0, 1, 2, 3] rfl)
          clear hF
          have hF := hy24
          clear hy24
          refine lv_icmp_eq (tgt := 136) hx hb dX1_readRules_109 (by decide) (fun c25 => ?_) (fun c25 => ?_)
          · rw [if_pos c25] at hF
            obtain rfl := Option.some.inj hF
            exact J24 _ _ _ hP hD hS (lv_sub hl [0, 1, 2, 3] rfl)
          · rw [if_neg c25] at hF
            refine lv_aloadq_n hx hb dX1_readRules_112 rfl (lv_at hl 1 rfl) ?_
            refine lv_bipush (v := (14 : Int32)) hx hb dX1_readRules_113 (by decide) ?_
            refine lv_aload_n hx hb dX1_readRules_115 rfl (lv_at hl 2 rfl) ?_
            refine lv_bipush (v := (-6 : Int32)) hx hb dX1_readRules_116 (by decide) ?_
            refine lv_bipush (v := (6 : Int32)) hx hb dX1_readRules_118 (by decide) ?_
            obtain ⟨y26, hy26, hF⟩ := bnd_some hF
            have hf9 := wA_in hD hA9 hS
            refine va_calli (va_runV (As := [.int (-6 : Int32), .int (6 : Int32)]) (rest := [.int (14 : Int32), va_re ad (M.2 b2 0)]) ⟨hx, hb, hml, hown, hts⟩ (kX1_signed l D ct ad Z G M22 H.size a ((-6 : Int32)) ((6 : Int32)) y26 hc hk hy26) (cwV 2 hts gX1_readRules_X1_signed rfl rfl rfl (by decide +kernel) ⟨Nat.le_of_ble_eq_true rfl, Nat.le_of_ble_eq_true rfl⟩) ⟨fun a U g mk q => by obtain ⟨q0, q1, qP, qK, qD, qZ, qN⟩ := q; exact ⟨q0, q1, qP, va_K.moved (u := U) (U := U.calling g mk a) (Vm.Alike.refl U.vm) qK, qD, sF.moved (u := U) (U := U.calling g mk a) (Vm.Alike.refl U.vm) qZ, nF.same rfl qN⟩, va_recv hK hP (ci := 1) (q0 := a) rfl (wld_o ct ad G M22 hc hk (by decide)), fun U hU hW => ⟨rfl, by rw [hU], by rw [hU]; exact hP, va_K.moved hW.alike hK, hD.weaken (fun _ _ _ _ => trivial), by rw [hU]; exact ((hZ.kept hS.2.1).narrow hf9).moved hW.alike, hN.warm hW⟩⟩ rfl rfl hl.1 rfl (lv_room (by simp only [List.map, va_re_cat]; exact Nat.le_of_ble_eq_true rfl)) dX1_readRules_120 ⟨(Nat.zero_le _), (Nat.zero_le _)⟩) hS (fun q _ h => hf9 q h) hf9 (fun r u t H locs ht hvm hw hB hz1 hk1 hS => ?_)
            obtain ⟨hP, hK9, hD9⟩ := hB
            rw [ht] at hP
            try dsimp only at hw
            subst hw
            have hD := hD9.weaken (fun _ q _ h => hf9 q.1 h)
            refine W_st (st' := [.int y26.2, .int (14 : Int32), .ref (ad b12)]) (by rw [va_some ho12]) ?_
            obtain ⟨hvc, hF⟩ := chk_some hF
            refine va_iast hx hb hK hP hD hS b12 1 (wld_i ct ad G y26.1 hc12 hk12) rfl hvc dX1_readRules_123 (fun H locs hP hD hS => ?_)
            obtain ⟨M27, eM27, hF⟩ := ltt_some hF
            rw [set_i ct ad G y26.1 hc12 hk12, ← eM27] at hP hD
            refine lv_aloadq_n hx hb dX1_readRules_124 rfl (lv_at hl 1 rfl) ?_
            refine lv_bipush (v := (15 : Int32)) hx hb dX1_readRules_125 (by decide) ?_
            refine lv_aload_n hx hb dX1_readRules_127 rfl (lv_at hl 2 rfl) ?_
            refine lv_bipush (v := (-6 : Int32)) hx hb dX1_readRules_128 (by decide) ?_
            refine lv_bipush (v := (6 : Int32)) hx hb dX1_readRules_130 (by decide) ?_
            obtain ⟨y28, hy28, hF⟩ := bnd_some hF
            have hf9 := wA_in hD hA9 hS
            refine va_calli (va_runV (As := [.int (-6 : Int32), .int (6 : Int32)]) (rest := [.int (15 : Int32), va_re ad (M.2 b2 0)]) ⟨hx, hb, hml, hown, hts⟩ (kX1_signed l D ct ad Z G M27 H.size a ((-6 : Int32)) ((6 : Int32)) y28 hc hk hy28) (cwV 2 hts gX1_readRules_X1_signed rfl rfl rfl (by decide +kernel) ⟨Nat.le_of_ble_eq_true rfl, Nat.le_of_ble_eq_true rfl⟩) ⟨fun a U g mk q => by obtain ⟨q0, q1, qP, qK, qD, qZ, qN⟩ := q; exact ⟨q0, q1, qP, va_K.moved (u := U) (U := U.calling g mk a) (Vm.Alike.refl U.vm) qK, qD, sF.moved (u := U) (U := U.calling g mk a) (Vm.Alike.refl U.vm) qZ, nF.same rfl qN⟩, va_recv hK hP (ci := 1) (q0 := a) rfl (wld_o ct ad G M27 hc hk (by decide)), fun U hU hW => ⟨rfl, by rw [hU], by rw [hU]; exact hP, va_K.moved hW.alike hK, hD.weaken (fun _ _ _ _ => trivial), by rw [hU]; exact ((hZ.kept hS.2.1).narrow hf9).moved hW.alike, hN.warm hW⟩⟩ rfl rfl hl.1 rfl (lv_room (by simp only [List.map, va_re_cat]; exact Nat.le_of_ble_eq_true rfl)) dX1_readRules_132 ⟨(Nat.zero_le _), (Nat.zero_le _)⟩) hS (fun q _ h => hf9 q h) hf9 (fun r u t H locs ht hvm hw hB hz1 hk1 hS => ?_)
            obtain ⟨hP, hK9, hD9⟩ := hB
            rw [ht] at hP
            try dsimp only at hw
            subst hw
            have hD := hD9.weaken (fun _ q _ h => hf9 q.1 h)
            refine W_st (st' := [.int y28.2, .int (15 : Int32), .ref (ad b12)]) (by rw [va_some ho12]) ?_
            obtain ⟨hvc, hF⟩ := chk_some hF
            refine va_iast hx hb hK hP hD hS b12 1 (wld_i ct ad G y28.1 hc12 hk12) rfl hvc dX1_readRules_135 (fun H locs hP hD hS => ?_)
            obtain ⟨M29, eM29, hF⟩ := ltt_some hF
            rw [set_i ct ad G y28.1 hc12 hk12, ← eM29] at hP hD
            obtain rfl := Option.some.inj hF
            exact J24 _ _ _ hP hD hS (lv_sub hl [0, 1, 2, 3] rfl)
      clear hF
      have hF := hy17
      clear hy17
      refine lv_icmp_le (tgt := 87) hx hb dX1_readRules_69 (by decide) (fun c30 => ?_) (fun c30 => ?_)
      · rw [if_pos c30] at hF
        obtain rfl := Option.some.inj hF
        exact J17 _ _ _ hP hD hS (lv_sub hl [0, 1, 2, 3] rfl)
      · rw [if_neg c30] at hF
        refine lv_aload_n hx hb dX1_readRules_72 rfl (lv_at hl 2 rfl) ?_
        refine va_get (D := D) (ci := 1) (v := va_re ad (y15.2 a 0)) (C := RX1) (T := TX1) (N := 22) hx hb hts (mus hf_X1) hown hK hP a (wld_o ct ad G y15 hc hk (by decide)) rfl 0 (by decide) (hts (.fieldLink RX1 12 "VideoSuite$Decoder" "reader" "LVideoSuite$Reader;") (mu mw_640)) (fun _ h9 => h9) rfl dX1_readRules_73 ?_
        refine lv_iconst (v := (2 : Int32)) hx hb dX1_readRules_76 (by decide) ?_
        refine lv_aload_n hx hb dX1_readRules_77 rfl (lv_at hl 2 rfl) ?_
        refine va_get (D := D) (ci := 1) (v := va_re ad (y15.2 a 0)) (C := RX1) (T := TX1) (N := 22) hx hb hts (mus hf_X1) hown hK hP a (wld_o ct ad G y15 hc hk (by decide)) rfl 0 (by decide) (hts (.fieldLink RX1 12 "VideoSuite$Decoder" "reader" "LVideoSuite$Reader;") (mu mw_640)) (fun _ h9 => h9) rfl dX1_readRules_78 ?_
        obtain ⟨b31, ho31, hc31, hk31, hF⟩ := dr_some hF
        refine W_st (st' := [.ref (ad b31), .int (2 : Int32), .ref (ad b31)]) (by rw [va_some ho31]) ?_
        refine va_get (D := D) (ci := 5) (v := .int (y15.1 b31 4)) (C := RX5) (T := TX5) (N := 17) hx hb hts (mus hf_X5) hown hK hP b31 (wld_o ct ad G y15 hc31 hk31 (by decide)) rfl 4 (by decide) (hts (.fieldLink RX1 194 "VideoSuite$Reader" "begin" "I") (mu mw_293)) (fun _ h9 => h9) rfl dX1_readRules_81 ?_
        obtain ⟨x32, ex32, hF⟩ := ltt_some hF
        refine lv_topi (fun zx32 ezx32 => ?_)
        obtain rfl : x32 = zx32 := ex32.trans ezx32.symm
        cases hF
    clear hF
    have hF := hy15
    clear hy15
    refine lv_if_lt (tgt := 72) hx hb dX1_readRules_60 (by decide) (fun c33 => ?_) (fun c33 => ?_)
    · rw [if_pos c33] at hF
      refine lv_aload_n hx hb dX1_readRules_72 rfl (lv_at hl 2 rfl) ?_
      refine va_get (D := D) (ci := 1) (v := va_re ad (M13.2 a 0)) (C := RX1) (T := TX1) (N := 22) hx hb hts (mus hf_X1) hown hK hP a (wld_o ct ad G M13 hc hk (by decide)) rfl 0 (by decide) (hts (.fieldLink RX1 12 "VideoSuite$Decoder" "reader" "LVideoSuite$Reader;") (mu mw_640)) (fun _ h9 => h9) rfl dX1_readRules_73 ?_
      refine lv_iconst (v := (2 : Int32)) hx hb dX1_readRules_76 (by decide) ?_
      refine lv_aload_n hx hb dX1_readRules_77 rfl (lv_at hl 2 rfl) ?_
      refine va_get (D := D) (ci := 1) (v := va_re ad (M13.2 a 0)) (C := RX1) (T := TX1) (N := 22) hx hb hts (mus hf_X1) hown hK hP a (wld_o ct ad G M13 hc hk (by decide)) rfl 0 (by decide) (hts (.fieldLink RX1 12 "VideoSuite$Decoder" "reader" "LVideoSuite$Reader;") (mu mw_640)) (fun _ h9 => h9) rfl dX1_readRules_78 ?_
      obtain ⟨b34, ho34, hc34, hk34, hF⟩ := dr_some hF
      refine W_st (st' := [.ref (ad b34), .int (2 : Int32), .ref (ad b34)]) (by rw [va_some ho34]) ?_
      refine va_get (D := D) (ci := 5) (v := .int (M13.1 b34 4)) (C := RX5) (T := TX5) (N := 17) hx hb hts (mus hf_X5) hown hK hP b34 (wld_o ct ad G M13 hc34 hk34 (by decide)) rfl 4 (by decide) (hts (.fieldLink RX1 194 "VideoSuite$Reader" "begin" "I") (mu mw_293)) (fun _ h9 => h9) rfl dX1_readRules_81 ?_
      obtain ⟨x35, ex35, hF⟩ := ltt_some hF
      refine lv_topi (fun zx35 ezx35 => ?_)
      obtain rfl : x35 = zx35 := ex35.trans ezx35.symm
      cases hF
    · rw [if_neg c33] at hF
      obtain rfl := Option.some.inj hF
      exact J15 _ _ _ hP hD hS (lv_sub hl [0, 1, 2, 3] rfl)
  clear hF
  have hF := hy5
  clear hy5
  refine lv_icmp_ne (tgt := 28) hx hb dX1_readRules_12 (by decide) (fun c36 => ?_) (fun c36 => ?_)
  · rw [if_neg c36] at hF
    obtain rfl := Option.some.inj hF
    exact J5 _ _ _ hP hD hS (lv_sub hl [0, 1, 2] rfl)
  · rw [if_pos c36] at hF
    refine lv_aloadq_n hx hb dX1_readRules_15 rfl (lv_at hl 0 rfl) ?_
    refine lv_iconst (v := (1 : Int32)) hx hb dX1_readRules_16 (by decide) ?_
    obtain ⟨b37, ho37, hc37, hk37, hF⟩ := dr_some hF
    refine W_st (st' := [.int (1 : Int32), .ref (ad b37)]) (by rw [va_some ho37]) ?_
    obtain ⟨hvc, hF⟩ := chk_some hF
    refine va_iald hx hb hK hP b37 1 (wld_i ct ad G M hc37 hk37) rfl hvc dX1_readRules_17 ?_
    obtain ⟨x38, ex38, hF⟩ := ltt_some hF
    refine lv_topi (fun zx38 ezx38 => ?_)
    obtain rfl : x38 = zx38 := ex38.trans ezx38.symm
    refine lv_iconst (v := (2 : Int32)) hx hb dX1_readRules_18 (by decide) ?_
    obtain ⟨y39, hy39, hF⟩ := bnd_some hF
    have J39 : ∀ (H : Heap) (locs : List Loc) (ls : Array Slot), va_P D classes (wld ct ad G y39) H → va_D A (wld ct ad G y39) → va_S A s.heap H locs → lv_has ls 5 [(2, va_re ad (M.2 b2 0)), (0, .ref (ad a)), (1, va_re ad p0)] → W p l e (headSpec wuX1_readRules ({ frames := 3, cells := 0, slots := 0, locals := 81 })).room s m ([.ref (ad a), va_re ad p0] : List Value).toArray below meth c H locs 0 0 (MQ below (va_Qv (fun (_ : Unit) => True) (fun _ t => kE D ct ad G A y t) A) ([.ref (ad a), va_re ad p0] : List Value).toArray s 0 0 A) (F0 m 28 ls []) := by
      intro H locs ls hP hD hS hl
      obtain rfl := Option.some.inj hF
      exact J5 _ _ _ hP hD hS (lv_sub hl [0, 1, 2] rfl)
    clear hF
    have hF := hy39
    clear hy39
    refine lv_icmp_eq (tgt := 28) hx hb dX1_readRules_19 (by decide) (fun c40 => ?_) (fun c40 => ?_)
    · rw [if_pos c40] at hF
      obtain rfl := Option.some.inj hF
      exact J39 _ _ _ hP hD hS (lv_sub hl [0, 1, 2] rfl)
    · rw [if_neg c40] at hF
      refine lv_aload_n hx hb dX1_readRules_22 rfl (lv_at hl 1 rfl) ?_
      refine lv_iconst (v := (2 : Int32)) hx hb dX1_readRules_23 (by decide) ?_
      obtain ⟨y41, hy41, hF⟩ := bnd_some hF
      have hf9 := wA_in hD hA9 hS
      refine va_calli (va_runV (As := [.int (2 : Int32)]) (rest := []) ⟨hx, hb, hml, hown, hts⟩ (kX1_unsigned l D ct ad Z G M s.heap.size a ((2 : Int32)) y41 hc hk hy41) (cwV 1 hts gX1_readRules_X1_unsigned rfl rfl rfl (by decide +kernel) ⟨Nat.le_of_ble_eq_true rfl, Nat.le_of_ble_eq_true rfl⟩) ⟨fun a U g mk q => by obtain ⟨q0, q1, qP, qK, qD, qZ, qN⟩ := q; exact ⟨q0, q1, qP, va_K.moved (u := U) (U := U.calling g mk a) (Vm.Alike.refl U.vm) qK, qD, sF.moved (u := U) (U := U.calling g mk a) (Vm.Alike.refl U.vm) qZ, nF.same rfl qN⟩, va_recv hK hP (ci := 1) (q0 := a) rfl (wld_o ct ad G M hc hk (by decide)), fun U hU hW => ⟨rfl, by rw [hU], by rw [hU]; exact hP, va_K.moved hW.alike hK, hD.weaken (fun _ _ _ _ => trivial), by rw [hU]; exact ((hZ.kept hS.2.1).narrow hf9).moved hW.alike, hN.warm hW⟩⟩ rfl rfl hl.1 rfl (lv_room (Nat.le_of_ble_eq_true rfl)) dX1_readRules_24 ⟨(Nat.zero_le _), (Nat.zero_le _)⟩) hS (fun q _ h => hf9 q h) hf9 (fun r u t H locs ht hvm hw hB hz1 hk1 hS => ?_)
      obtain ⟨hP, hK9, hD9⟩ := hB
      rw [ht] at hP
      try dsimp only at hw
      subst hw
      have hD := hD9.weaken (fun _ q _ h => hf9 q.1 h)
      refine lv_pop hx hb dX1_readRules_27 rfl ?_
      obtain rfl := Option.some.inj hF
      exact J39 _ _ _ hP hD hS (lv_sub hl [0, 1, 2] rfl)
set_option maxRecDepth 20000 in
theorem gX1_readSkipped_X9_skip : GoodIn wuX1_readSkipped (wsV RX1 388 RX9 yX9_skip wuX9_skip) := gu_V mw_1931 mw_1932 mw_1933 mw_171 mw_1934
set_option maxRecDepth 20000 in
theorem gX1_readSkipped_X9_direct : GoodIn wuX1_readSkipped (wsV RX1 380 RX9 yX9_direct wuX9_direct) := gu_V mw_1874 mw_1875 mw_1876 mw_171 mw_1877
set_option maxRecDepth 20000 in
theorem dX1_readSkipped_0 : decode cX1_readSkipped 0 = .ok (.aload_n 0, 1) := by decide +kernel
theorem dX1_readSkipped_1 : decode cX1_readSkipped 1 = .ok (.iload_n 1, 1) := by decide +kernel
theorem dX1_readSkipped_2 : decode cX1_readSkipped 2 = .ok (.putfield 130, 3) := by decide +kernel
theorem dX1_readSkipped_5 : decode cX1_readSkipped 5 = .ok (.aload_n 0, 1) := by decide +kernel
theorem dX1_readSkipped_6 : decode cX1_readSkipped 6 = .ok (.getfield 28, 3) := by decide +kernel
theorem dX1_readSkipped_9 : decode cX1_readSkipped 9 = .ok (.getfield 355, 3) := by decide +kernel
theorem dX1_readSkipped_12 : decode cX1_readSkipped 12 = .ok (.bipush 8, 2) := by decide +kernel
theorem dX1_readSkipped_14 : decode cX1_readSkipped 14 = .ok (.iload_n 1, 1) := by decide +kernel
theorem dX1_readSkipped_15 : decode cX1_readSkipped 15 = .ok (.imul, 1) := by decide +kernel
theorem dX1_readSkipped_16 : decode cX1_readSkipped 16 = .ok (.iconst 0, 1) := by decide +kernel
theorem dX1_readSkipped_17 : decode cX1_readSkipped 17 = .ok (.iadd, 1) := by decide +kernel
theorem dX1_readSkipped_18 : decode cX1_readSkipped 18 = .ok (.iconst 3, 1) := by decide +kernel
theorem dX1_readSkipped_19 : decode cX1_readSkipped 19 = .ok (.iastore, 1) := by decide +kernel
theorem dX1_readSkipped_20 : decode cX1_readSkipped 20 = .ok (.aload_n 0, 1) := by decide +kernel
theorem dX1_readSkipped_21 : decode cX1_readSkipped 21 = .ok (.getfield 28, 3) := by decide +kernel
theorem dX1_readSkipped_24 : decode cX1_readSkipped 24 = .ok (.getfield 355, 3) := by decide +kernel
theorem dX1_readSkipped_27 : decode cX1_readSkipped 27 = .ok (.bipush 8, 2) := by decide +kernel
theorem dX1_readSkipped_29 : decode cX1_readSkipped 29 = .ok (.iload_n 1, 1) := by decide +kernel
theorem dX1_readSkipped_30 : decode cX1_readSkipped 30 = .ok (.imul, 1) := by decide +kernel
theorem dX1_readSkipped_31 : decode cX1_readSkipped 31 = .ok (.iconst 2, 1) := by decide +kernel
theorem dX1_readSkipped_32 : decode cX1_readSkipped 32 = .ok (.iadd, 1) := by decide +kernel
theorem dX1_readSkipped_33 : decode cX1_readSkipped 33 = .ok (.aload_n 0, 1) := by decide +kernel
theorem dX1_readSkipped_34 : decode cX1_readSkipped 34 = .ok (.getfield 328, 3) := by decide +kernel
theorem dX1_readSkipped_37 : decode cX1_readSkipped 37 = .ok (.iastore, 1) := by decide +kernel
theorem dX1_readSkipped_38 : decode cX1_readSkipped 38 = .ok (.aload_n 0, 1) := by decide +kernel
theorem dX1_readSkipped_39 : decode cX1_readSkipped 39 = .ok (.getfield 72, 3) := by decide +kernel
theorem dX1_readSkipped_42 : decode cX1_readSkipped 42 = .ok (.getfield 212, 3) := by decide +kernel
theorem dX1_readSkipped_45 : decode cX1_readSkipped 45 = .ok (.iconst 1, 1) := by decide +kernel
theorem dX1_readSkipped_46 : decode cX1_readSkipped 46 = .ok (.iaload, 1) := by decide +kernel
theorem dX1_readSkipped_47 : decode cX1_readSkipped 47 = .ok (.iconst 1, 1) := by decide +kernel
theorem dX1_readSkipped_48 : decode cX1_readSkipped 48 = .ok (.if_icmp .ne 25, 3) := by decide +kernel
theorem dX1_readSkipped_51 : decode cX1_readSkipped 51 = .ok (.aload_n 0, 1) := by decide +kernel
theorem dX1_readSkipped_52 : decode cX1_readSkipped 52 = .ok (.getfield 28, 3) := by decide +kernel
theorem dX1_readSkipped_55 : decode cX1_readSkipped 55 = .ok (.iload_n 1, 1) := by decide +kernel
theorem dX1_readSkipped_56 : decode cX1_readSkipped 56 = .ok (.bipush 15, 2) := by decide +kernel
theorem dX1_readSkipped_58 : decode cX1_readSkipped 58 = .ok (.invokevirtual 380, 3) := by decide +kernel
theorem dX1_readSkipped_61 : decode cX1_readSkipped 61 = .ok (.ifCond .ne 11, 3) := by decide +kernel
theorem dX1_readSkipped_64 : decode cX1_readSkipped 64 = .ok (.aload_n 0, 1) := by decide +kernel
theorem dX1_readSkipped_65 : decode cX1_readSkipped 65 = .ok (.getfield 12, 3) := by decide +kernel
theorem dX1_readSkipped_68 : decode cX1_readSkipped 68 = .ok (.iconst 4, 1) := by decide +kernel
theorem dX1_readSkipped_69 : decode cX1_readSkipped 69 = .ok (.invokevirtual 325, 3) := by decide +kernel
theorem dX1_readSkipped_72 : decode cX1_readSkipped 72 = .ok (.return_, 1) := by decide +kernel
theorem dX1_readSkipped_73 : decode cX1_readSkipped 73 = .ok (.aload_n 0, 1) := by decide +kernel
theorem dX1_readSkipped_74 : decode cX1_readSkipped 74 = .ok (.getfield 28, 3) := by decide +kernel
theorem dX1_readSkipped_77 : decode cX1_readSkipped 77 = .ok (.getfield 384, 3) := by decide +kernel
theorem dX1_readSkipped_80 : decode cX1_readSkipped 80 = .ok (.iconst 0, 1) := by decide +kernel
theorem dX1_readSkipped_81 : decode cX1_readSkipped 81 = .ok (.aaload, 1) := by decide +kernel
theorem dX1_readSkipped_82 : decode cX1_readSkipped 82 = .ok (.ifnonnull 11, 3) := by decide +kernel
theorem dX1_readSkipped_85 : decode cX1_readSkipped 85 = .ok (.aload_n 0, 1) := by decide +kernel
theorem dX1_readSkipped_86 : decode cX1_readSkipped 86 = .ok (.getfield 12, 3) := by decide +kernel
theorem dX1_readSkipped_89 : decode cX1_readSkipped 89 = .ok (.iconst 4, 1) := by decide +kernel
theorem dX1_readSkipped_90 : decode cX1_readSkipped 90 = .ok (.invokevirtual 325, 3) := by decide +kernel
theorem dX1_readSkipped_93 : decode cX1_readSkipped 93 = .ok (.aload_n 0, 1) := by decide +kernel
theorem dX1_readSkipped_94 : decode cX1_readSkipped 94 = .ok (.getfield 28, 3) := by decide +kernel
theorem dX1_readSkipped_97 : decode cX1_readSkipped 97 = .ok (.iload_n 1, 1) := by decide +kernel
theorem dX1_readSkipped_98 : decode cX1_readSkipped 98 = .ok (.invokevirtual 388, 3) := by decide +kernel
theorem dX1_readSkipped_101 : decode cX1_readSkipped 101 = .ok (.return_, 1) := by decide +kernel
def FX1_readSkipped (G : GG) (M : DD) (a : Nat) (p0 : Int32) : Option (DD) :=
  ltt (uI M a 21 p0) fun M1 =>
  dr G 9 ((M1.2 a 2)) fun b2 =>
  ltt ((((8 : Int32)) * p0)) fun x3 =>
  ltt ((x3 + ((0 : Int32)))) fun x4 =>
  dr G 13 ((M1.2 b2 6)) fun b5 =>
  chk (¬ (x4 < 0 ∨ G.2.2 b5 ≤ x4.toNatClampNeg)) <|
  ltt (uI M1 b5 x4.toNatClampNeg ((3 : Int32))) fun M6 =>
  dr G 9 ((M6.2 a 2)) fun b7 =>
  ltt ((((8 : Int32)) * p0)) fun x8 =>
  ltt ((x8 + ((2 : Int32)))) fun x9 =>
  ltt (M6.1 a 20) fun x10 =>
  dr G 13 ((M6.2 b7 6)) fun b11 =>
  chk (¬ (x9 < 0 ∨ G.2.2 b11 ≤ x9.toNatClampNeg)) <|
  ltt (uI M6 b11 x9.toNatClampNeg x10) fun M12 =>
  dr G 3 ((M12.2 a 11)) fun b13 =>
  dr G 13 ((M12.2 b13 0)) fun b14 =>
  chk (¬ (((1 : Int32)) < 0 ∨ G.2.2 b14 ≤ ((1 : Int32)).toNatClampNeg)) <|
  ltt (M12.1 b14 ((1 : Int32)).toNatClampNeg) fun x15 =>
  if x15 = ((1 : Int32)) then (dr G 9 ((M12.2 a 2)) fun b23 =>
  bnd (FX9_direct G M12 b23 p0 ((15 : Int32))) fun y24 =>
  bnd (if y24.2 = ((0 : Int32)) then (none) else
  (some (y24.1))) fun (y25 : DD) =>
  some y25) else
  (dr G 9 ((M12.2 a 2)) fun b17 =>
  dr G 14 ((M12.2 b17 3)) fun b18 =>
  chk (¬ (((0 : Int32)) < 0 ∨ G.2.2 b18 ≤ ((0 : Int32)).toNatClampNeg)) <|
  bnd (if ((M12.2 b18 ((0 : Int32)).toNatClampNeg)) = none then (none) else
  (some (M12))) fun (y19 : DD) =>
  dr G 9 ((y19.2 a 2)) fun b20 =>
  bnd (FX9_skip G y19 b20 p0) fun y21 =>
  some y21)
set_option maxHeartbeats 4000000 in
set_option maxRecDepth 100000 in
theorem kX1_readSkipped (l : Launch) (D : va_G) (ct : CT) (ad : Nat → Nat) (Z : Nat → Nat) (G : GG) (M : DD) (sz : Nat) (a : Nat) (p0 : Int32) (y : DD) (hc : a < G.1) (hk : G.2.1 a = 1) (hF : FX1_readSkipped G M a p0 = some y) : Met l yX1_readSkipped wuX1_readSkipped ({ frames := 4, cells := 0, slots := 0, locals := 113 }) (va_Pc [.ref (ad a), .int p0] (kB D ct ad Z G M sz)) (va_Qv (fun (_ : Unit) => True) (fun _ t => kE D ct ad G (wA ad G sz) y t) (wA ad G sz)) 0 0 (wA ad G sz) := by
  refine Met.ofW (cc := cX1_readSkipped) (maxL := 2) (ret := none) (by decide) rfl ?_
  intro p e s m args below meth c s₁ B hml hv
  obtain ⟨rfl, hsz, hP, hK, hD0, hZ, hN⟩ := hv
  have hx := B.exec
  have hb := B.bytes
  have hr := B.returns
  have hts := atoms_spec (ws := wuX1_readSkipped) B.pre
  have hown : s.vm.findClass RX1 = some m.cls := findClass_of_methodNamed B.named
  have hlocks := B.notSynchronized
  subst hsz
  have hD := wD_self (sz := s.heap.size) hD0
  have hA9 : ∀ q, s.heap.size ≤ q → wA ad G s.heap.size q := fun q h => Or.inr h
  generalize hAe : wA ad G s.heap.size = A at hD hA9 hZ ⊢
  have hS : va_S A s.heap s.heap [] := va_S.rf
  have hl := lv_entry ([.ref (ad a), .int p0]) (n := 2) (Nat.le_of_ble_eq_true rfl)
  rw [lg_entry_eq]
  generalize (lg_sl ([.ref (ad a), .int p0]) ++ List.replicate (2 - (lg_sl ([.ref (ad a), .int p0])).length) Slot.unset).toArray = ls at hl ⊢
  have hl : lv_has ls 2 [(0, .ref (ad a)), (1, .int p0)] := hl
  unfold FX1_readSkipped at hF
  refine lv_aload_n hx hb dX1_readSkipped_0 rfl (lv_at hl 0 rfl) ?_
  refine lv_iload_n hx hb dX1_readSkipped_1 rfl (lv_at hl 1 rfl) ?_
  refine va_put (D := D) (ci := 1) (v := .int p0) (ty := .int) (C := RX1) (T := TX1) (N := 22) hx hb hts (mus hf_X1) tyX1 tyX1_ok nmX1 hown hK hP hD hS a (wld_o ct ad G M hc hk (by decide)) rfl 21 (by decide) (hts (.fieldLink RX1 130 "VideoSuite$Decoder" "current" "I") (mu mw_668)) (fun _ h9 => h9) rfl (by decide +kernel) rfl rfl (Nat.le_of_ble_eq_true rfl) dX1_readSkipped_2 (fun H locs hP hD hS => ?_)
  obtain ⟨M1, eM1, hF⟩ := ltt_some hF
  rw [set_oI ct ad G M hc hk (by decide) (by rfl), ← eM1] at hP hD
  refine lv_aload_n hx hb dX1_readSkipped_5 rfl (lv_at hl 0 rfl) ?_
  refine va_get (D := D) (ci := 1) (v := va_re ad (M1.2 a 2)) (C := RX1) (T := TX1) (N := 22) hx hb hts (mus hf_X1) hown hK hP a (wld_o ct ad G M1 hc hk (by decide)) rfl 2 (by decide) (hts (.fieldLink RX1 28 "VideoSuite$Decoder" "work" "LVideoSuite$Work;") (mu mw_644)) (fun _ h9 => h9) rfl dX1_readSkipped_6 ?_
  obtain ⟨b2, ho2, hc2, hk2, hF⟩ := dr_some hF
  refine W_st (st' := [.ref (ad b2)]) (by rw [va_some ho2]) ?_
  refine va_get (D := D) (ci := 9) (v := va_re ad (M1.2 b2 6)) (C := RX9) (T := TX9) (N := 20) hx hb hts (mus hf_X9) hown hK hP b2 (wld_o ct ad G M1 hc2 hk2 (by decide)) rfl 6 (by decide) (hts (.fieldLink RX1 355 "VideoSuite$Work" "info" "[I") (mu mw_444)) (fun _ h9 => h9) rfl dX1_readSkipped_9 ?_
  refine lv_bipush (v := (8 : Int32)) hx hb dX1_readSkipped_12 (by decide) ?_
  refine lv_iload_n hx hb dX1_readSkipped_14 rfl (lv_at hl 1 rfl) ?_
  refine lv_imul hx hb dX1_readSkipped_15 ?_
  obtain ⟨x3, ex3, hF⟩ := ltt_some hF
  refine lv_topi (fun zx3 ezx3 => ?_)
  obtain rfl : x3 = zx3 := ex3.trans ezx3.symm
  refine lv_iconst (v := (0 : Int32)) hx hb dX1_readSkipped_16 (by decide) ?_
  refine lv_iadd hx hb dX1_readSkipped_17 ?_
  obtain ⟨x4, ex4, hF⟩ := ltt_some hF
  refine lv_topi (fun zx4 ezx4 => ?_)
  obtain rfl : x4 = zx4 := ex4.trans ezx4.symm
  refine lv_iconst (v := (3 : Int32)) hx hb dX1_readSkipped_18 (by decide) ?_
  obtain ⟨b5, ho5, hc5, hk5, hF⟩ := dr_some hF
  refine W_st (st' := [.int (3 : Int32), .int x4, .ref (ad b5)]) (by rw [va_some ho5]) ?_
  obtain ⟨hvc, hF⟩ := chk_some hF
  refine va_iast hx hb hK hP hD hS b5 1 (wld_i ct ad G M1 hc5 hk5) rfl hvc dX1_readSkipped_19 (fun H locs hP hD hS => ?_)
  obtain ⟨M6, eM6, hF⟩ := ltt_some hF
  rw [set_i ct ad G M1 hc5 hk5, ← eM6] at hP hD
  refine lv_aload_n hx hb dX1_readSkipped_20 rfl (lv_at hl 0 rfl) ?_
  refine va_get (D := D) (ci := 1) (v := va_re ad (M6.2 a 2)) (C := RX1) (T := TX1) (N := 22) hx hb hts (mus hf_X1) hown hK hP a (wld_o ct ad G M6 hc hk (by decide)) rfl 2 (by decide) (hts (.fieldLink RX1 28 "VideoSuite$Decoder" "work" "LVideoSuite$Work;") (mu mw_644)) (fun _ h9 => h9) rfl dX1_readSkipped_21 ?_
  obtain ⟨b7, ho7, hc7, hk7, hF⟩ := dr_some hF
  refine W_st (st' := [.ref (ad b7)]) (by rw [va_some ho7]) ?_
  refine va_get (D := D) (ci := 9) (v := va_re ad (M6.2 b7 6)) (C := RX9) (T := TX9) (N := 20) hx hb hts (mus hf_X9) hown hK hP b7 (wld_o ct ad G M6 hc7 hk7 (by decide)) rfl 6 (by decide) (hts (.fieldLink RX1 355 "VideoSuite$Work" "info" "[I") (mu mw_444)) (fun _ h9 => h9) rfl dX1_readSkipped_24 ?_
  refine lv_bipush (v := (8 : Int32)) hx hb dX1_readSkipped_27 (by decide) ?_
  refine lv_iload_n hx hb dX1_readSkipped_29 rfl (lv_at hl 1 rfl) ?_
  refine lv_imul hx hb dX1_readSkipped_30 ?_
  obtain ⟨x8, ex8, hF⟩ := ltt_some hF
  refine lv_topi (fun zx8 ezx8 => ?_)
  obtain rfl : x8 = zx8 := ex8.trans ezx8.symm
  refine lv_iconst (v := (2 : Int32)) hx hb dX1_readSkipped_31 (by decide) ?_
  refine lv_iadd hx hb dX1_readSkipped_32 ?_
  obtain ⟨x9, ex9, hF⟩ := ltt_some hF
  refine lv_topi (fun zx9 ezx9 => ?_)
  obtain rfl : x9 = zx9 := ex9.trans ezx9.symm
  refine lv_aload_n hx hb dX1_readSkipped_33 rfl (lv_at hl 0 rfl) ?_
  refine va_get (D := D) (ci := 1) (v := .int (M6.1 a 20)) (C := RX1) (T := TX1) (N := 22) hx hb hts (mus hf_X1) hown hK hP a (wld_o ct ad G M6 hc hk (by decide)) rfl 20 (by decide) (hts (.fieldLink RX1 328 "VideoSuite$Decoder" "step" "I") (mu mw_667)) (fun _ h9 => h9) rfl dX1_readSkipped_34 ?_
  obtain ⟨x10, ex10, hF⟩ := ltt_some hF
  refine lv_topi (fun zx10 ezx10 => ?_)
  obtain rfl : x10 = zx10 := ex10.trans ezx10.symm
  obtain ⟨b11, ho11, hc11, hk11, hF⟩ := dr_some hF
  refine W_st (st' := [.int x10, .int x9, .ref (ad b11)]) (by rw [va_some ho11]) ?_
  obtain ⟨hvc, hF⟩ := chk_some hF
  refine va_iast hx hb hK hP hD hS b11 1 (wld_i ct ad G M6 hc11 hk11) rfl hvc dX1_readSkipped_37 (fun H locs hP hD hS => ?_)
  obtain ⟨M12, eM12, hF⟩ := ltt_some hF
  rw [set_i ct ad G M6 hc11 hk11, ← eM12] at hP hD
  refine lv_aload_n hx hb dX1_readSkipped_38 rfl (lv_at hl 0 rfl) ?_
  refine va_get (D := D) (ci := 1) (v := va_re ad (M12.2 a 11)) (C := RX1) (T := TX1) (N := 22) hx hb hts (mus hf_X1) hown hK hP a (wld_o ct ad G M12 hc hk (by decide)) rfl 11 (by decide) (hts (.fieldLink RX1 72 "VideoSuite$Decoder" "latest" "LVideoSuite$Header;") (mu mw_653)) (fun _ h9 => h9) rfl dX1_readSkipped_39 ?_
  obtain ⟨b13, ho13, hc13, hk13, hF⟩ := dr_some hF
  refine W_st (st' := [.ref (ad b13)]) (by rw [va_some ho13]) ?_
  refine va_get (D := D) (ci := 3) (v := va_re ad (M12.2 b13 0)) (C := RX3) (T := TX3) (N := 4) hx hb hts (mus hf_X3) hown hK hP b13 (wld_o ct ad G M12 hc13 hk13 (by decide)) rfl 0 (by decide) (hts (.fieldLink RX1 212 "VideoSuite$Header" "v" "[I") (mu mw_618)) (fun _ h9 => h9) rfl dX1_readSkipped_42 ?_
  refine lv_iconst (v := (1 : Int32)) hx hb dX1_readSkipped_45 (by decide) ?_
  obtain ⟨b14, ho14, hc14, hk14, hF⟩ := dr_some hF
  refine W_st (st' := [.int (1 : Int32), .ref (ad b14)]) (by rw [va_some ho14]) ?_
  obtain ⟨hvc, hF⟩ := chk_some hF
  refine va_iald hx hb hK hP b14 1 (wld_i ct ad G M12 hc14 hk14) rfl hvc dX1_readSkipped_46 ?_
  obtain ⟨x15, ex15, hF⟩ := ltt_some hF
  refine lv_topi (fun zx15 ezx15 => ?_)
  obtain rfl : x15 = zx15 := ex15.trans ezx15.symm
  refine lv_iconst (v := (1 : Int32)) hx hb dX1_readSkipped_47 (by decide) ?_
  refine lv_icmp_ne (tgt := 73) hx hb dX1_readSkipped_48 (by decide) (fun c16 => ?_) (fun c16 => ?_)
  · rw [if_neg c16] at hF
    refine lv_aload_n hx hb dX1_readSkipped_73 rfl (lv_at hl 0 rfl) ?_
    refine va_get (D := D) (ci := 1) (v := va_re ad (M12.2 a 2)) (C := RX1) (T := TX1) (N := 22) hx hb hts (mus hf_X1) hown hK hP a (wld_o ct ad G M12 hc hk (by decide)) rfl 2 (by decide) (hts (.fieldLink RX1 28 "VideoSuite$Decoder" "work" "LVideoSuite$Work;") (mu mw_644)) (fun _ h9 => h9) rfl dX1_readSkipped_74 ?_
    obtain ⟨b17, ho17, hc17, hk17, hF⟩ := dr_some hF
    refine W_st (st' := [.ref (ad b17)]) (by rw [va_some ho17]) ?_
    refine va_get (D := D) (ci := 9) (v := va_re ad (M12.2 b17 3)) (C := RX9) (T := TX9) (N := 20) hx hb hts (mus hf_X9) hown hK hP b17 (wld_o ct ad G M12 hc17 hk17 (by decide)) rfl 3 (by decide) (hts (.fieldLink RX1 384 "VideoSuite$Work" "lists" "[LVideoSuite$Picture;") (mu mw_438)) (fun _ h9 => h9) rfl dX1_readSkipped_77 ?_
    refine lv_iconst (v := (0 : Int32)) hx hb dX1_readSkipped_80 (by decide) ?_
    obtain ⟨b18, ho18, hc18, hk18, hF⟩ := dr_some hF
    refine W_st (st' := [.int (0 : Int32), .ref (ad b18)]) (by rw [va_some ho18]) ?_
    obtain ⟨hvc, hF⟩ := chk_some hF
    refine ld_q hx hb hK hP hc18 hk18 hvc dX1_readSkipped_81 ?_
    obtain ⟨y19, hy19, hF⟩ := bnd_some hF
    have J19 : ∀ (H : Heap) (locs : List Loc) (ls : Array Slot), va_P D classes (wld ct ad G y19) H → va_D A (wld ct ad G y19) → va_S A s.heap H locs → lv_has ls 2 [(0, .ref (ad a)), (1, .int p0)] → W p l e (headSpec wuX1_readSkipped ({ frames := 4, cells := 0, slots := 0, locals := 113 })).room s m ([.ref (ad a), .int p0] : List Value).toArray below meth c H locs 0 0 (MQ below (va_Qv (fun (_ : Unit) => True) (fun _ t => kE D ct ad G A y t) A) ([.ref (ad a), .int p0] : List Value).toArray s 0 0 A) (F0 m 93 ls []) := by
      intro H locs ls hP hD hS hl
      refine lv_aload_n hx hb dX1_readSkipped_93 rfl (lv_at hl 0 rfl) ?_
      refine va_get (D := D) (ci := 1) (v := va_re ad (y19.2 a 2)) (C := RX1) (T := TX1) (N := 22) hx hb hts (mus hf_X1) hown hK hP a (wld_o ct ad G y19 hc hk (by decide)) rfl 2 (by decide) (hts (.fieldLink RX1 28 "VideoSuite$Decoder" "work" "LVideoSuite$Work;") (mu mw_644)) (fun _ h9 => h9) rfl dX1_readSkipped_94 ?_
      refine lv_iload_n hx hb dX1_readSkipped_97 rfl (lv_at hl 1 rfl) ?_
      obtain ⟨b20, ho20, hc20, hk20, hF⟩ := dr_some hF
      refine W_st (st' := [.int p0, .ref (ad b20)]) (by rw [va_some ho20]) ?_
      obtain ⟨y21, hy21, hF⟩ := bnd_some hF
      have hf9 := wA_in hD hA9 hS
      refine va_callv (va_runV (As := [.int p0]) (rest := []) ⟨hx, hb, hml, hown, hts⟩ (kX9_skip l D ct ad Z G y19 H.size b20 p0 y21 hc20 hk20 hy21) (cwV 1 hts gX1_readSkipped_X9_skip rfl rfl rfl (by decide +kernel) ⟨Nat.le_of_ble_eq_true rfl, Nat.le_of_ble_eq_true rfl⟩) ⟨fun a U g mk q => by obtain ⟨q0, q1, qP, qK, qD, qZ, qN⟩ := q; exact ⟨q0, q1, qP, va_K.moved (u := U) (U := U.calling g mk a) (Vm.Alike.refl U.vm) qK, qD, sF.moved (u := U) (U := U.calling g mk a) (Vm.Alike.refl U.vm) qZ, nF.same rfl qN⟩, va_recv hK hP (ci := 9) (q0 := b20) rfl (wld_o ct ad G y19 hc20 hk20 (by decide)), fun U hU hW => ⟨rfl, by rw [hU], by rw [hU]; exact hP, va_K.moved hW.alike hK, hD.weaken (fun _ _ _ _ => trivial), by rw [hU]; exact ((hZ.kept hS.2.1).narrow hf9).moved hW.alike, hN.warm hW⟩⟩ rfl rfl hl.1 rfl (lv_room (Nat.le_of_ble_eq_true rfl)) dX1_readSkipped_98 ⟨(Nat.zero_le _), (Nat.zero_le _)⟩) hS (fun q _ h => hf9 q h) hf9 (fun u t H locs ht hvm hw hB hz1 hk1 hS => ?_)
      obtain ⟨hP, hK9, hD9⟩ := hB
      rw [ht] at hP
      have hD := hD9.weaken (fun _ q _ h => hf9 q.1 h)
      obtain rfl := Option.some.inj hF
      exact W.vret hx hb hr (fun t ht hW => ⟨⟨(), rfl, trivial, ⟨by rw [ht]; exact hP, va_K.moved hW.alike hK, hD⟩⟩, hS.F ht⟩) hS.2.2 dX1_readSkipped_101
    clear hF
    have hF := hy19
    clear hy19
    refine lv_ifnonnullq (tgt := 93) hx hb dX1_readSkipped_82 (by decide) (fun c22 => ?_) (fun c22 => ?_)
    · rw [if_neg c22] at hF
      obtain rfl := Option.some.inj hF
      exact J19 _ _ _ hP hD hS (lv_sub hl [0, 1] rfl)
    · rw [if_pos c22] at hF
      refine lv_aload_n hx hb dX1_readSkipped_85 rfl (lv_at hl 0 rfl) ?_
      refine va_get (D := D) (ci := 1) (v := va_re ad (M12.2 a 0)) (C := RX1) (T := TX1) (N := 22) hx hb hts (mus hf_X1) hown hK hP a (wld_o ct ad G M12 hc hk (by decide)) rfl 0 (by decide) (hts (.fieldLink RX1 12 "VideoSuite$Decoder" "reader" "LVideoSuite$Reader;") (mu mw_640)) (fun _ h9 => h9) rfl dX1_readSkipped_86 ?_
      refine lv_iconst (v := (4 : Int32)) hx hb dX1_readSkipped_89 (by decide) ?_
      cases hF
  · rw [if_pos c16] at hF
    refine lv_aload_n hx hb dX1_readSkipped_51 rfl (lv_at hl 0 rfl) ?_
    refine va_get (D := D) (ci := 1) (v := va_re ad (M12.2 a 2)) (C := RX1) (T := TX1) (N := 22) hx hb hts (mus hf_X1) hown hK hP a (wld_o ct ad G M12 hc hk (by decide)) rfl 2 (by decide) (hts (.fieldLink RX1 28 "VideoSuite$Decoder" "work" "LVideoSuite$Work;") (mu mw_644)) (fun _ h9 => h9) rfl dX1_readSkipped_52 ?_
    refine lv_iload_n hx hb dX1_readSkipped_55 rfl (lv_at hl 1 rfl) ?_
    refine lv_bipush (v := (15 : Int32)) hx hb dX1_readSkipped_56 (by decide) ?_
    obtain ⟨b23, ho23, hc23, hk23, hF⟩ := dr_some hF
    refine W_st (st' := [.int (15 : Int32), .int p0, .ref (ad b23)]) (by rw [va_some ho23]) ?_
    obtain ⟨y24, hy24, hF⟩ := bnd_some hF
    have hf9 := wA_in hD hA9 hS
    refine va_calli (va_runV (As := [.int p0, .int (15 : Int32)]) (rest := []) ⟨hx, hb, hml, hown, hts⟩ (kX9_direct l D ct ad Z G M12 H.size b23 p0 ((15 : Int32)) y24 hc23 hk23 hy24) (cwV 2 hts gX1_readSkipped_X9_direct rfl rfl rfl (by decide +kernel) ⟨Nat.le_of_ble_eq_true rfl, Nat.le_of_ble_eq_true rfl⟩) ⟨fun a U g mk q => by obtain ⟨q0, q1, qP, qK, qD, qZ, qN⟩ := q; exact ⟨q0, q1, qP, va_K.moved (u := U) (U := U.calling g mk a) (Vm.Alike.refl U.vm) qK, qD, sF.moved (u := U) (U := U.calling g mk a) (Vm.Alike.refl U.vm) qZ, nF.same rfl qN⟩, va_recv hK hP (ci := 9) (q0 := b23) rfl (wld_o ct ad G M12 hc23 hk23 (by decide)), fun U hU hW => ⟨rfl, by rw [hU], by rw [hU]; exact hP, va_K.moved hW.alike hK, hD.weaken (fun _ _ _ _ => trivial), by rw [hU]; exact ((hZ.kept hS.2.1).narrow hf9).moved hW.alike, hN.warm hW⟩⟩ rfl rfl hl.1 rfl (lv_room (Nat.le_of_ble_eq_true rfl)) dX1_readSkipped_58 ⟨(Nat.zero_le _), (Nat.zero_le _)⟩) hS (fun q _ h => hf9 q h) hf9 (fun r u t H locs ht hvm hw hB hz1 hk1 hS => ?_)
    obtain ⟨hP, hK9, hD9⟩ := hB
    rw [ht] at hP
    try dsimp only at hw
    subst hw
    have hD := hD9.weaken (fun _ q _ h => hf9 q.1 h)
    obtain ⟨y25, hy25, hF⟩ := bnd_some hF
    have J25 : ∀ (H : Heap) (locs : List Loc) (ls : Array Slot), va_P D classes (wld ct ad G y25) H → va_D A (wld ct ad G y25) → va_S A s.heap H locs → lv_has ls 2 [(0, .ref (ad a)), (1, .int p0)] → W p l e (headSpec wuX1_readSkipped ({ frames := 4, cells := 0, slots := 0, locals := 113 })).room s m ([.ref (ad a), .int p0] : List Value).toArray below meth c H locs 0 0 (MQ below (va_Qv (fun (_ : Unit) => True) (fun _ t => kE D ct ad G A y t) A) ([.ref (ad a), .int p0] : List Value).toArray s 0 0 A) (F0 m 72 ls []) := by
      intro H locs ls hP hD hS hl
      obtain rfl := Option.some.inj hF
      exact W.vret hx hb hr (fun t ht hW => ⟨⟨(), rfl, trivial, ⟨by rw [ht]; exact hP, va_K.moved hW.alike hK, hD⟩⟩, hS.F ht⟩) hS.2.2 dX1_readSkipped_72
    clear hF
    have hF := hy25
    clear hy25
    refine lv_if_ne (tgt := 72) hx hb dX1_readSkipped_61 (by decide) (fun c26 => ?_) (fun c26 => ?_)
    · rw [if_neg c26] at hF
      obtain rfl := Option.some.inj hF
      exact J25 _ _ _ hP hD hS (lv_sub hl [0, 1] rfl)
    · rw [if_pos c26] at hF
      refine lv_aload_n hx hb dX1_readSkipped_64 rfl (lv_at hl 0 rfl) ?_
      refine va_get (D := D) (ci := 1) (v := va_re ad (y24.1.2 a 0)) (C := RX1) (T := TX1) (N := 22) hx hb hts (mus hf_X1) hown hK hP a (wld_o ct ad G y24.1 hc hk (by decide)) rfl 0 (by decide) (hts (.fieldLink RX1 12 "VideoSuite$Decoder" "reader" "LVideoSuite$Reader;") (mu mw_640)) (fun _ h9 => h9) rfl dX1_readSkipped_65 ?_
      refine lv_iconst (v := (4 : Int32)) hx hb dX1_readSkipped_68 (by decide) ?_
      cases hF
