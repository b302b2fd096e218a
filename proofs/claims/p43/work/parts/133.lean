set_option maxRecDepth 20000 in
theorem gX11_open_X0_clash : GoodIn wuX11_open (wsV RX11 316 RX0 yX0_clash wuX0_clash) := gu_V mw_1107 mw_1108 mw_1109 mw_175 mw_1110
set_option maxRecDepth 20000 in
set_option maxRecDepth 20000 in
theorem gX11_open_X0_start : GoodIn wuX11_open (wsV RX11 319 RX0 yX0_start wuX0_start) := gu_V mw_1111 mw_1112 mw_1113 mw_175 mw_1114
theorem dX11_open_0 : decode cX11_open 0 = .ok (.aload_n 0, 1) := by decide +kernel
theorem dX11_open_1 : decode cX11_open 1 = .ok (.getfield 31, 3) := by decide +kernel
theorem dX11_open_4 : decode cX11_open 4 = .ok (.invokevirtual 316, 3) := by decide +kernel
theorem dX11_open_7 : decode cX11_open 7 = .ok (.istore_n 1, 1) := by decide +kernel
theorem dX11_open_8 : decode cX11_open 8 = .ok (.iload_n 1, 1) := by decide +kernel
theorem dX11_open_9 : decode cX11_open 9 = .ok (.ifCond .ge 10, 3) := by decide +kernel
theorem dX11_open_12 : decode cX11_open 12 = .ok (.aload_n 0, 1) := by decide +kernel
theorem dX11_open_13 : decode cX11_open 13 = .ok (.getfield 31, 3) := by decide +kernel
theorem dX11_open_16 : decode cX11_open 16 = .ok (.invokevirtual 319, 3) := by decide +kernel
theorem dX11_open_19 : decode cX11_open 19 = .ok (.iload_n 1, 1) := by decide +kernel
theorem dX11_open_20 : decode cX11_open 20 = .ok (.ireturn, 1) := by decide +kernel
noncomputable def FX11_open (G : GG) (M : DD) (a : Nat)  : Option (NN × DD × Int32) :=
  dr (xt G []) 0 ((M.2 a 4)) fun b2 =>
  bnd (FX0_clash (xt G []) M b2) fun y3 =>
  bnd (if ((0 : Int32)) ≤ y3.2 then (some ([], y3.1)) else
  (dr (xt G []) 0 ((y3.1.2 a 4)) fun b10 =>
  bnd (FX0_start (xt G []) y3.1 b10) fun y11 =>
  app y11.1 <|
  ltt ([] ++ y11.1) fun L13 =>
  some ([], y11.2))) fun (y4 : NN × DD) =>
  app y4.1 <|
  ltt ([] ++ y4.1) fun L6 =>
  some ([], (y4.2, y3.2))
set_option maxHeartbeats 4000000 in
set_option maxRecDepth 100000 in
theorem kX11_open (l : Launch) (D : va_G) (ct : CT) (ad : Nat → Nat) (Z : Nat → Nat) (G : GG) (M : DD) (sz : Nat) (a : Nat)  (y : NN × DD × Int32) (hc : a < G.1) (hk : G.2.1 a = 11) (hF : FX11_open G M a  = some y) : Met l yX11_open wuX11_open ({ frames := 8, cells := y.1.length, slots := wt y.1, locals := 240 }) (va_Pc [.ref (ad a)] (kB D ct ad Z G M sz)) (va_Qi (fun (q : Int32) (u : Nat → Nat) => q = y.2.2 ∧ agr G.1 ad u) (fun u t => kE D ct u (xt G y.1) (wA ad G sz) y.2.1 t) (wA ad G sz)) y.1.length (wt y.1) (wA ad G sz) := by
  refine Met.ofW (cc := cX11_open) (maxL := 2) (ret := (some .int)) (by decide) rfl ?_
  intro p e s m args below meth c s₁ B hml hv
  obtain ⟨rfl, hsz, hP, hK, hD0, hZ, hN⟩ := hv
  have hx := B.exec
  have hb := B.bytes
  have hr := B.returns
  have hts := atoms_spec (ws := wuX11_open) B.pre
  have hown : s.vm.findClass RX11 = some m.cls := findClass_of_methodNamed B.named
  have hlocks := B.notSynchronized
  subst hsz
  have hD := wD_self (sz := s.heap.size) hD0
  have hA9 : ∀ q, s.heap.size ≤ q → wA ad G s.heap.size q := fun q h => Or.inr h
  generalize hAe : wA ad G s.heap.size = A at hD hA9 hZ ⊢
  have hS : va_S A s.heap s.heap [] := va_S.rf
  have hl := lv_entry ([.ref (ad a)]) (n := 2) (Nat.le_of_ble_eq_true rfl)
  rw [lg_entry_eq]
  generalize (lg_sl ([.ref (ad a)]) ++ List.replicate (2 - (lg_sl ([.ref (ad a)])).length) Slot.unset).toArray = ls at hl ⊢
  have hl : lv_has ls 2 [(0, .ref (ad a))] := hl
  unfold FX11_open at hF
  rw [← wld_0 ct ad G M] at hP hD
  have hk := xt_k0 hc hk
  have hc := xt_l0 hc
  have hag := agr_rf G.1 ad
  obtain ⟨w0, hw0⟩ : ∃ z, z = y := ⟨_, rfl⟩
  rw [← hw0] at hF
  have hT : y.1 = [] ++ w0.1 := by rw [hw0]; rfl
  have h2 : y.2 = w0.2 := by rw [hw0]
  have hbl : y.1.length ≤ y.1.length ∧ wt y.1 ≤ wt y.1 := ⟨Nat.le_refl _, Nat.le_refl _⟩
  refine lv_aload_n hx hb dX11_open_0 rfl (lv_at hl 0 rfl) ?_
  refine va_get (D := D) (ci := 11) (v := va_re ad (M.2 a 4)) (C := RX11) (T := TX11) (N := 5) hx hb hts (mus hf_X11) hown hK hP a (wld_o ct ad (xt G []) M hc hk (by decide)) rfl 4 (by decide) (hts (.fieldLink RX11 31 "VideoSuite" "coder" "LVideoSuite$Coder;") (mu mw_886)) (fun _ h9 => h9) rfl dX11_open_1 ?_
  obtain ⟨b2, ho2, hc2, hk2, hF⟩ := dr_some hF
  refine W_st (st' := [.ref (ad b2)]) (by rw [va_some ho2]) ?_
  obtain ⟨y3, hy3, hF⟩ := bnd_some hF
  have hf9 := wA_in hD hA9 hS
  refine va_calli (va_runV (As := []) (rest := []) ⟨hx, hb, hml, hown, hts⟩ (kX0_clash l D ct ad Z (xt G []) M s.heap.size b2 y3 hc2 hk2 hy3) (cwV 0 hts gX11_open_X0_clash rfl rfl rfl (by decide +kernel) ⟨Nat.le_of_ble_eq_true rfl, Nat.le_of_ble_eq_true rfl⟩) ⟨fun a U g mk q => by obtain ⟨q0, q1, qP, qK, qD, qZ, qN⟩ := q; exact ⟨q0, q1, qP, va_K.moved (u := U) (U := U.calling g mk a) (Vm.Alike.refl U.vm) qK, qD, sF.moved (u := U) (U := U.calling g mk a) (Vm.Alike.refl U.vm) qZ, nF.same rfl qN⟩, va_recv hK hP (ci := 0) (q0 := b2) rfl (wld_o ct ad (xt G []) M hc2 hk2 (by decide)), fun U hU hW => ⟨rfl, by rw [hU], by rw [hU]; exact hP, va_K.moved hW.alike hK, hD.weaken (fun _ _ _ _ => trivial), by rw [hU]; exact ((hZ.kept hS.2.1).narrow hf9).moved hW.alike, hN.warm hW⟩⟩ rfl rfl hl.1 rfl (lv_room (Nat.le_of_ble_eq_true rfl)) dX11_open_4 (room_d hT hbl)) hS (fun q _ h => hf9 q h) hf9 (fun r u t H locs ht hvm hw hB hz1 hk1 hS => ?_)
  obtain ⟨hP, hK9, hD9⟩ := hB
  rw [ht] at hP
  try dsimp only at hw
  subst hw
  refine W_cs (k := ([] : NN).length) (n := wt []) rfl rfl ?_
  have hD := hD9.weaken (fun _ q _ h => hf9 q.1 h)
  refine lv_istore_n (lv' := [(1, .int y3.2), (0, .ref (ad a))]) hx hb dX11_open_7 rfl hl (by decide) rfl (fun ls hl => ?_)
  refine lv_iload_n hx hb dX11_open_8 rfl (lv_at hl 0 rfl) ?_
  obtain ⟨y4, hy4, hF⟩ := bnd_some hF
  obtain ⟨w5, hF, ew5⟩ := app_some hF
  obtain ⟨L6, eL6, hF⟩ := ltt_some hF
  have hT6 : y.1 = ([] ++ y4.1) ++ w5.1 := by rw [hT, ew5]; simp only [List.append_assoc]
  have hbl6 : L6.length ≤ y.1.length ∧ wt L6 ≤ wt y.1 := by rw [eL6]; exact room_d hT6 hbl
  have J4 : ∀ (ad7 : Nat → Nat), agr G.1 ad ad7 → ∀ (H : Heap) (locs : List Loc) (ls : Array Slot), va_P D classes (wld ct ad7 (xt G L6) y4.2) H → va_D A (wld ct ad7 (xt G L6) y4.2) → va_S A s.heap H locs → lv_has ls 2 [(1, .int y3.2)] → W p l e (headSpec wuX11_open ({ frames := 8, cells := y.1.length, slots := wt y.1, locals := 240 })).room s m ([.ref (ad a)] : List Value).toArray below meth c H locs (L6 : NN).length (wt L6) (MQ below (va_Qi (fun (q : Int32) (u : Nat → Nat) => q = y.2.2 ∧ agr G.1 ad u) (fun u t => kE D ct u (xt G y.1) A y.2.1 t) A) ([.ref (ad a)] : List Value).toArray s y.1.length (wt y.1) A) (F0 m 19 ls []) := by
    intro ad7 hag H locs ls hP hD hS hl
    have hT : y.1 = L6 ++ w5.1 := by rw [hT6, eL6]
    have h2 : y.2 = w5.2 := by rw [h2, ew5]
    have hk : (xt G L6).2.1 a = 11 := by rw [eL6]; exact xt_k _ hc hk
    have hc : a < (xt G L6).1 := by rw [eL6]; exact xt_l _ hc
    have hk2 : (xt G L6).2.1 b2 = 0 := by rw [eL6]; exact xt_k _ hc2 hk2
    have hc2 : b2 < (xt G L6).1 := by rw [eL6]; exact xt_l _ hc2
    refine lv_iload_n hx hb dX11_open_19 rfl (lv_at hl 0 rfl) ?_
    obtain rfl := Option.some.inj hF
    have e1 : y.1 = L6 := by rw [hT]; exact List.append_nil _
    have e2 : y.2 = (y4.2, y3.2) := h2
    refine W.widen (k := y.1.length) (n := wt y.1) (Nat.le_of_eq (by rw [e1])) (Nat.le_of_eq (by rw [e1])) ?_
    exact W.iret (v := y3.2) hx hb hr (fun t ht hW => ⟨⟨_, ad7, rfl, ⟨by rw [e2], hag⟩, (by unfold kE; rw [e1, e2]; exact ⟨by rw [ht]; exact hP, va_K.moved hW.alike hK, hD⟩)⟩, hS.F ht⟩) hS.2.2 dX11_open_20
  clear hF
  obtain ⟨w8, hw8⟩ : ∃ z, z = y4 := ⟨_, rfl⟩
  have hF := hy4
  rw [← hw8] at hF
  clear hy4
  have hT : L6 = [] ++ w8.1 := by rw [eL6, hw8]
  have h2 : y4.2 = w8.2 := by rw [hw8]
  have hbl := hbl6
  refine lv_if_ge (tgt := 19) hx hb dX11_open_9 (by decide) (fun c9 => ?_) (fun c9 => ?_)
  · rw [if_pos c9] at hF
    obtain rfl := Option.some.inj hF
    have e1 : L6 = [] := by rw [hT]; exact List.append_nil _
    have e2 : y4.2 = y3.1 := h2
    rw [e1] at J4
    try rw [e2] at J4
    exact J4 _ hag _ _ _ hP hD hS (lv_sub hl [0] rfl)
  · rw [if_neg c9] at hF
    refine lv_aload_n hx hb dX11_open_12 rfl (lv_at hl 1 rfl) ?_
    refine va_get (D := D) (ci := 11) (v := va_re ad (y3.1.2 a 4)) (C := RX11) (T := TX11) (N := 5) hx hb hts (mus hf_X11) hown hK hP a (wld_o ct ad (xt G []) y3.1 hc hk (by decide)) rfl 4 (by decide) (hts (.fieldLink RX11 31 "VideoSuite" "coder" "LVideoSuite$Coder;") (mu mw_886)) (fun _ h9 => h9) rfl dX11_open_13 ?_
    obtain ⟨b10, ho10, hc10, hk10, hF⟩ := dr_some hF
    refine W_st (st' := [.ref (ad b10)]) (by rw [va_some ho10]) ?_
    obtain ⟨y11, hy11, hF⟩ := bnd_some hF
    obtain ⟨w12, hF, ew12⟩ := app_some hF
    obtain ⟨L13, eL13, hF⟩ := ltt_some hF
    have hT13 : L6 = ([] ++ y11.1) ++ w12.1 := by rw [hT, ew12]; simp only [List.append_assoc]
    have hf9 := wA_in hD hA9 hS
    refine va_callv (va_runV (As := []) (rest := []) ⟨hx, hb, hml, hown, hts⟩ (kX0_start l D ct ad Z (xt G []) y3.1 _ b10 y11 hc10 hk10 hy11) (cwV 0 hts gX11_open_X0_start rfl rfl rfl (by decide +kernel) ⟨Nat.le_of_ble_eq_true rfl, Nat.le_of_ble_eq_true rfl⟩) ⟨fun a U g mk q => by obtain ⟨q0, q1, qP, qK, qD, qZ, qN⟩ := q; exact ⟨q0, q1, qP, va_K.moved (u := U) (U := U.calling g mk a) (Vm.Alike.refl U.vm) qK, qD, sF.moved (u := U) (U := U.calling g mk a) (Vm.Alike.refl U.vm) qZ, nF.same rfl qN⟩, va_recv hK hP (ci := 0) (q0 := b10) rfl (wld_o ct ad (xt G []) y3.1 hc10 hk10 (by decide)), fun U hU hW => ⟨rfl, by rw [hU], by rw [hU]; exact hP, va_K.moved hW.alike hK, hD.weaken (fun _ _ _ _ => trivial), by rw [hU]; exact ((hZ.kept hS.2.1).narrow hf9).moved hW.alike, hN.warm hW⟩⟩ rfl rfl hl.1 rfl (lv_room (Nat.le_of_ble_eq_true rfl)) dX11_open_16 (room_s hT13 hbl)) hS (fun q _ h => hf9 q h) hf9 (fun ad14 t H locs ht hvm hw hB hz1 hk1 hS => ?_)
    have hn15 := hw
    obtain ⟨hP, hK9, hD9⟩ := hB
    rw [ht] at hP
    have hD := hD9.weaken (fun _ q _ h => hf9 q.1 h)
    rw [xt_xt, ← eL13] at hP hD
    refine W_cs (k := L13.length) (n := wt L13) (by rw [eL13]; exact (len_s [] y11.1).symm) (by rw [eL13]; exact (wt_app [] y11.1).symm) ?_
    have hT : L6 = L13 ++ w12.1 := by rw [hT13, eL13]
    have h2 : y4.2 = w12.2 := by rw [h2, ew12]
    have hl := lv_sub (l' := [(1, .int y3.2)]) hl [0] rfl
    have hk : (xt G L13).2.1 a = 11 := by rw [eL13]; exact xt_k _ hc hk
    have hc : a < (xt G L13).1 := by rw [eL13]; exact xt_l _ hc
    have hk2 : (xt G L13).2.1 b2 = 0 := by rw [eL13]; exact xt_k _ hc2 hk2
    have hc2 : b2 < (xt G L13).1 := by rw [eL13]; exact xt_l _ hc2
    have hk10 : (xt G L13).2.1 b10 = 0 := by rw [eL13]; exact xt_k _ hc10 hk10
    have hc10 : b10 < (xt G L13).1 := by rw [eL13]; exact xt_l _ hc10
    have hag := agr_t (xt_ge _ _) hag hn15
    obtain rfl := Option.some.inj hF
    have e1 : L6 = L13 := by rw [hT]; exact List.append_nil _
    have e2 : y4.2 = y11.2 := h2
    rw [e1] at J4
    try rw [e2] at J4
    exact J4 _ hag _ _ _ hP hD hS (lv_sub hl [0] rfl)
set_option maxRecDepth 20000 in
theorem gX1_beginPicture_X3_isOwn : GoodIn wuX1_beginPicture (wsV RX1 261 RX3 yX3_isOwn wuX3_isOwn) := gu_V mw_1057 mw_1005 mw_1006 mw_174 mw_1007
set_option maxRecDepth 20000 in
set_option maxRecDepth 20000 in
theorem gX1_beginPicture_X7_fresh : GoodIn wuX1_beginPicture (wsV RX1 269 RX7 yX7_fresh wuX7_fresh) := gu_V mw_1538 mw_1410 mw_1411 mw_170 mw_1412
set_option maxRecDepth 20000 in
set_option maxRecDepth 20000 in
theorem gX1_beginPicture_X7_orderOf : GoodIn wuX1_beginPicture (wsV RX1 281 RX7 yX7_orderOf wuX7_orderOf) := gu_V mw_1539 mw_1540 mw_1541 mw_170 mw_1542
set_option maxRecDepth 20000 in
set_option maxRecDepth 20000 in
theorem gX1_beginPicture_X9_begin : GoodIn wuX1_beginPicture (wsV RX1 294 RX9 yX9_begin wuX9_begin) := gu_V mw_1547 mw_1548 mw_1549 mw_171 mw_1550
set_option maxRecDepth 20000 in
set_option maxRecDepth 20000 in
theorem gX1_beginPicture_X3_copyFrom : GoodIn wuX1_beginPicture (wsV RX1 297 RX3 yX3_copyFrom wuX3_copyFrom) := gu_V mw_1798 mw_1799 mw_1800 mw_174 mw_1801
set_option maxRecDepth 20000 in
set_option maxRecDepth 20000 in
theorem gX1_beginPicture_X4_blocks : GoodIn wuX1_beginPicture (wsV RX1 304 RX4 yX4_blocks wuX4_blocks) := gu_V mw_1803 mw_911 mw_912 mw_185 mw_913
theorem dX1_beginPicture_0 : decode cX1_beginPicture 0 = .ok (.aload_n 0, 1) := by decide +kernel
theorem dX1_beginPicture_1 : decode cX1_beginPicture 1 = .ok (.getfield 68, 3) := by decide +kernel
theorem dX1_beginPicture_4 : decode cX1_beginPicture 4 = .ok (.getfield 212, 3) := by decide +kernel
theorem dX1_beginPicture_7 : decode cX1_beginPicture 7 = .ok (.astore_n 1, 1) := by decide +kernel
theorem dX1_beginPicture_8 : decode cX1_beginPicture 8 = .ok (.aload_n 0, 1) := by decide +kernel
theorem dX1_beginPicture_9 : decode cX1_beginPicture 9 = .ok (.getfield 68, 3) := by decide +kernel
theorem dX1_beginPicture_12 : decode cX1_beginPicture 12 = .ok (.invokevirtual 261, 3) := by decide +kernel
theorem dX1_beginPicture_15 : decode cX1_beginPicture 15 = .ok (.ifCond .eq 37, 3) := by decide +kernel
theorem dX1_beginPicture_18 : decode cX1_beginPicture 18 = .ok (.aload_n 0, 1) := by decide +kernel
theorem dX1_beginPicture_19 : decode cX1_beginPicture 19 = .ok (.aload_n 0, 1) := by decide +kernel
theorem dX1_beginPicture_20 : decode cX1_beginPicture 20 = .ok (.getfield 51, 3) := by decide +kernel
theorem dX1_beginPicture_23 : decode cX1_beginPicture 23 = .ok (.aload_n 1, 1) := by decide +kernel
theorem dX1_beginPicture_24 : decode cX1_beginPicture 24 = .ok (.iconst 2, 1) := by decide +kernel
theorem dX1_beginPicture_25 : decode cX1_beginPicture 25 = .ok (.iaload, 1) := by decide +kernel
theorem dX1_beginPicture_26 : decode cX1_beginPicture 26 = .ok (.aaload, 1) := by decide +kernel
theorem dX1_beginPicture_27 : decode cX1_beginPicture 27 = .ok (.iconst 0, 1) := by decide +kernel
theorem dX1_beginPicture_28 : decode cX1_beginPicture 28 = .ok (.iaload, 1) := by decide +kernel
theorem dX1_beginPicture_29 : decode cX1_beginPicture 29 = .ok (.putfield 58, 3) := by decide +kernel
theorem dX1_beginPicture_32 : decode cX1_beginPicture 32 = .ok (.aload_n 0, 1) := by decide +kernel
theorem dX1_beginPicture_33 : decode cX1_beginPicture 33 = .ok (.getfield 48, 3) := by decide +kernel
theorem dX1_beginPicture_36 : decode cX1_beginPicture 36 = .ok (.aload_n 0, 1) := by decide +kernel
theorem dX1_beginPicture_37 : decode cX1_beginPicture 37 = .ok (.getfield 58, 3) := by decide +kernel
theorem dX1_beginPicture_40 : decode cX1_beginPicture 40 = .ok (.aaload, 1) := by decide +kernel
theorem dX1_beginPicture_41 : decode cX1_beginPicture 41 = .ok (.iconst 0, 1) := by decide +kernel
theorem dX1_beginPicture_42 : decode cX1_beginPicture 42 = .ok (.aload_n 0, 1) := by decide +kernel
theorem dX1_beginPicture_43 : decode cX1_beginPicture 43 = .ok (.getfield 54, 3) := by decide +kernel
theorem dX1_beginPicture_46 : decode cX1_beginPicture 46 = .ok (.iconst 0, 1) := by decide +kernel
theorem dX1_beginPicture_47 : decode cX1_beginPicture 47 = .ok (.bipush 24, 2) := by decide +kernel
theorem dX1_beginPicture_49 : decode cX1_beginPicture 49 = .ok (.invokestatic 203, 3) := by decide +kernel
theorem dX1_beginPicture_52 : decode cX1_beginPicture 52 = .ok (.aload_n 0, 1) := by decide +kernel
theorem dX1_beginPicture_53 : decode cX1_beginPicture 53 = .ok (.getfield 21, 3) := by decide +kernel
theorem dX1_beginPicture_56 : decode cX1_beginPicture 56 = .ok (.aload_n 0, 1) := by decide +kernel
theorem dX1_beginPicture_57 : decode cX1_beginPicture 57 = .ok (.getfield 54, 3) := by decide +kernel
theorem dX1_beginPicture_60 : decode cX1_beginPicture 60 = .ok (.iconst 0, 1) := by decide +kernel
theorem dX1_beginPicture_61 : decode cX1_beginPicture 61 = .ok (.iaload, 1) := by decide +kernel
theorem dX1_beginPicture_62 : decode cX1_beginPicture 62 = .ok (.aload_n 0, 1) := by decide +kernel
theorem dX1_beginPicture_63 : decode cX1_beginPicture 63 = .ok (.getfield 54, 3) := by decide +kernel
theorem dX1_beginPicture_66 : decode cX1_beginPicture 66 = .ok (.iconst 1, 1) := by decide +kernel
theorem dX1_beginPicture_67 : decode cX1_beginPicture 67 = .ok (.iaload, 1) := by decide +kernel
theorem dX1_beginPicture_68 : decode cX1_beginPicture 68 = .ok (.invokevirtual 269, 3) := by decide +kernel
theorem dX1_beginPicture_71 : decode cX1_beginPicture 71 = .ok (.astore_n 2, 1) := by decide +kernel
theorem dX1_beginPicture_72 : decode cX1_beginPicture 72 = .ok (.iconst 0, 1) := by decide +kernel
theorem dX1_beginPicture_73 : decode cX1_beginPicture 73 = .ok (.istore_n 3, 1) := by decide +kernel
theorem dX1_beginPicture_74 : decode cX1_beginPicture 74 = .ok (.iload_n 3, 1) := by decide +kernel
theorem dX1_beginPicture_75 : decode cX1_beginPicture 75 = .ok (.iconst 4, 1) := by decide +kernel
theorem dX1_beginPicture_76 : decode cX1_beginPicture 76 = .ok (.if_icmp .ge 24, 3) := by decide +kernel
theorem dX1_beginPicture_79 : decode cX1_beginPicture 79 = .ok (.aload_n 2, 1) := by decide +kernel
theorem dX1_beginPicture_80 : decode cX1_beginPicture 80 = .ok (.getfield 273, 3) := by decide +kernel
theorem dX1_beginPicture_83 : decode cX1_beginPicture 83 = .ok (.iload_n 3, 1) := by decide +kernel
theorem dX1_beginPicture_84 : decode cX1_beginPicture 84 = .ok (.aload_n 0, 1) := by decide +kernel
theorem dX1_beginPicture_85 : decode cX1_beginPicture 85 = .ok (.getfield 54, 3) := by decide +kernel
theorem dX1_beginPicture_88 : decode cX1_beginPicture 88 = .ok (.bipush 7, 2) := by decide +kernel
theorem dX1_beginPicture_90 : decode cX1_beginPicture 90 = .ok (.iload_n 3, 1) := by decide +kernel
theorem dX1_beginPicture_91 : decode cX1_beginPicture 91 = .ok (.iadd, 1) := by decide +kernel
theorem dX1_beginPicture_92 : decode cX1_beginPicture 92 = .ok (.iaload, 1) := by decide +kernel
theorem dX1_beginPicture_93 : decode cX1_beginPicture 93 = .ok (.iastore, 1) := by decide +kernel
theorem dX1_beginPicture_94 : decode cX1_beginPicture 94 = .ok (.iinc 3 1, 3) := by decide +kernel
theorem dX1_beginPicture_97 : decode cX1_beginPicture 97 = .ok (.goto (-23), 3) := by decide +kernel
theorem dX1_beginPicture_100 : decode cX1_beginPicture 100 = .ok (.aload_n 2, 1) := by decide +kernel
theorem dX1_beginPicture_101 : decode cX1_beginPicture 101 = .ok (.aload_n 1, 1) := by decide +kernel
theorem dX1_beginPicture_102 : decode cX1_beginPicture 102 = .ok (.iconst 3, 1) := by decide +kernel
theorem dX1_beginPicture_103 : decode cX1_beginPicture 103 = .ok (.iaload, 1) := by decide +kernel
theorem dX1_beginPicture_104 : decode cX1_beginPicture 104 = .ok (.putfield 278, 3) := by decide +kernel
theorem dX1_beginPicture_107 : decode cX1_beginPicture 107 = .ok (.aload_n 2, 1) := by decide +kernel
theorem dX1_beginPicture_108 : decode cX1_beginPicture 108 = .ok (.aload_n 0, 1) := by decide +kernel
theorem dX1_beginPicture_109 : decode cX1_beginPicture 109 = .ok (.getfield 21, 3) := by decide +kernel
theorem dX1_beginPicture_112 : decode cX1_beginPicture 112 = .ok (.aload_n 0, 1) := by decide +kernel
theorem dX1_beginPicture_113 : decode cX1_beginPicture 113 = .ok (.getfield 68, 3) := by decide +kernel
theorem dX1_beginPicture_116 : decode cX1_beginPicture 116 = .ok (.aload_n 0, 1) := by decide +kernel
theorem dX1_beginPicture_117 : decode cX1_beginPicture 117 = .ok (.getfield 54, 3) := by decide +kernel
theorem dX1_beginPicture_120 : decode cX1_beginPicture 120 = .ok (.invokevirtual 281, 3) := by decide +kernel
theorem dX1_beginPicture_123 : decode cX1_beginPicture 123 = .ok (.putfield 285, 3) := by decide +kernel
theorem dX1_beginPicture_126 : decode cX1_beginPicture 126 = .ok (.aload_n 2, 1) := by decide +kernel
theorem dX1_beginPicture_127 : decode cX1_beginPicture 127 = .ok (.aload_n 1, 1) := by decide +kernel
theorem dX1_beginPicture_128 : decode cX1_beginPicture 128 = .ok (.iconst 1, 1) := by decide +kernel
theorem dX1_beginPicture_129 : decode cX1_beginPicture 129 = .ok (.iaload, 1) := by decide +kernel
theorem dX1_beginPicture_130 : decode cX1_beginPicture 130 = .ok (.putfield 288, 3) := by decide +kernel
theorem dX1_beginPicture_133 : decode cX1_beginPicture 133 = .ok (.aload_n 2, 1) := by decide +kernel
theorem dX1_beginPicture_134 : decode cX1_beginPicture 134 = .ok (.aload_n 1, 1) := by decide +kernel
theorem dX1_beginPicture_135 : decode cX1_beginPicture 135 = .ok (.bipush 11, 2) := by decide +kernel
theorem dX1_beginPicture_137 : decode cX1_beginPicture 137 = .ok (.iaload, 1) := by decide +kernel
theorem dX1_beginPicture_138 : decode cX1_beginPicture 138 = .ok (.putfield 291, 3) := by decide +kernel
theorem dX1_beginPicture_141 : decode cX1_beginPicture 141 = .ok (.aload_n 0, 1) := by decide +kernel
theorem dX1_beginPicture_142 : decode cX1_beginPicture 142 = .ok (.getfield 28, 3) := by decide +kernel
theorem dX1_beginPicture_145 : decode cX1_beginPicture 145 = .ok (.aload_n 2, 1) := by decide +kernel
theorem dX1_beginPicture_146 : decode cX1_beginPicture 146 = .ok (.invokevirtual 294, 3) := by decide +kernel
theorem dX1_beginPicture_149 : decode cX1_beginPicture 149 = .ok (.aload_n 0, 1) := by decide +kernel
theorem dX1_beginPicture_150 : decode cX1_beginPicture 150 = .ok (.getfield 75, 3) := by decide +kernel
theorem dX1_beginPicture_153 : decode cX1_beginPicture 153 = .ok (.aload_n 0, 1) := by decide +kernel
theorem dX1_beginPicture_154 : decode cX1_beginPicture 154 = .ok (.getfield 68, 3) := by decide +kernel
theorem dX1_beginPicture_157 : decode cX1_beginPicture 157 = .ok (.invokevirtual 297, 3) := by decide +kernel
theorem dX1_beginPicture_160 : decode cX1_beginPicture 160 = .ok (.aload_n 0, 1) := by decide +kernel
theorem dX1_beginPicture_161 : decode cX1_beginPicture 161 = .ok (.dup, 1) := by decide +kernel
theorem dX1_beginPicture_162 : decode cX1_beginPicture 162 = .ok (.getfield 301, 3) := by decide +kernel
theorem dX1_beginPicture_165 : decode cX1_beginPicture 165 = .ok (.aload_n 2, 1) := by decide +kernel
theorem dX1_beginPicture_166 : decode cX1_beginPicture 166 = .ok (.invokevirtual 304, 3) := by decide +kernel
theorem dX1_beginPicture_169 : decode cX1_beginPicture 169 = .ok (.iadd, 1) := by decide +kernel
theorem dX1_beginPicture_170 : decode cX1_beginPicture 170 = .ok (.putfield 301, 3) := by decide +kernel
theorem dX1_beginPicture_173 : decode cX1_beginPicture 173 = .ok (.aload_n 0, 1) := by decide +kernel
theorem dX1_beginPicture_174 : decode cX1_beginPicture 174 = .ok (.iconst 1, 1) := by decide +kernel
theorem dX1_beginPicture_175 : decode cX1_beginPicture 175 = .ok (.putfield 109, 3) := by decide +kernel
theorem dX1_beginPicture_178 : decode cX1_beginPicture 178 = .ok (.return_, 1) := by decide +kernel
noncomputable def FX1_beginPicture (G : GG) (M : DD) (a : Nat)  : Option (NN × DD) :=
  dr (xt G []) 3 ((M.2 a 10)) fun b2 =>
  bnd (FX3_isOwn (xt G []) M b2) fun y3 =>
  bnd (if y3.2 = ((0 : Int32)) then (some (y3.1)) else
  (dr (xt G []) 13 ((M.2 b2 0)) fun b48 =>
  chk (¬ (((2 : Int32)) < 0 ∨ (xt G []).2.2 b48 ≤ ((2 : Int32)).toNatClampNeg)) <|
  ltt (y3.1.1 b48 ((2 : Int32)).toNatClampNeg) fun x49 =>
  dr (xt G []) 15 ((y3.1.2 a 6)) fun b50 =>
  chk (¬ (x49 < 0 ∨ (xt G []).2.2 b50 ≤ x49.toNatClampNeg)) <|
  dr (xt G []) 13 ((y3.1.2 b50 x49.toNatClampNeg)) fun b51 =>
  chk (¬ (((0 : Int32)) < 0 ∨ (xt G []).2.2 b51 ≤ ((0 : Int32)).toNatClampNeg)) <|
  ltt (y3.1.1 b51 ((0 : Int32)).toNatClampNeg) fun x52 =>
  ltt (uI y3.1 a 8 x52) fun M53 =>
  ltt (M53.1 a 8) fun x54 =>
  dr (xt G []) 15 ((M53.2 a 5)) fun b55 =>
  chk (¬ (x54 < 0 ∨ (xt G []).2.2 b55 ≤ x54.toNatClampNeg)) <|
  dr (xt G []) 13 ((M53.2 b55 x54.toNatClampNeg)) fun b56 =>
  dr (xt G []) 13 ((M53.2 a 7)) fun b57 =>
  chk (¬ ((0 : Int32)) < 0 ∧ ¬ ((0 : Int32)) < 0 ∧ ¬ ((24 : Int32)) < 0 ∧ ((0 : Int32)).toNatClampNeg + ((24 : Int32)).toNatClampNeg ≤ (xt G []).2.2 b56 ∧ ((0 : Int32)).toNatClampNeg + ((24 : Int32)).toNatClampNeg ≤ (xt G []).2.2 b57) <|
  ltt (rI M53 b57 (va_cpy (M53.1 b56) (M53.1 b57) ((0 : Int32)).toNatClampNeg ((0 : Int32)).toNatClampNeg ((24 : Int32)).toNatClampNeg)) fun M58 =>
  some (M58))) fun (y4 : DD) =>
  dr (xt G []) 13 ((y4.2 a 7)) fun b5 =>
  chk (¬ (((0 : Int32)) < 0 ∨ (xt G []).2.2 b5 ≤ ((0 : Int32)).toNatClampNeg)) <|
  ltt (y4.1 b5 ((0 : Int32)).toNatClampNeg) fun x6 =>
  chk (¬ (((1 : Int32)) < 0 ∨ (xt G []).2.2 b5 ≤ ((1 : Int32)).toNatClampNeg)) <|
  ltt (y4.1 b5 ((1 : Int32)).toNatClampNeg) fun x7 =>
  dr (xt G []) 7 ((y4.2 a 1)) fun b8 =>
  chk (okd (xt G []) ((M.2 b2 0)) = true) <|
  bnd (FX7_fresh (xt G []) y4 b8 x6 x7) fun y9 =>
  app y9.1 <|
  ltt ([] ++ y9.1) fun L12 =>
  bnd (itr (fun (s16 : Int32 × DD) => ((if ((4 : Int32)) ≤ s16.1 then (some (.inr (s16.1, s16.2))) else
  (dr (xt G L12) 4 y9.2.2 fun b40 =>
  ltt ((((7 : Int32)) + s16.1)) fun x41 =>
  dr (xt G L12) 13 ((s16.2.2 a 7)) fun b42 =>
  chk (¬ (x41 < 0 ∨ (xt G L12).2.2 b42 ≤ x41.toNatClampNeg)) <|
  ltt (s16.2.1 b42 x41.toNatClampNeg) fun x43 =>
  dr (xt G L12) 13 ((s16.2.2 b40 3)) fun b44 =>
  chk (¬ (s16.1 < 0 ∨ (xt G L12).2.2 b44 ≤ s16.1.toNatClampNeg)) <|
  ltt (uI s16.2 b44 s16.1.toNatClampNeg x43) fun M45 =>
  ltt (s16.1 + (1 : Int32)) fun x46 =>
  some (.inl (x46, M45)))) : Option ((Int32 × DD) ⊕ (Int32 × DD)))) 1000000 ((0 : Int32), y9.2.1)) fun (y15 : Int32 × DD) =>
  dr (xt G L12) 13 ((M.2 b2 0)) fun b18 =>
  chk (¬ (((3 : Int32)) < 0 ∨ (xt G L12).2.2 b18 ≤ ((3 : Int32)).toNatClampNeg)) <|
  ltt (y15.2.1 b18 ((3 : Int32)).toNatClampNeg) fun x19 =>
  dr (xt G L12) 4 y9.2.2 fun b20 =>
  ltt (uI y15.2 b20 8 x19) fun M21 =>
  dr (xt G L12) 7 ((M21.2 a 1)) fun b22 =>
  bnd (FX7_orderOf (xt G L12) M21 b22 ((M21.2 a 10)) ((M21.2 a 7))) fun y23 =>
  ltt (uI y23.1 b20 9 y23.2) fun M24 =>
  chk (¬ (((1 : Int32)) < 0 ∨ (xt G L12).2.2 b18 ≤ ((1 : Int32)).toNatClampNeg)) <|
  ltt (M24.1 b18 ((1 : Int32)).toNatClampNeg) fun x25 =>
  ltt (uI M24 b20 15 x25) fun M26 =>
  chk (¬ (((11 : Int32)) < 0 ∨ (xt G L12).2.2 b18 ≤ ((11 : Int32)).toNatClampNeg)) <|
  ltt (M26.1 b18 ((11 : Int32)).toNatClampNeg) fun x27 =>
  ltt (uI M26 b20 16 x27) fun M28 =>
  dr (xt G L12) 9 ((M28.2 a 2)) fun b29 =>
  bnd (FX9_begin (xt G L12) M28 b29 y9.2.2) fun y30 =>
  dr (xt G L12) 3 ((y30.2 a 12)) fun b31 =>
  bnd (FX3_copyFrom (xt G L12) y30 b31 ((y30.2 a 10))) fun y32 =>
  ltt (y32.1 a 19) fun x33 =>
  bnd (FX4_blocks (xt G L12) y32 b20) fun y34 =>
  ltt ((x33 + y34.2)) fun x35 =>
  ltt (uI y34.1 a 19 x35) fun M36 =>
  chk (((1 : Int32)) = 0 ∨ ((1 : Int32)) = 1) <|
  ltt (uI M36 a 16 ((1 : Int32))) fun M37 =>
  some ([], M37)
set_option maxHeartbeats 4000000 in
set_option maxRecDepth 100000 in
theorem kX1_beginPicture (l : Launch) (D : va_G) (ct : CT) (ad : Nat → Nat) (Z : Nat → Nat) (G : GG) (M : DD) (sz : Nat) (a : Nat)  (y : NN × DD) (hc : a < G.1) (hk : G.2.1 a = 1) (hF : FX1_beginPicture G M a  = some y) : Met l yX1_beginPicture wuX1_beginPicture ({ frames := 5, cells := y.1.length, slots := wt y.1, locals := 112 }) (va_Pc [.ref (ad a)] (kB D ct ad Z G M sz)) (va_Qv (fun (u : Nat → Nat) => agr G.1 ad u) (fun u t => kE D ct u (xt G y.1) (wA ad G sz) y.2 t) (wA ad G sz)) y.1.length (wt y.1) (wA ad G sz) := by
  refine Met.ofW (cc := cX1_beginPicture) (maxL := 4) (ret := none) (by decide) rfl ?_
  intro p e s m args below meth c s₁ B hml hv
  obtain ⟨rfl, hsz, hP, hK, hD0, hZ, hN⟩ := hv
  have hx := B.exec
  have hb := B.bytes
  have hr := B.returns
  have hts := atoms_spec (ws := wuX1_beginPicture) B.pre
  have hown : s.vm.findClass RX1 = some m.cls := findClass_of_methodNamed B.named
  have hlocks := B.notSynchronized
  subst hsz
  have hD := wD_self (sz := s.heap.size) hD0
  have hA9 : ∀ q, s.heap.size ≤ q → wA ad G s.heap.size q := fun q h => Or.inr h
  generalize hAe : wA ad G s.heap.size = A at hD hA9 hZ ⊢
  have hS : va_S A s.heap s.heap [] := va_S.rf
  have hl := lv_entry ([.ref (ad a)]) (n := 4) (Nat.le_of_ble_eq_true rfl)
  rw [lg_entry_eq]
  generalize (lg_sl ([.ref (ad a)]) ++ List.replicate (4 - (lg_sl ([.ref (ad a)])).length) Slot.unset).toArray = ls at hl ⊢
  have hl : lv_has ls 4 [(0, .ref (ad a))] := hl
  unfold FX1_beginPicture at hF
  rw [← wld_0 ct ad G M] at hP hD
  have hk := xt_k0 hc hk
  have hc := xt_l0 hc
  have hag := agr_rf G.1 ad
  obtain ⟨w0, hw0⟩ : ∃ z, z = y := ⟨_, rfl⟩
  rw [← hw0] at hF
  have hT : y.1 = [] ++ w0.1 := by rw [hw0]; rfl
  have h2 : y.2 = w0.2 := by rw [hw0]
  have hbl : y.1.length ≤ y.1.length ∧ wt y.1 ≤ wt y.1 := ⟨Nat.le_refl _, Nat.le_refl _⟩
  refine lv_aload_n hx hb dX1_beginPicture_0 rfl (lv_at hl 0 rfl) ?_
  refine va_get (D := D) (ci := 1) (v := va_re ad (M.2 a 10)) (C := RX1) (T := TX1) (N := 22) hx hb hts (mus hf_X1) hown hK hP a (wld_o ct ad (xt G []) M hc hk (by decide)) rfl 10 (by decide) (hts (.fieldLink RX1 68 "VideoSuite$Decoder" "head" "LVideoSuite$Header;") (mu mw_652)) (fun _ h9 => h9) rfl dX1_beginPicture_1 ?_
  obtain ⟨b2, ho2, hc2, hk2, hF⟩ := dr_some hF
  refine W_st (st' := [.ref (ad b2)]) (by rw [va_some ho2]) ?_
  refine va_get (D := D) (ci := 3) (v := va_re ad (M.2 b2 0)) (C := RX3) (T := TX3) (N := 4) hx hb hts (mus hf_X3) hown hK hP b2 (wld_o ct ad (xt G []) M hc2 hk2 (by decide)) rfl 0 (by decide) (hts (.fieldLink RX1 212 "VideoSuite$Header" "v" "[I") (mu mw_618)) (fun _ h9 => h9) rfl dX1_beginPicture_4 ?_
  refine lv_astoreq_n (lv' := [(1, va_re ad (M.2 b2 0)), (0, .ref (ad a))]) hx hb dX1_beginPicture_7 rfl hl (by decide) rfl (fun ls hl => ?_)
  refine lv_aload_n hx hb dX1_beginPicture_8 rfl (lv_at hl 1 rfl) ?_
  refine va_get (D := D) (ci := 1) (v := va_re ad (M.2 a 10)) (C := RX1) (T := TX1) (N := 22) hx hb hts (mus hf_X1) hown hK hP a (wld_o ct ad (xt G []) M hc hk (by decide)) rfl 10 (by decide) (hts (.fieldLink RX1 68 "VideoSuite$Decoder" "head" "LVideoSuite$Header;") (mu mw_652)) (fun _ h9 => h9) rfl dX1_beginPicture_9 ?_
  refine W_st (st' := [.ref (ad b2)]) (by rw [va_some ho2]) ?_
  obtain ⟨y3, hy3, hF⟩ := bnd_some hF
  have hf9 := wA_in hD hA9 hS
  refine va_calli (va_runV (As := []) (rest := []) ⟨hx, hb, hml, hown, hts⟩ (kX3_isOwn l D ct ad Z (xt G []) M s.heap.size b2 y3 hc2 hk2 hy3) (cwV 0 hts gX1_beginPicture_X3_isOwn rfl rfl rfl (by decide +kernel) ⟨Nat.le_of_ble_eq_true rfl, Nat.le_of_ble_eq_true rfl⟩) ⟨fun a U g mk q => by obtain ⟨q0, q1, qP, qK, qD, qZ, qN⟩ := q; exact ⟨q0, q1, qP, va_K.moved (u := U) (U := U.calling g mk a) (Vm.Alike.refl U.vm) qK, qD, sF.moved (u := U) (U := U.calling g mk a) (Vm.Alike.refl U.vm) qZ, nF.same rfl qN⟩, va_recv hK hP (ci := 3) (q0 := b2) rfl (wld_o ct ad (xt G []) M hc2 hk2 (by decide)), fun U hU hW => ⟨rfl, by rw [hU], by rw [hU]; exact hP, va_K.moved hW.alike hK, hD.weaken (fun _ _ _ _ => trivial), by rw [hU]; exact ((hZ.kept hS.2.1).narrow hf9).moved hW.alike, hN.warm hW⟩⟩ rfl rfl hl.1 rfl (lv_room (Nat.le_of_ble_eq_true rfl)) dX1_beginPicture_12 (room_d hT hbl)) hS (fun q _ h => hf9 q h) hf9 (fun r u t H locs ht hvm hw hB hz1 hk1 hS => ?_)
  obtain ⟨hP, hK9, hD9⟩ := hB
  rw [ht] at hP
  try dsimp only at hw
  subst hw
  refine W_cs (k := ([] : NN).length) (n := wt []) rfl rfl ?_
  have hD := hD9.weaken (fun _ q _ h => hf9 q.1 h)
  obtain ⟨y4, hy4, hF⟩ := bnd_some hF
  have J4 : ∀ (H : Heap) (locs : List Loc) (ls : Array Slot), va_P D classes (wld ct ad (xt G []) y4) H → va_D A (wld ct ad (xt G []) y4) → va_S A s.heap H locs → lv_has ls 4 [(1, va_re ad (M.2 b2 0)), (0, .ref (ad a))] → W p l e (headSpec wuX1_beginPicture ({ frames := 5, cells := y.1.length, slots := wt y.1, locals := 112 })).room s m ([.ref (ad a)] : List Value).toArray below meth c H locs ([] : NN).length (wt []) (MQ below (va_Qv (fun (u : Nat → Nat) => agr G.1 ad u) (fun u t => kE D ct u (xt G y.1) A y.2 t) A) ([.ref (ad a)] : List Value).toArray s y.1.length (wt y.1) A) (F0 m 52 ls []) := by
    intro H locs ls hP hD hS hl
    refine lv_aload_n hx hb dX1_beginPicture_52 rfl (lv_at hl 1 rfl) ?_
    refine va_get (D := D) (ci := 1) (v := va_re ad (y4.2 a 1)) (C := RX1) (T := TX1) (N := 22) hx hb hts (mus hf_X1) hown hK hP a (wld_o ct ad (xt G []) y4 hc hk (by decide)) rfl 1 (by decide) (hts (.fieldLink RX1 21 "VideoSuite$Decoder" "store" "LVideoSuite$Store;") (mu mw_642)) (fun _ h9 => h9) rfl dX1_beginPicture_53 ?_
    refine lv_aload_n hx hb dX1_beginPicture_56 rfl (lv_at hl 1 rfl) ?_
    refine va_get (D := D) (ci := 1) (v := va_re ad (y4.2 a 7)) (C := RX1) (T := TX1) (N := 22) hx hb hts (mus hf_X1) hown hK hP a (wld_o ct ad (xt G []) y4 hc hk (by decide)) rfl 7 (by decide) (hts (.fieldLink RX1 54 "VideoSuite$Decoder" "active" "[I") (mu mw_649)) (fun _ h9 => h9) rfl dX1_beginPicture_57 ?_
    refine lv_iconst (v := (0 : Int32)) hx hb dX1_beginPicture_60 (by decide) ?_
    obtain ⟨b5, ho5, hc5, hk5, hF⟩ := dr_some hF
    refine W_st (st' := [.int (0 : Int32), .ref (ad b5), va_re ad (y4.2 a 1)]) (by rw [va_some ho5]) ?_
    obtain ⟨hvc, hF⟩ := chk_some hF
    refine va_iald hx hb hK hP b5 1 (wld_i ct ad (xt G []) y4 hc5 hk5) rfl hvc dX1_beginPicture_61 ?_
    obtain ⟨x6, ex6, hF⟩ := ltt_some hF
    refine lv_topi (fun zx6 ezx6 => ?_)
    obtain rfl : x6 = zx6 := ex6.trans ezx6.symm
    refine lv_aload_n hx hb dX1_beginPicture_62 rfl (lv_at hl 1 rfl) ?_
    refine va_get (D := D) (ci := 1) (v := va_re ad (y4.2 a 7)) (C := RX1) (T := TX1) (N := 22) hx hb hts (mus hf_X1) hown hK hP a (wld_o ct ad (xt G []) y4 hc hk (by decide)) rfl 7 (by decide) (hts (.fieldLink RX1 54 "VideoSuite$Decoder" "active" "[I") (mu mw_649)) (fun _ h9 => h9) rfl dX1_beginPicture_63 ?_
    refine lv_iconst (v := (1 : Int32)) hx hb dX1_beginPicture_66 (by decide) ?_
    refine W_st (st' := [.int (1 : Int32), .ref (ad b5), .int x6, va_re ad (y4.2 a 1)]) (by rw [va_some ho5]) ?_
    obtain ⟨hvc, hF⟩ := chk_some hF
    refine va_iald hx hb hK hP b5 1 (wld_i ct ad (xt G []) y4 hc5 hk5) rfl hvc dX1_beginPicture_67 ?_
    obtain ⟨x7, ex7, hF⟩ := ltt_some hF
    refine lv_topi (fun zx7 ezx7 => ?_)
    obtain rfl : x7 = zx7 := ex7.trans ezx7.symm
    obtain ⟨b8, ho8, hc8, hk8, hF⟩ := dr_some hF
    refine W_st (st' := [.int x7, .int x6, .ref (ad b8)]) (by rw [va_some ho8]) ?_
    obtain ⟨hq10, hF⟩ := chk_some hF
    obtain ⟨y9, hy9, hF⟩ := bnd_some hF
    obtain ⟨w11, hF, ew11⟩ := app_some hF
    obtain ⟨L12, eL12, hF⟩ := ltt_some hF
    have hT12 : y.1 = ([] ++ y9.1) ++ w11.1 := by rw [hT, ew11]; simp only [List.append_assoc]
    have hf9 := wA_in hD hA9 hS
    refine va_callr (va_runV (As := [.int x6, .int x7]) (rest := []) ⟨hx, hb, hml, hown, hts⟩ (kX7_fresh l D ct ad Z (xt G []) y4 _ b8 x6 x7 y9 hc8 hk8 hy9) (cwV 2 hts gX1_beginPicture_X7_fresh rfl rfl rfl (by decide +kernel) ⟨Nat.le_of_ble_eq_true rfl, Nat.le_of_ble_eq_true rfl⟩) ⟨fun a U g mk q => by obtain ⟨q0, q1, qP, qK, qD, qZ, qN⟩ := q; exact ⟨q0, q1, qP, va_K.moved (u := U) (U := U.calling g mk a) (Vm.Alike.refl U.vm) qK, qD, sF.moved (u := U) (U := U.calling g mk a) (Vm.Alike.refl U.vm) qZ, nF.same rfl qN⟩, va_recv hK hP (ci := 7) (q0 := b8) rfl (wld_o ct ad (xt G []) y4 hc8 hk8 (by decide)), fun U hU hW => ⟨rfl, by rw [hU], by rw [hU]; exact hP, va_K.moved hW.alike hK, hD.weaken (fun _ _ _ _ => trivial), by rw [hU]; exact ((hZ.kept hS.2.1).narrow hf9).moved hW.alike, hN.warm hW⟩⟩ rfl rfl hl.1 rfl (lv_room (Nat.le_of_ble_eq_true rfl)) dX1_beginPicture_68 (room_s hT12 hbl)) hS (fun q _ h => hf9 q h) hf9 (fun ad13 ra t H locs ht hvm hw hB hz1 hk1 hS => ?_)
    obtain ⟨⟨rb, hrb, rfl⟩, hB⟩ := hB
    have hn14 := hw
    obtain ⟨hP, hK9, hD9⟩ := hB
    rw [ht] at hP
    have hD := hD9.weaken (fun _ q _ h => hf9 q.1 h)
    rw [xt_xt, ← eL12] at hP hD
    refine W_cs (k := L12.length) (n := wt L12) (by rw [eL12]; exact (len_s [] y9.1).symm) (by rw [eL12]; exact (wt_app [] y9.1).symm) ?_
    refine W_st (st' := [va_re ad13 y9.2.2]) (by rw [hrb]; rfl) ?_
    have hT : y.1 = L12 ++ w11.1 := by rw [hT12, eL12]
    have h2 : y.2 = w11.2 := by rw [h2, ew11]
    have hl := lv_sub (l' := [(1, va_re ad (M.2 b2 0)), (0, .ref (ad a))]) hl [0, 1] rfl
    have e9 : ([(1, va_re ad (M.2 b2 0)), (0, .ref (ad a))] : List (Nat × Value)) = [(1, va_re ad13 (M.2 b2 0)), (0, .ref (ad13 a))] := (by first | rfl | simp only [agr_re hn14 hq10, hn14 a hc])
    rw [e9] at hl
    clear e9
    have hk : (xt G L12).2.1 a = 1 := by rw [eL12]; exact xt_k _ hc hk
    have hc : a < (xt G L12).1 := by rw [eL12]; exact xt_l _ hc
    have hk2 : (xt G L12).2.1 b2 = 3 := by rw [eL12]; exact xt_k _ hc2 hk2
    have hc2 : b2 < (xt G L12).1 := by rw [eL12]; exact xt_l _ hc2
    have hk5 : (xt G L12).2.1 b5 = 13 := by rw [eL12]; exact xt_k _ hc5 hk5
    have hc5 : b5 < (xt G L12).1 := by rw [eL12]; exact xt_l _ hc5
    have hk8 : (xt G L12).2.1 b8 = 7 := by rw [eL12]; exact xt_k _ hc8 hk8
    have hc8 : b8 < (xt G L12).1 := by rw [eL12]; exact xt_l _ hc8
    have hag := agr_t (xt_ge _ _) hag hn14
    refine lv_astoreq_n (lv' := [(2, va_re ad13 y9.2.2), (1, va_re ad13 (M.2 b2 0)), (0, .ref (ad13 a))]) hx hb dX1_beginPicture_71 rfl hl (by decide) (by generalize ((M.2 b2 0)) = o9; cases o9 <;> rfl) (fun ls hl => ?_)
    refine lv_iconst (v := (0 : Int32)) hx hb dX1_beginPicture_72 (by decide) ?_
    refine lv_istore_n (lv' := [(3, .int (0 : Int32)), (2, va_re ad13 y9.2.2), (1, va_re ad13 (M.2 b2 0)), (0, .ref (ad13 a))]) hx hb dX1_beginPicture_73 rfl hl (by decide) (by generalize y9.2.2 = o9; cases o9 <;> rfl) (fun ls hl => ?_)
    obtain ⟨y15, hy15, hF⟩ := bnd_some hF
    have K15 : ∀ (H : Heap) (locs : List Loc) (ls : Array Slot), va_P D classes (wld ct ad13 (xt G L12) y15.2) H → va_D A (wld ct ad13 (xt G L12) y15.2) → va_S A s.heap H locs → lv_has ls 4 [(3, .int y15.1), (2, va_re ad13 y9.2.2), (1, va_re ad13 (M.2 b2 0)), (0, .ref (ad13 a))] → W p l e (headSpec wuX1_beginPicture ({ frames := 5, cells := y.1.length, slots := wt y.1, locals := 112 })).room s m ([.ref (ad a)] : List Value).toArray below meth c H locs (L12 : NN).length (wt L12) (MQ below (va_Qv (fun (u : Nat → Nat) => agr G.1 ad u) (fun u t => kE D ct u (xt G y.1) A y.2 t) A) ([.ref (ad a)] : List Value).toArray s y.1.length (wt y.1) A) (F0 m 100 ls []) := by
      intro H locs ls hP hD hS hl
      refine lv_aloadq_n hx hb dX1_beginPicture_100 rfl (lv_at hl 1 rfl) ?_
      refine lv_aloadq_n hx hb dX1_beginPicture_101 rfl (lv_at hl 2 rfl) ?_
      refine lv_iconst (v := (3 : Int32)) hx hb dX1_beginPicture_102 (by decide) ?_
      obtain ⟨b18, ho18, hc18, hk18, hF⟩ := dr_some hF
      refine W_st (st' := [.int (3 : Int32), .ref (ad13 b18), va_re ad13 y9.2.2]) (by rw [va_some ho18]) ?_
      obtain ⟨hvc, hF⟩ := chk_some hF
      refine va_iald hx hb hK hP b18 1 (wld_i ct ad13 (xt G L12) y15.2 hc18 hk18) rfl hvc dX1_beginPicture_103 ?_
      obtain ⟨x19, ex19, hF⟩ := ltt_some hF
      refine lv_topi (fun zx19 ezx19 => ?_)
      obtain rfl : x19 = zx19 := ex19.trans ezx19.symm
      obtain ⟨b20, ho20, hc20, hk20, hF⟩ := dr_some hF
      refine W_st (st' := [.int x19, .ref (ad13 b20)]) (by rw [va_some ho20]) ?_
      refine va_put (D := D) (ci := 4) (v := .int x19) (ty := .int) (C := RX4) (T := TX4) (N := 18) hx hb hts (mus hf_X4) tyX4 tyX4_ok nmX4 hown hK hP hD hS b20 (wld_o ct ad13 (xt G L12) y15.2 hc20 hk20 (by decide)) rfl 8 (by decide) (hts (.fieldLink RX1 278 "VideoSuite$Picture" "frame" "I") (mu mw_1451)) (fun _ h9 => h9) rfl (by decide +kernel) rfl rfl (Nat.le_of_ble_eq_true rfl) dX1_beginPicture_104 (fun H locs hP hD hS => ?_)
      obtain ⟨M21, eM21, hF⟩ := ltt_some hF
      rw [set_oI ct ad13 (xt G L12) y15.2 hc20 hk20 (by decide) (by rfl), ← eM21] at hP hD
      refine lv_aloadq_n hx hb dX1_beginPicture_107 rfl (lv_at hl 1 rfl) ?_
      refine lv_aload_n hx hb dX1_beginPicture_108 rfl (lv_at hl 3 rfl) ?_
      refine va_get (D := D) (ci := 1) (v := va_re ad13 (M21.2 a 1)) (C := RX1) (T := TX1) (N := 22) hx hb hts (mus hf_X1) hown hK hP a (wld_o ct ad13 (xt G L12) M21 hc hk (by decide)) rfl 1 (by decide) (hts (.fieldLink RX1 21 "VideoSuite$Decoder" "store" "LVideoSuite$Store;") (mu mw_642)) (fun _ h9 => h9) rfl dX1_beginPicture_109 ?_
      refine lv_aload_n hx hb dX1_beginPicture_112 rfl (lv_at hl 3 rfl) ?_
      refine va_get (D := D) (ci := 1) (v := va_re ad13 (M21.2 a 10)) (C := RX1) (T := TX1) (N := 22) hx hb hts (mus hf_X1) hown hK hP a (wld_o ct ad13 (xt G L12) M21 hc hk (by decide)) rfl 10 (by decide) (hts (.fieldLink RX1 68 "VideoSuite$Decoder" "head" "LVideoSuite$Header;") (mu mw_652)) (fun _ h9 => h9) rfl dX1_beginPicture_113 ?_
      refine lv_aload_n hx hb dX1_beginPicture_116 rfl (lv_at hl 3 rfl) ?_
      refine va_get (D := D) (ci := 1) (v := va_re ad13 (M21.2 a 7)) (C := RX1) (T := TX1) (N := 22) hx hb hts (mus hf_X1) hown hK hP a (wld_o ct ad13 (xt G L12) M21 hc hk (by decide)) rfl 7 (by decide) (hts (.fieldLink RX1 54 "VideoSuite$Decoder" "active" "[I") (mu mw_649)) (fun _ h9 => h9) rfl dX1_beginPicture_117 ?_
      obtain ⟨b22, ho22, hc22, hk22, hF⟩ := dr_some hF
      refine W_st (st' := [va_re ad13 (M21.2 a 7), va_re ad13 (M21.2 a 10), .ref (ad13 b22), va_re ad13 y9.2.2]) (by rw [va_some ho22]) ?_
      obtain ⟨y23, hy23, hF⟩ := bnd_some hF
      have hf9 := wA_in hD hA9 hS
      refine va_calli (va_runV (As := [va_re ad13 (M21.2 a 10), va_re ad13 (M21.2 a 7)]) (rest := [va_re ad13 y9.2.2]) ⟨hx, hb, hml, hown, hts⟩ (kX7_orderOf l D ct ad13 Z (xt G L12) M21 H.size b22 ((M21.2 a 10)) ((M21.2 a 7)) y23 hc22 hk22 hy23) (cwV 2 hts gX1_beginPicture_X7_orderOf rfl rfl rfl (by decide +kernel) ⟨Nat.le_of_ble_eq_true rfl, Nat.le_of_ble_eq_true rfl⟩) ⟨fun a U g mk q => by obtain ⟨q0, q1, qP, qK, qD, qZ, qN⟩ := q; exact ⟨q0, q1, qP, va_K.moved (u := U) (U := U.calling g mk a) (Vm.Alike.refl U.vm) qK, qD, sF.moved (u := U) (U := U.calling g mk a) (Vm.Alike.refl U.vm) qZ, nF.same rfl qN⟩, va_recv hK hP (ci := 7) (q0 := b22) rfl (wld_o ct ad13 (xt G L12) M21 hc22 hk22 (by decide)), fun U hU hW => ⟨rfl, by rw [hU], by rw [hU]; exact hP, va_K.moved hW.alike hK, hD.weaken (fun _ _ _ _ => trivial), by rw [hU]; exact ((hZ.kept hS.2.1).narrow hf9).moved hW.alike, hN.warm hW⟩⟩ rfl rfl hl.1 rfl (lv_room (by simp only [List.map, va_re_cat]; exact Nat.le_of_ble_eq_true rfl)) dX1_beginPicture_120 (room_d hT hbl)) hS (fun q _ h => hf9 q h) hf9 (fun r u t H locs ht hvm hw hB hz1 hk1 hS => ?_)
      obtain ⟨hP, hK9, hD9⟩ := hB
      rw [ht] at hP
      try dsimp only at hw
      subst hw
      refine W_cs (k := (L12 : NN).length) (n := wt L12) rfl rfl ?_
      have hD := hD9.weaken (fun _ q _ h => hf9 q.1 h)
      refine W_st (st' := [.int y23.2, .ref (ad13 b20)]) (by rw [va_some ho20]) ?_
      refine va_put (D := D) (ci := 4) (v := .int y23.2) (ty := .int) (C := RX4) (T := TX4) (N := 18) hx hb hts (mus hf_X4) tyX4 tyX4_ok nmX4 hown hK hP hD hS b20 (wld_o ct ad13 (xt G L12) y23.1 hc20 hk20 (by decide)) rfl 9 (by decide) (hts (.fieldLink RX1 285 "VideoSuite$Picture" "order" "I") (mu mw_1457)) (fun _ h9 => h9) rfl (by decide +kernel) rfl rfl (Nat.le_of_ble_eq_true rfl) dX1_beginPicture_123 (fun H locs hP hD hS => ?_)
      obtain ⟨M24, eM24, hF⟩ := ltt_some hF
      rw [set_oI ct ad13 (xt G L12) y23.1 hc20 hk20 (by decide) (by rfl), ← eM24] at hP hD
      refine lv_aloadq_n hx hb dX1_beginPicture_126 rfl (lv_at hl 1 rfl) ?_
      refine lv_aloadq_n hx hb dX1_beginPicture_127 rfl (lv_at hl 2 rfl) ?_
      refine lv_iconst (v := (1 : Int32)) hx hb dX1_beginPicture_128 (by decide) ?_
      refine W_st (st' := [.int (1 : Int32), .ref (ad13 b18), va_re ad13 y9.2.2]) (by rw [va_some ho18]) ?_
      obtain ⟨hvc, hF⟩ := chk_some hF
      refine va_iald hx hb hK hP b18 1 (wld_i ct ad13 (xt G L12) M24 hc18 hk18) rfl hvc dX1_beginPicture_129 ?_
      obtain ⟨x25, ex25, hF⟩ := ltt_some hF
      refine lv_topi (fun zx25 ezx25 => ?_)
      obtain rfl : x25 = zx25 := ex25.trans ezx25.symm
      refine W_st (st' := [.int x25, .ref (ad13 b20)]) (by rw [va_some ho20]) ?_
      refine va_put (D := D) (ci := 4) (v := .int x25) (ty := .int) (C := RX4) (T := TX4) (N := 18) hx hb hts (mus hf_X4) tyX4 tyX4_ok nmX4 hown hK hP hD hS b20 (wld_o ct ad13 (xt G L12) M24 hc20 hk20 (by decide)) rfl 15 (by decide) (hts (.fieldLink RX1 288 "VideoSuite$Picture" "sort" "I") (mu mw_1474)) (fun _ h9 => h9) rfl (by decide +kernel) rfl rfl (Nat.le_of_ble_eq_true rfl) dX1_beginPicture_130 (fun H locs hP hD hS => ?_)
      obtain ⟨M26, eM26, hF⟩ := ltt_some hF
      rw [set_oI ct ad13 (xt G L12) M24 hc20 hk20 (by decide) (by rfl), ← eM26] at hP hD
      refine lv_aloadq_n hx hb dX1_beginPicture_133 rfl (lv_at hl 1 rfl) ?_
      refine lv_aloadq_n hx hb dX1_beginPicture_134 rfl (lv_at hl 2 rfl) ?_
      refine lv_bipush (v := (11 : Int32)) hx hb dX1_beginPicture_135 (by decide) ?_
      refine W_st (st' := [.int (11 : Int32), .ref (ad13 b18), va_re ad13 y9.2.2]) (by rw [va_some ho18]) ?_
      obtain ⟨hvc, hF⟩ := chk_some hF
      refine va_iald hx hb hK hP b18 1 (wld_i ct ad13 (xt G L12) M26 hc18 hk18) rfl hvc dX1_beginPicture_137 ?_
      obtain ⟨x27, ex27, hF⟩ := ltt_some hF
      refine lv_topi (fun zx27 ezx27 => ?_)
      obtain rfl : x27 = zx27 := ex27.trans ezx27.symm
      refine W_st (st' := [.int x27, .ref (ad13 b20)]) (by rw [va_some ho20]) ?_
      refine va_put (D := D) (ci := 4) (v := .int x27) (ty := .int) (C := RX4) (T := TX4) (N := 18) hx hb hts (mus hf_X4) tyX4 tyX4_ok nmX4 hown hK hP hD hS b20 (wld_o ct ad13 (xt G L12) M26 hc20 hk20 (by decide)) rfl 16 (by decide) (hts (.fieldLink RX1 291 "VideoSuite$Picture" "ref" "I") (mu mw_1477)) (fun _ h9 => h9) rfl (by decide +kernel) rfl rfl (Nat.le_of_ble_eq_true rfl) dX1_beginPicture_138 (fun H locs hP hD hS => ?_)
      obtain ⟨M28, eM28, hF⟩ := ltt_some hF
      rw [set_oI ct ad13 (xt G L12) M26 hc20 hk20 (by decide) (by rfl), ← eM28] at hP hD
      refine lv_aload_n hx hb dX1_beginPicture_141 rfl (lv_at hl 3 rfl) ?_
      refine va_get (D := D) (ci := 1) (v := va_re ad13 (M28.2 a 2)) (C := RX1) (T := TX1) (N := 22) hx hb hts (mus hf_X1) hown hK hP a (wld_o ct ad13 (xt G L12) M28 hc hk (by decide)) rfl 2 (by decide) (hts (.fieldLink RX1 28 "VideoSuite$Decoder" "work" "LVideoSuite$Work;") (mu mw_644)) (fun _ h9 => h9) rfl dX1_beginPicture_142 ?_
      refine lv_aloadq_n hx hb dX1_beginPicture_145 rfl (lv_at hl 1 rfl) ?_
      obtain ⟨b29, ho29, hc29, hk29, hF⟩ := dr_some hF
      refine W_st (st' := [va_re ad13 y9.2.2, .ref (ad13 b29)]) (by rw [va_some ho29]) ?_
      obtain ⟨y30, hy30, hF⟩ := bnd_some hF
      have hf9 := wA_in hD hA9 hS
      refine va_callv (va_runV (As := [va_re ad13 y9.2.2]) (rest := []) ⟨hx, hb, hml, hown, hts⟩ (kX9_begin l D ct ad13 Z (xt G L12) M28 H.size b29 y9.2.2 y30 hc29 hk29 hy30) (cwV 1 hts gX1_beginPicture_X9_begin rfl rfl rfl (by decide +kernel) ⟨Nat.le_of_ble_eq_true rfl, Nat.le_of_ble_eq_true rfl⟩) ⟨fun a U g mk q => by obtain ⟨q0, q1, qP, qK, qD, qZ, qN⟩ := q; exact ⟨q0, q1, qP, va_K.moved (u := U) (U := U.calling g mk a) (Vm.Alike.refl U.vm) qK, qD, sF.moved (u := U) (U := U.calling g mk a) (Vm.Alike.refl U.vm) qZ, nF.same rfl qN⟩, va_recv hK hP (ci := 9) (q0 := b29) rfl (wld_o ct ad13 (xt G L12) M28 hc29 hk29 (by decide)), fun U hU hW => ⟨rfl, by rw [hU], by rw [hU]; exact hP, va_K.moved hW.alike hK, hD.weaken (fun _ _ _ _ => trivial), by rw [hU]; exact ((hZ.kept hS.2.1).narrow hf9).moved hW.alike, hN.warm hW⟩⟩ rfl rfl hl.1 rfl (lv_room (Nat.le_of_ble_eq_true rfl)) dX1_beginPicture_146 (room_d hT hbl)) hS (fun q _ h => hf9 q h) hf9 (fun u t H locs ht hvm hw hB hz1 hk1 hS => ?_)
      obtain ⟨hP, hK9, hD9⟩ := hB
      rw [ht] at hP
      refine W_cs (k := (L12 : NN).length) (n := wt L12) rfl rfl ?_
      have hD := hD9.weaken (fun _ q _ h => hf9 q.1 h)
      refine lv_aload_n hx hb dX1_beginPicture_149 rfl (lv_at hl 3 rfl) ?_
      refine va_get (D := D) (ci := 1) (v := va_re ad13 (y30.2 a 12)) (C := RX1) (T := TX1) (N := 22) hx hb hts (mus hf_X1) hown hK hP a (wld_o ct ad13 (xt G L12) y30 hc hk (by decide)) rfl 12 (by decide) (hts (.fieldLink RX1 75 "VideoSuite$Decoder" "first" "LVideoSuite$Header;") (mu mw_654)) (fun _ h9 => h9) rfl dX1_beginPicture_150 ?_
      refine lv_aload_n hx hb dX1_beginPicture_153 rfl (lv_at hl 3 rfl) ?_
      refine va_get (D := D) (ci := 1) (v := va_re ad13 (y30.2 a 10)) (C := RX1) (T := TX1) (N := 22) hx hb hts (mus hf_X1) hown hK hP a (wld_o ct ad13 (xt G L12) y30 hc hk (by decide)) rfl 10 (by decide) (hts (.fieldLink RX1 68 "VideoSuite$Decoder" "head" "LVideoSuite$Header;") (mu mw_652)) (fun _ h9 => h9) rfl dX1_beginPicture_154 ?_
      obtain ⟨b31, ho31, hc31, hk31, hF⟩ := dr_some hF
      refine W_st (st' := [va_re ad13 (y30.2 a 10), .ref (ad13 b31)]) (by rw [va_some ho31]) ?_
      obtain ⟨y32, hy32, hF⟩ := bnd_some hF
      have hf9 := wA_in hD hA9 hS
      refine va_callv (va_runV (As := [va_re ad13 (y30.2 a 10)]) (rest := []) ⟨hx, hb, hml, hown, hts⟩ (kX3_copyFrom l D ct ad13 Z (xt G L12) y30 H.size b31 ((y30.2 a 10)) y32 hc31 hk31 hy32) (cwV 1 hts gX1_beginPicture_X3_copyFrom rfl rfl rfl (by decide +kernel) ⟨Nat.le_of_ble_eq_true rfl, Nat.le_of_ble_eq_true rfl⟩) ⟨fun a U g mk q => by obtain ⟨q0, q1, qP, qK, qD, qZ, qN⟩ := q; exact ⟨q0, q1, qP, va_K.moved (u := U) (U := U.calling g mk a) (Vm.Alike.refl U.vm) qK, qD, sF.moved (u := U) (U := U.calling g mk a) (Vm.Alike.refl U.vm) qZ, nF.same rfl qN⟩, va_recv hK hP (ci := 3) (q0 := b31) rfl (wld_o ct ad13 (xt G L12) y30 hc31 hk31 (by decide)), fun U hU hW => ⟨rfl, by rw [hU], by rw [hU]; exact hP, va_K.moved hW.alike hK, hD.weaken (fun _ _ _ _ => trivial), by rw [hU]; exact ((hZ.kept hS.2.1).narrow hf9).moved hW.alike, hN.warm hW⟩⟩ rfl rfl hl.1 rfl (lv_room (Nat.le_of_ble_eq_true rfl)) dX1_beginPicture_157 (room_d hT hbl)) hS (fun q _ h => hf9 q h) hf9 (fun u t H locs ht hvm hw hB hz1 hk1 hS => ?_)
      obtain ⟨hP, hK9, hD9⟩ := hB
      rw [ht] at hP
      refine W_cs (k := (L12 : NN).length) (n := wt L12) rfl rfl ?_
      have hD := hD9.weaken (fun _ q _ h => hf9 q.1 h)
      refine lv_aload_n hx hb dX1_beginPicture_160 rfl (lv_at hl 3 rfl) ?_
      refine lv_dup hx hb dX1_beginPicture_161 rfl ?_
      refine va_get (D := D) (ci := 1) (v := .int (y32.1 a 19)) (C := RX1) (T := TX1) (N := 22) hx hb hts (mus hf_X1) hown hK hP a (wld_o ct ad13 (xt G L12) y32 hc hk (by decide)) rfl 19 (by decide) (hts (.fieldLink RX1 301 "VideoSuite$Decoder" "effort" "I") (mu mw_666)) (fun _ h9 => h9) rfl dX1_beginPicture_162 ?_
      obtain ⟨x33, ex33, hF⟩ := ltt_some hF
      refine lv_topi (fun zx33 ezx33 => ?_)
      obtain rfl : x33 = zx33 := ex33.trans ezx33.symm
      refine lv_aloadq_n hx hb dX1_beginPicture_165 rfl (lv_at hl 1 rfl) ?_
      refine W_st (st' := [.ref (ad13 b20), .int x33, .ref (ad13 a)]) (by rw [va_some ho20]) ?_
      obtain ⟨y34, hy34, hF⟩ := bnd_some hF
      have hf9 := wA_in hD hA9 hS
      refine va_calli (va_runV (As := []) (rest := [.int x33, .ref (ad13 a)]) ⟨hx, hb, hml, hown, hts⟩ (kX4_blocks l D ct ad13 Z (xt G L12) y32 H.size b20 y34 hc20 hk20 hy34) (cwV 0 hts gX1_beginPicture_X4_blocks rfl rfl rfl (by decide +kernel) ⟨Nat.le_of_ble_eq_true rfl, Nat.le_of_ble_eq_true rfl⟩) ⟨fun a U g mk q => by obtain ⟨q0, q1, qP, qK, qD, qZ, qN⟩ := q; exact ⟨q0, q1, qP, va_K.moved (u := U) (U := U.calling g mk a) (Vm.Alike.refl U.vm) qK, qD, sF.moved (u := U) (U := U.calling g mk a) (Vm.Alike.refl U.vm) qZ, nF.same rfl qN⟩, va_recv hK hP (ci := 4) (q0 := b20) rfl (wld_o ct ad13 (xt G L12) y32 hc20 hk20 (by decide)), fun U hU hW => ⟨rfl, by rw [hU], by rw [hU]; exact hP, va_K.moved hW.alike hK, hD.weaken (fun _ _ _ _ => trivial), by rw [hU]; exact ((hZ.kept hS.2.1).narrow hf9).moved hW.alike, hN.warm hW⟩⟩ rfl rfl hl.1 rfl (lv_room (Nat.le_of_ble_eq_true rfl)) dX1_beginPicture_166 (room_d hT hbl)) hS (fun q _ h => hf9 q h) hf9 (fun r u t H locs ht hvm hw hB hz1 hk1 hS => ?_)
      obtain ⟨hP, hK9, hD9⟩ := hB
      rw [ht] at hP
      try dsimp only at hw
      subst hw
      refine W_cs (k := (L12 : NN).length) (n := wt L12) rfl rfl ?_
      have hD := hD9.weaken (fun _ q _ h => hf9 q.1 h)
      refine lv_iadd hx hb dX1_beginPicture_169 ?_
      obtain ⟨x35, ex35, hF⟩ := ltt_some hF
      refine lv_topi (fun zx35 ezx35 => ?_)
      obtain rfl : x35 = zx35 := ex35.trans ezx35.symm
      refine va_put (D := D) (ci := 1) (v := .int x35) (ty := .int) (C := RX1) (T := TX1) (N := 22) hx hb hts (mus hf_X1) tyX1 tyX1_ok nmX1 hown hK hP hD hS a (wld_o ct ad13 (xt G L12) y34.1 hc hk (by decide)) rfl 19 (by decide) (hts (.fieldLink RX1 301 "VideoSuite$Decoder" "effort" "I") (mu mw_666)) (fun _ h9 => h9) rfl (by decide +kernel) rfl rfl (Nat.le_of_ble_eq_true rfl) dX1_beginPicture_170 (fun H locs hP hD hS => ?_)
      obtain ⟨M36, eM36, hF⟩ := ltt_some hF
      rw [set_oI ct ad13 (xt G L12) y34.1 hc hk (by decide) (by rfl), ← eM36] at hP hD
      refine lv_aload_n hx hb dX1_beginPicture_173 rfl (lv_at hl 3 rfl) ?_
      refine lv_iconst (v := (1 : Int32)) hx hb dX1_beginPicture_174 (by decide) ?_
      obtain ⟨hz9, hF⟩ := chk_some hF
      refine va_put (D := D) (ci := 1) (v := .int (1 : Int32)) (ty := .boolean) (C := RX1) (T := TX1) (N := 22) hx hb hts (mus hf_X1) tyX1 tyX1_ok nmX1 hown hK hP hD hS a (wld_o ct ad13 (xt G L12) M36 hc hk (by decide)) rfl 16 (by decide) (hts (.fieldLink RX1 109 "VideoSuite$Decoder" "underWay" "Z") (mu mw_660)) (fun _ h9 => h9) rfl (by decide +kernel) (nar_z hz9).1 (nar_z hz9).2 (Nat.le_of_ble_eq_true rfl) dX1_beginPicture_175 (fun H locs hP hD hS => ?_)
      obtain ⟨M37, eM37, hF⟩ := ltt_some hF
      rw [set_oI ct ad13 (xt G L12) M36 hc hk (by decide) (by rfl), ← eM37] at hP hD
      obtain rfl := Option.some.inj hF
      have e1 : y.1 = L12 := by rw [hT]; exact List.append_nil _
      have e2 : y.2 = M37 := h2
      refine W.widen (k := y.1.length) (n := wt y.1) (Nat.le_of_eq (by rw [e1])) (Nat.le_of_eq (by rw [e1])) ?_
      exact W.vret hx hb hr (fun t ht hW => ⟨⟨ad13, rfl, hag, (by unfold kE; rw [e1, e2]; exact ⟨by rw [ht]; exact hP, va_K.moved hW.alike hK, hD⟩)⟩, hS.F ht⟩) hS.2.2 dX1_beginPicture_178
    clear hF
    refine itr_rule (fun (s16 : Int32 × DD) => ∀ (H : Heap) (locs : List Loc) (ls : Array Slot), va_P D classes (wld ct ad13 (xt G L12) s16.2) H → va_D A (wld ct ad13 (xt G L12) s16.2) → va_S A s.heap H locs → lv_has ls 4 [(3, .int s16.1), (2, va_re ad13 y9.2.2), (1, va_re ad13 (M.2 b2 0)), (0, .ref (ad13 a))] → W p l e (headSpec wuX1_beginPicture ({ frames := 5, cells := y.1.length, slots := wt y.1, locals := 112 })).room s m ([.ref (ad a)] : List Value).toArray below meth c H locs (L12 : NN).length (wt L12) (MQ below (va_Qv (fun (u : Nat → Nat) => agr G.1 ad u) (fun u t => kE D ct u (xt G y.1) A y.2 t) A) ([.ref (ad a)] : List Value).toArray s y.1.length (wt y.1) A) (F0 m 74 ls [])) ?_ _ _ hy15 _ _ _ hP hD hS (lv_sub hl [0, 1, 2, 3] rfl)
    rintro s16 ⟨z38, hF, hwz38⟩ H locs ls hP hD hS hl
    try dsimp only at hF
    refine lv_iload_n hx hb dX1_beginPicture_74 rfl (lv_at hl 0 rfl) ?_
    refine lv_iconst (v := (4 : Int32)) hx hb dX1_beginPicture_75 (by decide) ?_
    refine lv_icmp_ge (tgt := 100) hx hb dX1_beginPicture_76 (by decide) (fun c39 => ?_) (fun c39 => ?_)
    · rw [if_pos c39] at hF
      obtain rfl := Option.some.inj hF
      subst hwz38
      exact K15 _ _ _ hP hD hS (lv_sub hl [0, 1, 2, 3] rfl)
    · rw [if_neg c39] at hF
      refine lv_aloadq_n hx hb dX1_beginPicture_79 rfl (lv_at hl 1 rfl) ?_
      obtain ⟨b40, ho40, hc40, hk40, hF⟩ := dr_some hF
      refine W_st (st' := [.ref (ad13 b40)]) (by rw [va_some ho40]) ?_
      refine va_get (D := D) (ci := 4) (v := va_re ad13 (s16.2.2 b40 3)) (C := RX4) (T := TX4) (N := 18) hx hb hts (mus hf_X4) hown hK hP b40 (wld_o ct ad13 (xt G L12) s16.2 hc40 hk40 (by decide)) rfl 3 (by decide) (hts (.fieldLink RX1 273 "VideoSuite$Picture" "crop" "[I") (mu mw_1429)) (fun _ h9 => h9) rfl dX1_beginPicture_80 ?_
      refine lv_iload_n hx hb dX1_beginPicture_83 rfl (lv_at hl 0 rfl) ?_
      refine lv_aload_n hx hb dX1_beginPicture_84 rfl (lv_at hl 3 rfl) ?_
      refine va_get (D := D) (ci := 1) (v := va_re ad13 (s16.2.2 a 7)) (C := RX1) (T := TX1) (N := 22) hx hb hts (mus hf_X1) hown hK hP a (wld_o ct ad13 (xt G L12) s16.2 hc hk (by decide)) rfl 7 (by decide) (hts (.fieldLink RX1 54 "VideoSuite$Decoder" "active" "[I") (mu mw_649)) (fun _ h9 => h9) rfl dX1_beginPicture_85 ?_
      refine lv_bipush (v := (7 : Int32)) hx hb dX1_beginPicture_88 (by decide) ?_
      refine lv_iload_n hx hb dX1_beginPicture_90 rfl (lv_at hl 0 rfl) ?_
      refine lv_iadd hx hb dX1_beginPicture_91 ?_
      obtain ⟨x41, ex41, hF⟩ := ltt_some hF
      refine lv_topi (fun zx41 ezx41 => ?_)
      obtain rfl : x41 = zx41 := ex41.trans ezx41.symm
      obtain ⟨b42, ho42, hc42, hk42, hF⟩ := dr_some hF
      refine W_st (st' := [.int x41, .ref (ad13 b42), .int s16.1, va_re ad13 (s16.2.2 b40 3)]) (by rw [va_some ho42]) ?_
      obtain ⟨hvc, hF⟩ := chk_some hF
      refine va_iald hx hb hK hP b42 1 (wld_i ct ad13 (xt G L12) s16.2 hc42 hk42) rfl hvc dX1_beginPicture_92 ?_
      obtain ⟨x43, ex43, hF⟩ := ltt_some hF
      refine lv_topi (fun zx43 ezx43 => ?_)
      obtain rfl : x43 = zx43 := ex43.trans ezx43.symm
      obtain ⟨b44, ho44, hc44, hk44, hF⟩ := dr_some hF
      refine W_st (st' := [.int x43, .int s16.1, .ref (ad13 b44)]) (by rw [va_some ho44]) ?_
      obtain ⟨hvc, hF⟩ := chk_some hF
      refine va_iast hx hb hK hP hD hS b44 1 (wld_i ct ad13 (xt G L12) s16.2 hc44 hk44) rfl hvc dX1_beginPicture_93 (fun H locs hP hD hS => ?_)
      obtain ⟨M45, eM45, hF⟩ := ltt_some hF
      rw [set_i ct ad13 (xt G L12) s16.2 hc44 hk44, ← eM45] at hP hD
      obtain ⟨x46, ex46, hF⟩ := ltt_some hF
      refine lv_iinc (v := x46) (lv' := [(3, .int x46), (2, va_re ad13 y9.2.2), (1, va_re ad13 (M.2 b2 0)), (0, .ref (ad13 a))]) hx hb dX1_beginPicture_94 hl (k := 0) rfl (by rw [ex46]; rfl) (by decide) (by generalize y9.2.2 = o9; cases o9 <;> rfl) (fun ls hl => ?_)
      refine lv_goto (tgt := 74) hx hb dX1_beginPicture_97 (by decide) ?_
      obtain rfl := Option.some.inj hF
      exact hwz38 _ _ _ hP hD hS (lv_sub hl [0, 1, 2, 3] rfl)
  clear hF
  have hF := hy4
  clear hy4
  refine lv_if_eq (tgt := 52) hx hb dX1_beginPicture_15 (by decide) (fun c47 => ?_) (fun c47 => ?_)
  · rw [if_pos c47] at hF
    obtain rfl := Option.some.inj hF
    exact J4 _ _ _ hP hD hS (lv_sub hl [0, 1] rfl)
  · rw [if_neg c47] at hF
    refine lv_aload_n hx hb dX1_beginPicture_18 rfl (lv_at hl 1 rfl) ?_
    refine lv_aload_n hx hb dX1_beginPicture_19 rfl (lv_at hl 1 rfl) ?_
    refine va_get (D := D) (ci := 1) (v := va_re ad (y3.1.2 a 6)) (C := RX1) (T := TX1) (N := 22) hx hb hts (mus hf_X1) hown hK hP a (wld_o ct ad (xt G []) y3.1 hc hk (by decide)) rfl 6 (by decide) (hts (.fieldLink RX1 51 "VideoSuite$Decoder" "parameters" "[[I") (mu mw_648)) (fun _ h9 => h9) rfl dX1_beginPicture_20 ?_
    refine lv_aloadq_n hx hb dX1_beginPicture_23 rfl (lv_at hl 0 rfl) ?_
    refine lv_iconst (v := (2 : Int32)) hx hb dX1_beginPicture_24 (by decide) ?_
    obtain ⟨b48, ho48, hc48, hk48, hF⟩ := dr_some hF
    refine W_st (st' := [.int (2 : Int32), .ref (ad b48), va_re ad (y3.1.2 a 6), .ref (ad a)]) (by rw [va_some ho48]) ?_
    obtain ⟨hvc, hF⟩ := chk_some hF
    refine va_iald hx hb hK hP b48 1 (wld_i ct ad (xt G []) y3.1 hc48 hk48) rfl hvc dX1_beginPicture_25 ?_
    obtain ⟨x49, ex49, hF⟩ := ltt_some hF
    refine lv_topi (fun zx49 ezx49 => ?_)
    obtain rfl : x49 = zx49 := ex49.trans ezx49.symm
    obtain ⟨b50, ho50, hc50, hk50, hF⟩ := dr_some hF
    refine W_st (st' := [.int x49, .ref (ad b50), .ref (ad a)]) (by rw [va_some ho50]) ?_
    obtain ⟨hvc, hF⟩ := chk_some hF
    refine ld_g hx hb hK hP hc50 hk50 hvc dX1_beginPicture_26 ?_
    refine lv_iconst (v := (0 : Int32)) hx hb dX1_beginPicture_27 (by decide) ?_
    obtain ⟨b51, ho51, hc51, hk51, hF⟩ := dr_some hF
    refine W_st (st' := [.int (0 : Int32), .ref (ad b51), .ref (ad a)]) (by rw [va_some ho51]) ?_
    obtain ⟨hvc, hF⟩ := chk_some hF
    refine va_iald hx hb hK hP b51 1 (wld_i ct ad (xt G []) y3.1 hc51 hk51) rfl hvc dX1_beginPicture_28 ?_
    obtain ⟨x52, ex52, hF⟩ := ltt_some hF
    refine lv_topi (fun zx52 ezx52 => ?_)
    obtain rfl : x52 = zx52 := ex52.trans ezx52.symm
    refine va_put (D := D) (ci := 1) (v := .int x52) (ty := .int) (C := RX1) (T := TX1) (N := 22) hx hb hts (mus hf_X1) tyX1 tyX1_ok nmX1 hown hK hP hD hS a (wld_o ct ad (xt G []) y3.1 hc hk (by decide)) rfl 8 (by decide) (hts (.fieldLink RX1 58 "VideoSuite$Decoder" "activeId" "I") (mu mw_650)) (fun _ h9 => h9) rfl (by decide +kernel) rfl rfl (Nat.le_of_ble_eq_true rfl) dX1_beginPicture_29 (fun H locs hP hD hS => ?_)
    obtain ⟨M53, eM53, hF⟩ := ltt_some hF
    rw [set_oI ct ad (xt G []) y3.1 hc hk (by decide) (by rfl), ← eM53] at hP hD
    refine lv_aload_n hx hb dX1_beginPicture_32 rfl (lv_at hl 1 rfl) ?_
    refine va_get (D := D) (ci := 1) (v := va_re ad (M53.2 a 5)) (C := RX1) (T := TX1) (N := 22) hx hb hts (mus hf_X1) hown hK hP a (wld_o ct ad (xt G []) M53 hc hk (by decide)) rfl 5 (by decide) (hts (.fieldLink RX1 48 "VideoSuite$Decoder" "sequences" "[[I") (mu mw_647)) (fun _ h9 => h9) rfl dX1_beginPicture_33 ?_
    refine lv_aload_n hx hb dX1_beginPicture_36 rfl (lv_at hl 1 rfl) ?_
    refine va_get (D := D) (ci := 1) (v := .int (M53.1 a 8)) (C := RX1) (T := TX1) (N := 22) hx hb hts (mus hf_X1) hown hK hP a (wld_o ct ad (xt G []) M53 hc hk (by decide)) rfl 8 (by decide) (hts (.fieldLink RX1 58 "VideoSuite$Decoder" "activeId" "I") (mu mw_650)) (fun _ h9 => h9) rfl dX1_beginPicture_37 ?_
    obtain ⟨x54, ex54, hF⟩ := ltt_some hF
    refine lv_topi (fun zx54 ezx54 => ?_)
    obtain rfl : x54 = zx54 := ex54.trans ezx54.symm
    obtain ⟨b55, ho55, hc55, hk55, hF⟩ := dr_some hF
    refine W_st (st' := [.int x54, .ref (ad b55)]) (by rw [va_some ho55]) ?_
    obtain ⟨hvc, hF⟩ := chk_some hF
    refine ld_g hx hb hK hP hc55 hk55 hvc dX1_beginPicture_40 ?_
    refine lv_iconst (v := (0 : Int32)) hx hb dX1_beginPicture_41 (by decide) ?_
    refine lv_aload_n hx hb dX1_beginPicture_42 rfl (lv_at hl 1 rfl) ?_
    refine va_get (D := D) (ci := 1) (v := va_re ad (M53.2 a 7)) (C := RX1) (T := TX1) (N := 22) hx hb hts (mus hf_X1) hown hK hP a (wld_o ct ad (xt G []) M53 hc hk (by decide)) rfl 7 (by decide) (hts (.fieldLink RX1 54 "VideoSuite$Decoder" "active" "[I") (mu mw_649)) (fun _ h9 => h9) rfl dX1_beginPicture_43 ?_
    refine lv_iconst (v := (0 : Int32)) hx hb dX1_beginPicture_46 (by decide) ?_
    refine lv_bipush (v := (24 : Int32)) hx hb dX1_beginPicture_47 (by decide) ?_
    obtain ⟨b56, ho56, hc56, hk56, hF⟩ := dr_some hF
    refine W_st (st' := [.int (24 : Int32), .int (0 : Int32), va_re ad (M53.2 a 7), .int (0 : Int32), .ref (ad b56)]) (by rw [va_some ho56]) ?_
    obtain ⟨b57, ho57, hc57, hk57, hF⟩ := dr_some hF
    refine W_st (st' := [.int (24 : Int32), .int (0 : Int32), .ref (ad b57), .int (0 : Int32), .ref (ad b56)]) (by rw [va_some ho57]) ?_
    obtain ⟨hv9, hF⟩ := chk_some hF
    refine va_copyi (ty := .int) hx hb (hml.trans hl.1.symm) hown (hts (.methodLink RX1 203 arraycopyName) (mu mw_1537)) (hts (.native arraycopyName) (mu mw_1093)) (hts (.static arraycopyName) (mu mw_1092)) (hts (.initialized "java/lang/System") (mu mw_181)) hK hP hD hS b56 b57 1 1 (wld_i ct ad (xt G []) M53 hc56 hk56) (wld_i ct ad (xt G []) M53 hc57 hk57) rfl rfl rfl hv9.1 hv9.2.1 hv9.2.2.1 hv9.2.2.2.1 hv9.2.2.2.2 (fun _ _ => rfl) (Nat.le_of_ble_eq_true rfl) (show _ ≤ _ from (by decide +kernel : 0 + (nativeFrameWords "java/lang/System" "arraycopy" 5 + 11) ≤ 112)) dX1_beginPicture_49 (fun H locs hP hD hS => ?_)
    obtain ⟨M58, eM58, hF⟩ := ltt_some hF
    rw [set_ri ct ad (xt G []) M53 hc57 hk57, ← eM58] at hP hD
    obtain rfl := Option.some.inj hF
    exact J4 _ _ _ hP hD hS (lv_sub hl [0, 1] rfl)
set_option maxRecDepth 20000 in
theorem gX1_endPicture_X2_mend : GoodIn wuX1_endPicture (wsV RX1 537 RX2 yX2_mend wuX2_mend) := gu_V mw_906 mw_907 mw_908 mw_173 mw_909
set_option maxRecDepth 20000 in
set_option maxRecDepth 20000 in
theorem gX1_endPicture_X2_filter : GoodIn wuX1_endPicture (wsV RX1 545 RX2 yX2_filter wuX2_filter) := gu_V mw_940 mw_941 mw_942 mw_173 mw_943
set_option maxRecDepth 20000 in
set_option maxRecDepth 20000 in
theorem gX1_endPicture_X7_accept : GoodIn wuX1_endPicture (wsV RX1 549 RX7 yX7_accept wuX7_accept) := gu_V mw_1000 mw_1001 mw_1002 mw_170 mw_1003
set_option maxRecDepth 20000 in
set_option maxRecDepth 20000 in
theorem gX1_endPicture_X3_isOwn : GoodIn wuX1_endPicture (wsV RX1 261 RX3 yX3_isOwn wuX3_isOwn) := gu_V mw_1057 mw_1005 mw_1006 mw_174 mw_1007
set_option maxRecDepth 20000 in
set_option maxRecDepth 20000 in
theorem gX1_endPicture_X7_putAway : GoodIn wuX1_endPicture (wsV RX1 553 RX7 yX7_putAway wuX7_putAway) := gu_V mw_1058 mw_1059 mw_1060 mw_170 mw_1061
theorem dX1_endPicture_0 : decode cX1_endPicture 0 = .ok (.aload_n 0, 1) := by decide +kernel
theorem dX1_endPicture_1 : decode cX1_endPicture 1 = .ok (.getfield 109, 3) := by decide +kernel
theorem dX1_endPicture_4 : decode cX1_endPicture 4 = .ok (.ifCond .ne 4, 3) := by decide +kernel
theorem dX1_endPicture_7 : decode cX1_endPicture 7 = .ok (.return_, 1) := by decide +kernel
theorem dX1_endPicture_8 : decode cX1_endPicture 8 = .ok (.aload_n 0, 1) := by decide +kernel
theorem dX1_endPicture_9 : decode cX1_endPicture 9 = .ok (.iconst 0, 1) := by decide +kernel
theorem dX1_endPicture_10 : decode cX1_endPicture 10 = .ok (.putfield 109, 3) := by decide +kernel
theorem dX1_endPicture_13 : decode cX1_endPicture 13 = .ok (.aload_n 0, 1) := by decide +kernel
theorem dX1_endPicture_14 : decode cX1_endPicture 14 = .ok (.getfield 28, 3) := by decide +kernel
theorem dX1_endPicture_17 : decode cX1_endPicture 17 = .ok (.getfield 84, 3) := by decide +kernel
theorem dX1_endPicture_20 : decode cX1_endPicture 20 = .ok (.astore_n 1, 1) := by decide +kernel
theorem dX1_endPicture_21 : decode cX1_endPicture 21 = .ok (.aload_n 1, 1) := by decide +kernel
theorem dX1_endPicture_22 : decode cX1_endPicture 22 = .ok (.aload_n 0, 1) := by decide +kernel
theorem dX1_endPicture_23 : decode cX1_endPicture 23 = .ok (.getfield 42, 3) := by decide +kernel
theorem dX1_endPicture_26 : decode cX1_endPicture 26 = .ok (.aload_n 0, 1) := by decide +kernel
theorem dX1_endPicture_27 : decode cX1_endPicture 27 = .ok (.getfield 28, 3) := by decide +kernel
theorem dX1_endPicture_30 : decode cX1_endPicture 30 = .ok (.aload_n 0, 1) := by decide +kernel
theorem dX1_endPicture_31 : decode cX1_endPicture 31 = .ok (.getfield 21, 3) := by decide +kernel
theorem dX1_endPicture_34 : decode cX1_endPicture 34 = .ok (.getfield 531, 3) := by decide +kernel
theorem dX1_endPicture_37 : decode cX1_endPicture 37 = .ok (.aload_n 0, 1) := by decide +kernel
theorem dX1_endPicture_38 : decode cX1_endPicture 38 = .ok (.getfield 534, 3) := by decide +kernel
theorem dX1_endPicture_41 : decode cX1_endPicture 41 = .ok (.invokevirtual 537, 3) := by decide +kernel
theorem dX1_endPicture_44 : decode cX1_endPicture 44 = .ok (.putfield 541, 3) := by decide +kernel
theorem dX1_endPicture_47 : decode cX1_endPicture 47 = .ok (.aload_n 0, 1) := by decide +kernel
theorem dX1_endPicture_48 : decode cX1_endPicture 48 = .ok (.dup, 1) := by decide +kernel
theorem dX1_endPicture_49 : decode cX1_endPicture 49 = .ok (.getfield 113, 3) := by decide +kernel
theorem dX1_endPicture_52 : decode cX1_endPicture 52 = .ok (.aload_n 1, 1) := by decide +kernel
theorem dX1_endPicture_53 : decode cX1_endPicture 53 = .ok (.getfield 541, 3) := by decide +kernel
theorem dX1_endPicture_56 : decode cX1_endPicture 56 = .ok (.iadd, 1) := by decide +kernel
theorem dX1_endPicture_57 : decode cX1_endPicture 57 = .ok (.putfield 113, 3) := by decide +kernel
theorem dX1_endPicture_60 : decode cX1_endPicture 60 = .ok (.aload_n 1, 1) := by decide +kernel
theorem dX1_endPicture_61 : decode cX1_endPicture 61 = .ok (.aload_n 1, 1) := by decide +kernel
theorem dX1_endPicture_62 : decode cX1_endPicture 62 = .ok (.getfield 542, 3) := by decide +kernel
theorem dX1_endPicture_65 : decode cX1_endPicture 65 = .ok (.ifCond .eq 14, 3) := by decide +kernel
theorem dX1_endPicture_68 : decode cX1_endPicture 68 = .ok (.aload_n 1, 1) := by decide +kernel
theorem dX1_endPicture_69 : decode cX1_endPicture 69 = .ok (.getfield 541, 3) := by decide +kernel
theorem dX1_endPicture_72 : decode cX1_endPicture 72 = .ok (.ifCond .ne 7, 3) := by decide +kernel
theorem dX1_endPicture_75 : decode cX1_endPicture 75 = .ok (.iconst 1, 1) := by decide +kernel
theorem dX1_endPicture_76 : decode cX1_endPicture 76 = .ok (.goto 4, 3) := by decide +kernel
theorem dX1_endPicture_79 : decode cX1_endPicture 79 = .ok (.iconst 0, 1) := by decide +kernel
theorem dX1_endPicture_80 : decode cX1_endPicture 80 = .ok (.putfield 542, 3) := by decide +kernel
theorem dX1_endPicture_83 : decode cX1_endPicture 83 = .ok (.aload_n 0, 1) := by decide +kernel
theorem dX1_endPicture_84 : decode cX1_endPicture 84 = .ok (.getfield 42, 3) := by decide +kernel
theorem dX1_endPicture_87 : decode cX1_endPicture 87 = .ok (.aload_n 0, 1) := by decide +kernel
theorem dX1_endPicture_88 : decode cX1_endPicture 88 = .ok (.getfield 28, 3) := by decide +kernel
theorem dX1_endPicture_91 : decode cX1_endPicture 91 = .ok (.invokevirtual 545, 3) := by decide +kernel
theorem dX1_endPicture_94 : decode cX1_endPicture 94 = .ok (.aload_n 0, 1) := by decide +kernel
theorem dX1_endPicture_95 : decode cX1_endPicture 95 = .ok (.getfield 21, 3) := by decide +kernel
theorem dX1_endPicture_98 : decode cX1_endPicture 98 = .ok (.aload_n 1, 1) := by decide +kernel
theorem dX1_endPicture_99 : decode cX1_endPicture 99 = .ok (.aload_n 0, 1) := by decide +kernel
theorem dX1_endPicture_100 : decode cX1_endPicture 100 = .ok (.getfield 75, 3) := by decide +kernel
theorem dX1_endPicture_103 : decode cX1_endPicture 103 = .ok (.aload_n 0, 1) := by decide +kernel
theorem dX1_endPicture_104 : decode cX1_endPicture 104 = .ok (.getfield 54, 3) := by decide +kernel
theorem dX1_endPicture_107 : decode cX1_endPicture 107 = .ok (.invokevirtual 549, 3) := by decide +kernel
theorem dX1_endPicture_110 : decode cX1_endPicture 110 = .ok (.istore_n 2, 1) := by decide +kernel
theorem dX1_endPicture_111 : decode cX1_endPicture 111 = .ok (.aload_n 0, 1) := by decide +kernel
theorem dX1_endPicture_112 : decode cX1_endPicture 112 = .ok (.getfield 21, 3) := by decide +kernel
theorem dX1_endPicture_115 : decode cX1_endPicture 115 = .ok (.aload_n 1, 1) := by decide +kernel
theorem dX1_endPicture_116 : decode cX1_endPicture 116 = .ok (.aload_n 0, 1) := by decide +kernel
theorem dX1_endPicture_117 : decode cX1_endPicture 117 = .ok (.getfield 75, 3) := by decide +kernel
theorem dX1_endPicture_120 : decode cX1_endPicture 120 = .ok (.invokevirtual 261, 3) := by decide +kernel
theorem dX1_endPicture_123 : decode cX1_endPicture 123 = .ok (.ifCond .ne 7, 3) := by decide +kernel
theorem dX1_endPicture_126 : decode cX1_endPicture 126 = .ok (.iload_n 2, 1) := by decide +kernel
theorem dX1_endPicture_127 : decode cX1_endPicture 127 = .ok (.ifCond .eq 7, 3) := by decide +kernel
theorem dX1_endPicture_130 : decode cX1_endPicture 130 = .ok (.iconst 1, 1) := by decide +kernel
theorem dX1_endPicture_131 : decode cX1_endPicture 131 = .ok (.goto 4, 3) := by decide +kernel
theorem dX1_endPicture_134 : decode cX1_endPicture 134 = .ok (.iconst 0, 1) := by decide +kernel
theorem dX1_endPicture_135 : decode cX1_endPicture 135 = .ok (.aload_n 0, 1) := by decide +kernel
theorem dX1_endPicture_136 : decode cX1_endPicture 136 = .ok (.getfield 75, 3) := by decide +kernel
theorem dX1_endPicture_139 : decode cX1_endPicture 139 = .ok (.invokevirtual 261, 3) := by decide +kernel
theorem dX1_endPicture_142 : decode cX1_endPicture 142 = .ok (.ifCond .eq 21, 3) := by decide +kernel
theorem dX1_endPicture_145 : decode cX1_endPicture 145 = .ok (.aload_n 0, 1) := by decide +kernel
theorem dX1_endPicture_146 : decode cX1_endPicture 146 = .ok (.getfield 75, 3) := by decide +kernel
theorem dX1_endPicture_149 : decode cX1_endPicture 149 = .ok (.getfield 212, 3) := by decide +kernel
theorem dX1_endPicture_152 : decode cX1_endPicture 152 = .ok (.bipush 19, 2) := by decide +kernel
theorem dX1_endPicture_154 : decode cX1_endPicture 154 = .ok (.iaload, 1) := by decide +kernel
theorem dX1_endPicture_155 : decode cX1_endPicture 155 = .ok (.iconst 1, 1) := by decide +kernel
theorem dX1_endPicture_156 : decode cX1_endPicture 156 = .ok (.if_icmp .ne 7, 3) := by decide +kernel
theorem dX1_endPicture_159 : decode cX1_endPicture 159 = .ok (.iconst 1, 1) := by decide +kernel
theorem dX1_endPicture_160 : decode cX1_endPicture 160 = .ok (.goto 4, 3) := by decide +kernel
theorem dX1_endPicture_163 : decode cX1_endPicture 163 = .ok (.iconst 0, 1) := by decide +kernel
theorem dX1_endPicture_164 : decode cX1_endPicture 164 = .ok (.invokevirtual 553, 3) := by decide +kernel
theorem dX1_endPicture_167 : decode cX1_endPicture 167 = .ok (.return_, 1) := by decide +kernel
noncomputable def FX1_endPicture (G : GG) (M : DD) (a : Nat)  : Option (NN × DD) :=
  ltt (M.1 a 16) fun x1 =>
  if x1 = ((0 : Int32)) then (some ([], M)) else
  (chk (((0 : Int32)) = 0 ∨ ((0 : Int32)) = 1) <|
  ltt (uI M a 16 ((0 : Int32))) fun M3 =>
  dr (xt G []) 9 ((M3.2 a 2)) fun b4 =>
  dr (xt G []) 7 ((M3.2 a 1)) fun b5 =>
  ltt (M3.1 a 17) fun x6 =>
  dr (xt G []) 2 ((M3.2 a 4)) fun b7 =>
  bnd (FX2_mend (xt G []) M3 b7 ((M3.2 a 2)) ((M3.2 b5 6)) x6) fun y8 =>
  dr (xt G []) 4 ((M3.2 b4 0)) fun b9 =>
  ltt (uI y8.1 b9 17 y8.2) fun M10 =>
  ltt (M10.1 a 18) fun x11 =>
  ltt (M10.1 b9 17) fun x12 =>
  ltt ((x11 + x12)) fun x13 =>
  ltt (uI M10 a 18 x13) fun M14 =>
  ltt (M14.1 b9 14) fun x15 =>
  bnd (if x15 = ((0 : Int32)) then (some ((0 : Int32))) else
  (ltt (M14.1 b9 17) fun x44 =>
  bnd (if x44 = ((0 : Int32)) then (some ((1 : Int32))) else
  (some ((0 : Int32)))) fun (y45 : Int32) =>
  some (y45))) fun (y16 : Int32) =>
  chk (y16 = 0 ∨ y16 = 1) <|
  ltt (uI M14 b9 14 y16) fun M17 =>
  dr (xt G []) 2 ((M17.2 a 4)) fun b18 =>
  bnd (FX2_filter (xt G []) M17 b18 ((M17.2 a 2))) fun y19 =>
  dr (xt G []) 7 ((y19.2 a 1)) fun b20 =>
  bnd (FX7_accept (xt G []) y19 b20 ((M3.2 b4 0)) ((y19.2 a 12)) ((y19.2 a 7))) fun y21 =>
  dr (xt G []) 3 ((y21.1.2 a 12)) fun b22 =>
  bnd (FX3_isOwn (xt G []) y21.1 b22) fun y23 =>
  bnd (if y23.2 = ((0 : Int32)) then (bnd (if y21.2 = ((0 : Int32)) then (some ((0 : Int32))) else
  (some ((1 : Int32)))) fun (y41 : Int32) =>
  some (y41)) else
  (some ((1 : Int32)))) fun (y24 : Int32) =>
  dr (xt G []) 3 ((y23.1.2 a 12)) fun b25 =>
  bnd (FX3_isOwn (xt G []) y23.1 b25) fun y26 =>
  bnd (if y26.2 = ((0 : Int32)) then (some ((0 : Int32))) else
  (dr (xt G []) 3 ((y26.1.2 a 12)) fun b35 =>
  dr (xt G []) 13 ((y26.1.2 b35 0)) fun b36 =>
  chk (¬ (((19 : Int32)) < 0 ∨ (xt G []).2.2 b36 ≤ ((19 : Int32)).toNatClampNeg)) <|
  ltt (y26.1.1 b36 ((19 : Int32)).toNatClampNeg) fun x37 =>
  bnd (if x37 = ((1 : Int32)) then (some ((1 : Int32))) else
  (some ((0 : Int32)))) fun (y38 : Int32) =>
  some (y38))) fun (y27 : Int32) =>
  dr (xt G []) 7 ((y21.1.2 a 1)) fun b28 =>
  bnd (FX7_putAway (xt G []) y26.1 b28 ((M3.2 b4 0)) y24 y27) fun y29 =>
  app y29.1 <|
  ltt ([] ++ y29.1) fun L31 =>
  some ([], y29.2))
set_option maxHeartbeats 4000000 in
set_option maxRecDepth 100000 in
theorem kX1_endPicture (l : Launch) (D : va_G) (ct : CT) (ad : Nat → Nat) (Z : Nat → Nat) (G : GG) (M : DD) (sz : Nat) (a : Nat)  (y : NN × DD) (hc : a < G.1) (hk : G.2.1 a = 1) (hF : FX1_endPicture G M a  = some y) : Met l yX1_endPicture wuX1_endPicture ({ frames := 5, cells := y.1.length, slots := wt y.1, locals := 177 }) (va_Pc [.ref (ad a)] (kB D ct ad Z G M sz)) (va_Qv (fun (u : Nat → Nat) => agr G.1 ad u) (fun u t => kE D ct u (xt G y.1) (wA ad G sz) y.2 t) (wA ad G sz)) y.1.length (wt y.1) (wA ad G sz) := by
  refine Met.ofW (cc := cX1_endPicture) (maxL := 3) (ret := none) (by decide) rfl ?_
  intro p e s m args below meth c s₁ B hml hv
  obtain ⟨rfl, hsz, hP, hK, hD0, hZ, hN⟩ := hv
  have hx := B.exec
  have hb := B.bytes
  have hr := B.returns
  have hts := atoms_spec (ws := wuX1_endPicture) B.pre
  have hown : s.vm.findClass RX1 = some m.cls := findClass_of_methodNamed B.named
  have hlocks := B.notSynchronized
  subst hsz
  have hD := wD_self (sz := s.heap.size) hD0
  have hA9 : ∀ q, s.heap.size ≤ q → wA ad G s.heap.size q := fun q h => Or.inr h
  generalize hAe : wA ad G s.heap.size = A at hD hA9 hZ ⊢
  have hS : va_S A s.heap s.heap [] := va_S.rf
  have hl := lv_entry ([.ref (ad a)]) (n := 3) (Nat.le_of_ble_eq_true rfl)
  rw [lg_entry_eq]
  generalize (lg_sl ([.ref (ad a)]) ++ List.replicate (3 - (lg_sl ([.ref (ad a)])).length) Slot.unset).toArray = ls at hl ⊢
  have hl : lv_has ls 3 [(0, .ref (ad a))] := hl
  unfold FX1_endPicture at hF
  rw [← wld_0 ct ad G M] at hP hD
  have hk := xt_k0 hc hk
  have hc := xt_l0 hc
  have hag := agr_rf G.1 ad
  obtain ⟨w0, hw0⟩ : ∃ z, z = y := ⟨_, rfl⟩
  rw [← hw0] at hF
  have hT : y.1 = [] ++ w0.1 := by rw [hw0]; rfl
  have h2 : y.2 = w0.2 := by rw [hw0]
  have hbl : y.1.length ≤ y.1.length ∧ wt y.1 ≤ wt y.1 := ⟨Nat.le_refl _, Nat.le_refl _⟩
  refine lv_aload_n hx hb dX1_endPicture_0 rfl (lv_at hl 0 rfl) ?_
  refine va_get (D := D) (ci := 1) (v := .int (M.1 a 16)) (C := RX1) (T := TX1) (N := 22) hx hb hts (mus hf_X1) hown hK hP a (wld_o ct ad (xt G []) M hc hk (by decide)) rfl 16 (by decide) (hts (.fieldLink RX1 109 "VideoSuite$Decoder" "underWay" "Z") (mu mw_660)) (fun _ h9 => h9) rfl dX1_endPicture_1 ?_
  obtain ⟨x1, ex1, hF⟩ := ltt_some hF
  refine lv_topi (fun zx1 ezx1 => ?_)
  obtain rfl : x1 = zx1 := ex1.trans ezx1.symm
  refine lv_if_ne (tgt := 8) hx hb dX1_endPicture_4 (by decide) (fun c2 => ?_) (fun c2 => ?_)
  · rw [if_neg c2] at hF
    refine lv_aload_n hx hb dX1_endPicture_8 rfl (lv_at hl 0 rfl) ?_
    refine lv_iconst (v := (0 : Int32)) hx hb dX1_endPicture_9 (by decide) ?_
    obtain ⟨hz9, hF⟩ := chk_some hF
    refine va_put (D := D) (ci := 1) (v := .int (0 : Int32)) (ty := .boolean) (C := RX1) (T := TX1) (N := 22) hx hb hts (mus hf_X1) tyX1 tyX1_ok nmX1 hown hK hP hD hS a (wld_o ct ad (xt G []) M hc hk (by decide)) rfl 16 (by decide) (hts (.fieldLink RX1 109 "VideoSuite$Decoder" "underWay" "Z") (mu mw_660)) (fun _ h9 => h9) rfl (by decide +kernel) (nar_z hz9).1 (nar_z hz9).2 (Nat.le_of_ble_eq_true rfl) dX1_endPicture_10 (fun H locs hP hD hS => ?_)
    obtain ⟨M3, eM3, hF⟩ := ltt_some hF
    rw [set_oI ct ad (xt G []) M hc hk (by decide) (by rfl), ← eM3] at hP hD
    refine lv_aload_n hx hb dX1_endPicture_13 rfl (lv_at hl 0 rfl) ?_
    refine va_get (D := D) (ci := 1) (v := va_re ad (M3.2 a 2)) (C := RX1) (T := TX1) (N := 22) hx hb hts (mus hf_X1) hown hK hP a (wld_o ct ad (xt G []) M3 hc hk (by decide)) rfl 2 (by decide) (hts (.fieldLink RX1 28 "VideoSuite$Decoder" "work" "LVideoSuite$Work;") (mu mw_644)) (fun _ h9 => h9) rfl dX1_endPicture_14 ?_
    obtain ⟨b4, ho4, hc4, hk4, hF⟩ := dr_some hF
    refine W_st (st' := [.ref (ad b4)]) (by rw [va_some ho4]) ?_
    refine va_get (D := D) (ci := 9) (v := va_re ad (M3.2 b4 0)) (C := RX9) (T := TX9) (N := 20) hx hb hts (mus hf_X9) hown hK hP b4 (wld_o ct ad (xt G []) M3 hc4 hk4 (by decide)) rfl 0 (by decide) (hts (.fieldLink RX1 84 "VideoSuite$Work" "pic" "LVideoSuite$Picture;") (mu mw_420)) (fun _ h9 => h9) rfl dX1_endPicture_17 ?_
    refine lv_astoreq_n (lv' := [(1, va_re ad (M3.2 b4 0)), (0, .ref (ad a))]) hx hb dX1_endPicture_20 rfl hl (by decide) rfl (fun ls hl => ?_)
    refine lv_aloadq_n hx hb dX1_endPicture_21 rfl (lv_at hl 0 rfl) ?_
    refine lv_aload_n hx hb dX1_endPicture_22 rfl (lv_at hl 1 rfl) ?_
    refine va_get (D := D) (ci := 1) (v := va_re ad (M3.2 a 4)) (C := RX1) (T := TX1) (N := 22) hx hb hts (mus hf_X1) hown hK hP a (wld_o ct ad (xt G []) M3 hc hk (by decide)) rfl 4 (by decide) (hts (.fieldLink RX1 42 "VideoSuite$Decoder" "edges" "LVideoSuite$Edges;") (mu mw_646)) (fun _ h9 => h9) rfl dX1_endPicture_23 ?_
    refine lv_aload_n hx hb dX1_endPicture_26 rfl (lv_at hl 1 rfl) ?_
    refine va_get (D := D) (ci := 1) (v := va_re ad (M3.2 a 2)) (C := RX1) (T := TX1) (N := 22) hx hb hts (mus hf_X1) hown hK hP a (wld_o ct ad (xt G []) M3 hc hk (by decide)) rfl 2 (by decide) (hts (.fieldLink RX1 28 "VideoSuite$Decoder" "work" "LVideoSuite$Work;") (mu mw_644)) (fun _ h9 => h9) rfl dX1_endPicture_27 ?_
    refine lv_aload_n hx hb dX1_endPicture_30 rfl (lv_at hl 1 rfl) ?_
    refine va_get (D := D) (ci := 1) (v := va_re ad (M3.2 a 1)) (C := RX1) (T := TX1) (N := 22) hx hb hts (mus hf_X1) hown hK hP a (wld_o ct ad (xt G []) M3 hc hk (by decide)) rfl 1 (by decide) (hts (.fieldLink RX1 21 "VideoSuite$Decoder" "store" "LVideoSuite$Store;") (mu mw_642)) (fun _ h9 => h9) rfl dX1_endPicture_31 ?_
    obtain ⟨b5, ho5, hc5, hk5, hF⟩ := dr_some hF
    refine W_st (st' := [.ref (ad b5), va_re ad (M3.2 a 2), va_re ad (M3.2 a 4), va_re ad (M3.2 b4 0)]) (by rw [va_some ho5]) ?_
    refine va_get (D := D) (ci := 7) (v := va_re ad (M3.2 b5 6)) (C := RX7) (T := TX7) (N := 17) hx hb hts (mus hf_X7) hown hK hP b5 (wld_o ct ad (xt G []) M3 hc5 hk5 (by decide)) rfl 6 (by decide) (hts (.fieldLink RX1 531 "VideoSuite$Store" "ended" "LVideoSuite$Picture;") (mu mw_365)) (fun _ h9 => h9) rfl dX1_endPicture_34 ?_
    refine lv_aload_n hx hb dX1_endPicture_37 rfl (lv_at hl 1 rfl) ?_
    refine va_get (D := D) (ci := 1) (v := .int (M3.1 a 17)) (C := RX1) (T := TX1) (N := 22) hx hb hts (mus hf_X1) hown hK hP a (wld_o ct ad (xt G []) M3 hc hk (by decide)) rfl 17 (by decide) (hts (.fieldLink RX1 534 "VideoSuite$Decoder" "mendWay" "I") (mu mw_662)) (fun _ h9 => h9) rfl dX1_endPicture_38 ?_
    obtain ⟨x6, ex6, hF⟩ := ltt_some hF
    refine lv_topi (fun zx6 ezx6 => ?_)
    obtain rfl : x6 = zx6 := ex6.trans ezx6.symm
    obtain ⟨b7, ho7, hc7, hk7, hF⟩ := dr_some hF
    refine W_st (st' := [.int x6, va_re ad (M3.2 b5 6), va_re ad (M3.2 a 2), .ref (ad b7), va_re ad (M3.2 b4 0)]) (by rw [va_some ho7]) ?_
    obtain ⟨y8, hy8, hF⟩ := bnd_some hF
    have hf9 := wA_in hD hA9 hS
    refine va_calli (va_runV (As := [va_re ad (M3.2 a 2), va_re ad (M3.2 b5 6), .int x6]) (rest := [va_re ad (M3.2 b4 0)]) ⟨hx, hb, hml, hown, hts⟩ (kX2_mend l D ct ad Z (xt G []) M3 H.size b7 ((M3.2 a 2)) ((M3.2 b5 6)) x6 y8 hc7 hk7 hy8) (cwV 3 hts gX1_endPicture_X2_mend rfl rfl rfl (by decide +kernel) ⟨Nat.le_of_ble_eq_true rfl, Nat.le_of_ble_eq_true rfl⟩) ⟨fun a U g mk q => by obtain ⟨q0, q1, qP, qK, qD, qZ, qN⟩ := q; exact ⟨q0, q1, qP, va_K.moved (u := U) (U := U.calling g mk a) (Vm.Alike.refl U.vm) qK, qD, sF.moved (u := U) (U := U.calling g mk a) (Vm.Alike.refl U.vm) qZ, nF.same rfl qN⟩, va_recv hK hP (ci := 2) (q0 := b7) rfl (wld_o ct ad (xt G []) M3 hc7 hk7 (by decide)), fun U hU hW => ⟨rfl, by rw [hU], by rw [hU]; exact hP, va_K.moved hW.alike hK, hD.weaken (fun _ _ _ _ => trivial), by rw [hU]; exact ((hZ.kept hS.2.1).narrow hf9).moved hW.alike, hN.warm hW⟩⟩ rfl rfl hl.1 rfl (lv_room (by simp only [List.map, va_re_cat]; exact Nat.le_of_ble_eq_true rfl)) dX1_endPicture_41 (room_d hT hbl)) hS (fun q _ h => hf9 q h) hf9 (fun r u t H locs ht hvm hw hB hz1 hk1 hS => ?_)
    obtain ⟨hP, hK9, hD9⟩ := hB
    rw [ht] at hP
    try dsimp only at hw
    subst hw
    refine W_cs (k := ([] : NN).length) (n := wt []) rfl rfl ?_
    have hD := hD9.weaken (fun _ q _ h => hf9 q.1 h)
    obtain ⟨b9, ho9, hc9, hk9, hF⟩ := dr_some hF
    refine W_st (st' := [.int y8.2, .ref (ad b9)]) (by rw [va_some ho9]) ?_
    refine va_put (D := D) (ci := 4) (v := .int y8.2) (ty := .int) (C := RX4) (T := TX4) (N := 18) hx hb hts (mus hf_X4) tyX4 tyX4_ok nmX4 hown hK hP hD hS b9 (wld_o ct ad (xt G []) y8.1 hc9 hk9 (by decide)) rfl 17 (by decide) (hts (.fieldLink RX1 541 "VideoSuite$Picture" "mended" "I") (mu mw_1480)) (fun _ h9 => h9) rfl (by decide +kernel) rfl rfl (Nat.le_of_ble_eq_true rfl) dX1_endPicture_44 (fun H locs hP hD hS => ?_)
    obtain ⟨M10, eM10, hF⟩ := ltt_some hF
    rw [set_oI ct ad (xt G []) y8.1 hc9 hk9 (by decide) (by rfl), ← eM10] at hP hD
    refine lv_aload_n hx hb dX1_endPicture_47 rfl (lv_at hl 1 rfl) ?_
    refine lv_dup hx hb dX1_endPicture_48 rfl ?_
    refine va_get (D := D) (ci := 1) (v := .int (M10.1 a 18)) (C := RX1) (T := TX1) (N := 22) hx hb hts (mus hf_X1) hown hK hP a (wld_o ct ad (xt G []) M10 hc hk (by decide)) rfl 18 (by decide) (hts (.fieldLink RX1 113 "VideoSuite$Decoder" "mended" "I") (mu mw_663)) (fun _ h9 => h9) rfl dX1_endPicture_49 ?_
    obtain ⟨x11, ex11, hF⟩ := ltt_some hF
    refine lv_topi (fun zx11 ezx11 => ?_)
    obtain rfl : x11 = zx11 := ex11.trans ezx11.symm
    refine lv_aloadq_n hx hb dX1_endPicture_52 rfl (lv_at hl 0 rfl) ?_
    refine W_st (st' := [.ref (ad b9), .int x11, .ref (ad a)]) (by rw [va_some ho9]) ?_
    refine va_get (D := D) (ci := 4) (v := .int (M10.1 b9 17)) (C := RX4) (T := TX4) (N := 18) hx hb hts (mus hf_X4) hown hK hP b9 (wld_o ct ad (xt G []) M10 hc9 hk9 (by decide)) rfl 17 (by decide) (hts (.fieldLink RX1 541 "VideoSuite$Picture" "mended" "I") (mu mw_1480)) (fun _ h9 => h9) rfl dX1_endPicture_53 ?_
    obtain ⟨x12, ex12, hF⟩ := ltt_some hF
    refine lv_topi (fun zx12 ezx12 => ?_)
    obtain rfl : x12 = zx12 := ex12.trans ezx12.symm
    refine lv_iadd hx hb dX1_endPicture_56 ?_
    obtain ⟨x13, ex13, hF⟩ := ltt_some hF
    refine lv_topi (fun zx13 ezx13 => ?_)
    obtain rfl : x13 = zx13 := ex13.trans ezx13.symm
    refine va_put (D := D) (ci := 1) (v := .int x13) (ty := .int) (C := RX1) (T := TX1) (N := 22) hx hb hts (mus hf_X1) tyX1 tyX1_ok nmX1 hown hK hP hD hS a (wld_o ct ad (xt G []) M10 hc hk (by decide)) rfl 18 (by decide) (hts (.fieldLink RX1 113 "VideoSuite$Decoder" "mended" "I") (mu mw_663)) (fun _ h9 => h9) rfl (by decide +kernel) rfl rfl (Nat.le_of_ble_eq_true rfl) dX1_endPicture_57 (fun H locs hP hD hS => ?_)
    obtain ⟨M14, eM14, hF⟩ := ltt_some hF
    rw [set_oI ct ad (xt G []) M10 hc hk (by decide) (by rfl), ← eM14] at hP hD
    refine lv_aloadq_n hx hb dX1_endPicture_60 rfl (lv_at hl 0 rfl) ?_
    refine lv_aloadq_n hx hb dX1_endPicture_61 rfl (lv_at hl 0 rfl) ?_
    refine W_st (st' := [.ref (ad b9), .ref (ad b9)]) (by rw [va_some ho9]) ?_
    refine va_get (D := D) (ci := 4) (v := .int (M14.1 b9 14)) (C := RX4) (T := TX4) (N := 18) hx hb hts (mus hf_X4) hown hK hP b9 (wld_o ct ad (xt G []) M14 hc9 hk9 (by decide)) rfl 14 (by decide) (hts (.fieldLink RX1 542 "VideoSuite$Picture" "isTrusted" "Z") (mu mw_1471)) (fun _ h9 => h9) rfl dX1_endPicture_62 ?_
    obtain ⟨x15, ex15, hF⟩ := ltt_some hF
    refine lv_topi (fun zx15 ezx15 => ?_)
    obtain rfl : x15 = zx15 := ex15.trans ezx15.symm
    obtain ⟨y16, hy16, hF⟩ := bnd_some hF
    have J16 : ∀ (H : Heap) (locs : List Loc) (ls : Array Slot), va_P D classes (wld ct ad (xt G []) M14) H → va_D A (wld ct ad (xt G []) M14) → va_S A s.heap H locs → lv_has ls 3 [(1, va_re ad (M3.2 b4 0)), (0, .ref (ad a))] → W p l e (headSpec wuX1_endPicture ({ frames := 5, cells := y.1.length, slots := wt y.1, locals := 177 })).room s m ([.ref (ad a)] : List Value).toArray below meth c H locs ([] : NN).length (wt []) (MQ below (va_Qv (fun (u : Nat → Nat) => agr G.1 ad u) (fun u t => kE D ct u (xt G y.1) A y.2 t) A) ([.ref (ad a)] : List Value).toArray s y.1.length (wt y.1) A) (F0 m 80 ls [.int y16, .ref (ad b9)]) := by
      intro H locs ls hP hD hS hl
      obtain ⟨hz9, hF⟩ := chk_some hF
      refine va_put (D := D) (ci := 4) (v := .int y16) (ty := .boolean) (C := RX4) (T := TX4) (N := 18) hx hb hts (mus hf_X4) tyX4 tyX4_ok nmX4 hown hK hP hD hS b9 (wld_o ct ad (xt G []) M14 hc9 hk9 (by decide)) rfl 14 (by decide) (hts (.fieldLink RX1 542 "VideoSuite$Picture" "isTrusted" "Z") (mu mw_1471)) (fun _ h9 => h9) rfl (by decide +kernel) (nar_z hz9).1 (nar_z hz9).2 (Nat.le_of_ble_eq_true rfl) dX1_endPicture_80 (fun H locs hP hD hS => ?_)
      obtain ⟨M17, eM17, hF⟩ := ltt_some hF
      rw [set_oI ct ad (xt G []) M14 hc9 hk9 (by decide) (by rfl), ← eM17] at hP hD
      refine lv_aload_n hx hb dX1_endPicture_83 rfl (lv_at hl 1 rfl) ?_
      refine va_get (D := D) (ci := 1) (v := va_re ad (M17.2 a 4)) (C := RX1) (T := TX1) (N := 22) hx hb hts (mus hf_X1) hown hK hP a (wld_o ct ad (xt G []) M17 hc hk (by decide)) rfl 4 (by decide) (hts (.fieldLink RX1 42 "VideoSuite$Decoder" "edges" "LVideoSuite$Edges;") (mu mw_646)) (fun _ h9 => h9) rfl dX1_endPicture_84 ?_
      refine lv_aload_n hx hb dX1_endPicture_87 rfl (lv_at hl 1 rfl) ?_
      refine va_get (D := D) (ci := 1) (v := va_re ad (M17.2 a 2)) (C := RX1) (T := TX1) (N := 22) hx hb hts (mus hf_X1) hown hK hP a (wld_o ct ad (xt G []) M17 hc hk (by decide)) rfl 2 (by decide) (hts (.fieldLink RX1 28 "VideoSuite$Decoder" "work" "LVideoSuite$Work;") (mu mw_644)) (fun _ h9 => h9) rfl dX1_endPicture_88 ?_
      obtain ⟨b18, ho18, hc18, hk18, hF⟩ := dr_some hF
      refine W_st (st' := [va_re ad (M17.2 a 2), .ref (ad b18)]) (by rw [va_some ho18]) ?_
      obtain ⟨y19, hy19, hF⟩ := bnd_some hF
      have hf9 := wA_in hD hA9 hS
      refine va_callv (va_runV (As := [va_re ad (M17.2 a 2)]) (rest := []) ⟨hx, hb, hml, hown, hts⟩ (kX2_filter l D ct ad Z (xt G []) M17 H.size b18 ((M17.2 a 2)) y19 hc18 hk18 hy19) (cwV 1 hts gX1_endPicture_X2_filter rfl rfl rfl (by decide +kernel) ⟨Nat.le_of_ble_eq_true rfl, Nat.le_of_ble_eq_true rfl⟩) ⟨fun a U g mk q => by obtain ⟨q0, q1, qP, qK, qD, qZ, qN⟩ := q; exact ⟨q0, q1, qP, va_K.moved (u := U) (U := U.calling g mk a) (Vm.Alike.refl U.vm) qK, qD, sF.moved (u := U) (U := U.calling g mk a) (Vm.Alike.refl U.vm) qZ, nF.same rfl qN⟩, va_recv hK hP (ci := 2) (q0 := b18) rfl (wld_o ct ad (xt G []) M17 hc18 hk18 (by decide)), fun U hU hW => ⟨rfl, by rw [hU], by rw [hU]; exact hP, va_K.moved hW.alike hK, hD.weaken (fun _ _ _ _ => trivial), by rw [hU]; exact ((hZ.kept hS.2.1).narrow hf9).moved hW.alike, hN.warm hW⟩⟩ rfl rfl hl.1 rfl (lv_room (Nat.le_of_ble_eq_true rfl)) dX1_endPicture_91 (room_d hT hbl)) hS (fun q _ h => hf9 q h) hf9 (fun u t H locs ht hvm hw hB hz1 hk1 hS => ?_)
      obtain ⟨hP, hK9, hD9⟩ := hB
      rw [ht] at hP
      refine W_cs (k := ([] : NN).length) (n := wt []) rfl rfl ?_
      have hD := hD9.weaken (fun _ q _ h => hf9 q.1 h)
      refine lv_aload_n hx hb dX1_endPicture_94 rfl (lv_at hl 1 rfl) ?_
      refine va_get (D := D) (ci := 1) (v := va_re ad (y19.2 a 1)) (C := RX1) (T := TX1) (N := 22) hx hb hts (mus hf_X1) hown hK hP a (wld_o ct ad (xt G []) y19 hc hk (by decide)) rfl 1 (by decide) (hts (.fieldLink RX1 21 "VideoSuite$Decoder" "store" "LVideoSuite$Store;") (mu mw_642)) (fun _ h9 => h9) rfl dX1_endPicture_95 ?_
      refine lv_aloadq_n hx hb dX1_endPicture_98 rfl (lv_at hl 0 rfl) ?_
      refine lv_aload_n hx hb dX1_endPicture_99 rfl (lv_at hl 1 rfl) ?_
      refine va_get (D := D) (ci := 1) (v := va_re ad (y19.2 a 12)) (C := RX1) (T := TX1) (N := 22) hx hb hts (mus hf_X1) hown hK hP a (wld_o ct ad (xt G []) y19 hc hk (by decide)) rfl 12 (by decide) (hts (.fieldLink RX1 75 "VideoSuite$Decoder" "first" "LVideoSuite$Header;") (mu mw_654)) (fun _ h9 => h9) rfl dX1_endPicture_100 ?_
      refine lv_aload_n hx hb dX1_endPicture_103 rfl (lv_at hl 1 rfl) ?_
      refine va_get (D := D) (ci := 1) (v := va_re ad (y19.2 a 7)) (C := RX1) (T := TX1) (N := 22) hx hb hts (mus hf_X1) hown hK hP a (wld_o ct ad (xt G []) y19 hc hk (by decide)) rfl 7 (by decide) (hts (.fieldLink RX1 54 "VideoSuite$Decoder" "active" "[I") (mu mw_649)) (fun _ h9 => h9) rfl dX1_endPicture_104 ?_
      obtain ⟨b20, ho20, hc20, hk20, hF⟩ := dr_some hF
      refine W_st (st' := [va_re ad (y19.2 a 7), va_re ad (y19.2 a 12), va_re ad (M3.2 b4 0), .ref (ad b20)]) (by rw [va_some ho20]) ?_
      obtain ⟨y21, hy21, hF⟩ := bnd_some hF
      have hf9 := wA_in hD hA9 hS
      refine va_calli (va_runV (As := [va_re ad (M3.2 b4 0), va_re ad (y19.2 a 12), va_re ad (y19.2 a 7)]) (rest := []) ⟨hx, hb, hml, hown, hts⟩ (kX7_accept l D ct ad Z (xt G []) y19 H.size b20 ((M3.2 b4 0)) ((y19.2 a 12)) ((y19.2 a 7)) y21 hc20 hk20 hy21) (cwV 3 hts gX1_endPicture_X7_accept rfl rfl rfl (by decide +kernel) ⟨Nat.le_of_ble_eq_true rfl, Nat.le_of_ble_eq_true rfl⟩) ⟨fun a U g mk q => by obtain ⟨q0, q1, qP, qK, qD, qZ, qN⟩ := q; exact ⟨q0, q1, qP, va_K.moved (u := U) (U := U.calling g mk a) (Vm.Alike.refl U.vm) qK, qD, sF.moved (u := U) (U := U.calling g mk a) (Vm.Alike.refl U.vm) qZ, nF.same rfl qN⟩, va_recv hK hP (ci := 7) (q0 := b20) rfl (wld_o ct ad (xt G []) y19 hc20 hk20 (by decide)), fun U hU hW => ⟨rfl, by rw [hU], by rw [hU]; exact hP, va_K.moved hW.alike hK, hD.weaken (fun _ _ _ _ => trivial), by rw [hU]; exact ((hZ.kept hS.2.1).narrow hf9).moved hW.alike, hN.warm hW⟩⟩ rfl rfl hl.1 rfl (lv_room (Nat.le_of_ble_eq_true rfl)) dX1_endPicture_107 (room_d hT hbl)) hS (fun q _ h => hf9 q h) hf9 (fun r u t H locs ht hvm hw hB hz1 hk1 hS => ?_)
      obtain ⟨hP, hK9, hD9⟩ := hB
      rw [ht] at hP
      try dsimp only at hw
      subst hw
      refine W_cs (k := ([] : NN).length) (n := wt []) rfl rfl ?_
      have hD := hD9.weaken (fun _ q _ h => hf9 q.1 h)
      refine lv_istore_n (lv' := [(2, .int y21.2), (1, va_re ad (M3.2 b4 0)), (0, .ref (ad a))]) hx hb dX1_endPicture_110 rfl hl (by decide) (by generalize ((M3.2 b4 0)) = o9; cases o9 <;> rfl) (fun ls hl => ?_)
      refine lv_aload_n hx hb dX1_endPicture_111 rfl (lv_at hl 2 rfl) ?_
      refine va_get (D := D) (ci := 1) (v := va_re ad (y21.1.2 a 1)) (C := RX1) (T := TX1) (N := 22) hx hb hts (mus hf_X1) hown hK hP a (wld_o ct ad (xt G []) y21.1 hc hk (by decide)) rfl 1 (by decide) (hts (.fieldLink RX1 21 "VideoSuite$Decoder" "store" "LVideoSuite$Store;") (mu mw_642)) (fun _ h9 => h9) rfl dX1_endPicture_112 ?_
      refine lv_aloadq_n hx hb dX1_endPicture_115 rfl (lv_at hl 1 rfl) ?_
      refine lv_aload_n hx hb dX1_endPicture_116 rfl (lv_at hl 2 rfl) ?_
      refine va_get (D := D) (ci := 1) (v := va_re ad (y21.1.2 a 12)) (C := RX1) (T := TX1) (N := 22) hx hb hts (mus hf_X1) hown hK hP a (wld_o ct ad (xt G []) y21.1 hc hk (by decide)) rfl 12 (by decide) (hts (.fieldLink RX1 75 "VideoSuite$Decoder" "first" "LVideoSuite$Header;") (mu mw_654)) (fun _ h9 => h9) rfl dX1_endPicture_117 ?_
      obtain ⟨b22, ho22, hc22, hk22, hF⟩ := dr_some hF
      refine W_st (st' := [.ref (ad b22), va_re ad (M3.2 b4 0), va_re ad (y21.1.2 a 1)]) (by rw [va_some ho22]) ?_
      obtain ⟨y23, hy23, hF⟩ := bnd_some hF
      have hf9 := wA_in hD hA9 hS
      refine va_calli (va_runV (As := []) (rest := [va_re ad (M3.2 b4 0), va_re ad (y21.1.2 a 1)]) ⟨hx, hb, hml, hown, hts⟩ (kX3_isOwn l D ct ad Z (xt G []) y21.1 H.size b22 y23 hc22 hk22 hy23) (cwV 0 hts gX1_endPicture_X3_isOwn rfl rfl rfl (by decide +kernel) ⟨Nat.le_of_ble_eq_true rfl, Nat.le_of_ble_eq_true rfl⟩) ⟨fun a U g mk q => by obtain ⟨q0, q1, qP, qK, qD, qZ, qN⟩ := q; exact ⟨q0, q1, qP, va_K.moved (u := U) (U := U.calling g mk a) (Vm.Alike.refl U.vm) qK, qD, sF.moved (u := U) (U := U.calling g mk a) (Vm.Alike.refl U.vm) qZ, nF.same rfl qN⟩, va_recv hK hP (ci := 3) (q0 := b22) rfl (wld_o ct ad (xt G []) y21.1 hc22 hk22 (by decide)), fun U hU hW => ⟨rfl, by rw [hU], by rw [hU]; exact hP, va_K.moved hW.alike hK, hD.weaken (fun _ _ _ _ => trivial), by rw [hU]; exact ((hZ.kept hS.2.1).narrow hf9).moved hW.alike, hN.warm hW⟩⟩ rfl rfl hl.1 rfl (lv_room (by simp only [List.map, va_re_cat]; exact Nat.le_of_ble_eq_true rfl)) dX1_endPicture_120 (room_d hT hbl)) hS (fun q _ h => hf9 q h) hf9 (fun r u t H locs ht hvm hw hB hz1 hk1 hS => ?_)
      obtain ⟨hP, hK9, hD9⟩ := hB
      rw [ht] at hP
      try dsimp only at hw
      subst hw
      refine W_cs (k := ([] : NN).length) (n := wt []) rfl rfl ?_
      have hD := hD9.weaken (fun _ q _ h => hf9 q.1 h)
      obtain ⟨y24, hy24, hF⟩ := bnd_some hF
      have J24 : ∀ (H : Heap) (locs : List Loc) (ls : Array Slot), va_P D classes (wld ct ad (xt G []) y23.1) H → va_D A (wld ct ad (xt G []) y23.1) → va_S A s.heap H locs → lv_has ls 3 [(2, .int y21.2), (1, va_re ad (M3.2 b4 0)), (0, .ref (ad a))] → W p l e (headSpec wuX1_endPicture ({ frames := 5, cells := y.1.length, slots := wt y.1, locals := 177 })).room s m ([.ref (ad a)] : List Value).toArray below meth c H locs ([] : NN).length (wt []) (MQ below (va_Qv (fun (u : Nat → Nat) => agr G.1 ad u) (fun u t => kE D ct u (xt G y.1) A y.2 t) A) ([.ref (ad a)] : List Value).toArray s y.1.length (wt y.1) A) (F0 m 135 ls [.int y24, va_re ad (M3.2 b4 0), va_re ad (y21.1.2 a 1)]) := by
        intro H locs ls hP hD hS hl
        refine lv_aload_n hx hb dX1_endPicture_135 rfl (lv_at hl 2 rfl) ?_
        refine va_get (D := D) (ci := 1) (v := va_re ad (y23.1.2 a 12)) (C := RX1) (T := TX1) (N := 22) hx hb hts (mus hf_X1) hown hK hP a (wld_o ct ad (xt G []) y23.1 hc hk (by decide)) rfl 12 (by decide) (hts (.fieldLink RX1 75 "VideoSuite$Decoder" "first" "LVideoSuite$Header;") (mu mw_654)) (fun _ h9 => h9) rfl dX1_endPicture_136 ?_
        obtain ⟨b25, ho25, hc25, hk25, hF⟩ := dr_some hF
        refine W_st (st' := [.ref (ad b25), .int y24, va_re ad (M3.2 b4 0), va_re ad (y21.1.2 a 1)]) (by rw [va_some ho25]) ?_
        obtain ⟨y26, hy26, hF⟩ := bnd_some hF
        have hf9 := wA_in hD hA9 hS
        refine va_calli (va_runV (As := []) (rest := [.int y24, va_re ad (M3.2 b4 0), va_re ad (y21.1.2 a 1)]) ⟨hx, hb, hml, hown, hts⟩ (kX3_isOwn l D ct ad Z (xt G []) y23.1 H.size b25 y26 hc25 hk25 hy26) (cwV 0 hts gX1_endPicture_X3_isOwn rfl rfl rfl (by decide +kernel) ⟨Nat.le_of_ble_eq_true rfl, Nat.le_of_ble_eq_true rfl⟩) ⟨fun a U g mk q => by obtain ⟨q0, q1, qP, qK, qD, qZ, qN⟩ := q; exact ⟨q0, q1, qP, va_K.moved (u := U) (U := U.calling g mk a) (Vm.Alike.refl U.vm) qK, qD, sF.moved (u := U) (U := U.calling g mk a) (Vm.Alike.refl U.vm) qZ, nF.same rfl qN⟩, va_recv hK hP (ci := 3) (q0 := b25) rfl (wld_o ct ad (xt G []) y23.1 hc25 hk25 (by decide)), fun U hU hW => ⟨rfl, by rw [hU], by rw [hU]; exact hP, va_K.moved hW.alike hK, hD.weaken (fun _ _ _ _ => trivial), by rw [hU]; exact ((hZ.kept hS.2.1).narrow hf9).moved hW.alike, hN.warm hW⟩⟩ rfl rfl hl.1 rfl (lv_room (by simp only [List.map, va_re_cat]; exact Nat.le_of_ble_eq_true rfl)) dX1_endPicture_139 (room_d hT hbl)) hS (fun q _ h => hf9 q h) hf9 (fun r u t H locs ht hvm hw hB hz1 hk1 hS => ?_)
        obtain ⟨hP, hK9, hD9⟩ := hB
        rw [ht] at hP
        try dsimp only at hw
        subst hw
        refine W_cs (k := ([] : NN).length) (n := wt []) rfl rfl ?_
        have hD := hD9.weaken (fun _ q _ h => hf9 q.1 h)
        obtain ⟨y27, hy27, hF⟩ := bnd_some hF
        have J27 : ∀ (H : Heap) (locs : List Loc) (ls : Array Slot), va_P D classes (wld ct ad (xt G []) y26.1) H → va_D A (wld ct ad (xt G []) y26.1) → va_S A s.heap H locs → lv_has ls 3 [(2, .int y21.2), (1, va_re ad (M3.2 b4 0)), (0, .ref (ad a))] → W p l e (headSpec wuX1_endPicture ({ frames := 5, cells := y.1.length, slots := wt y.1, locals := 177 })).room s m ([.ref (ad a)] : List Value).toArray below meth c H locs ([] : NN).length (wt []) (MQ below (va_Qv (fun (u : Nat → Nat) => agr G.1 ad u) (fun u t => kE D ct u (xt G y.1) A y.2 t) A) ([.ref (ad a)] : List Value).toArray s y.1.length (wt y.1) A) (F0 m 164 ls [.int y27, .int y24, va_re ad (M3.2 b4 0), va_re ad (y21.1.2 a 1)]) := by
          intro H locs ls hP hD hS hl
          obtain ⟨b28, ho28, hc28, hk28, hF⟩ := dr_some hF
          refine W_st (st' := [.int y27, .int y24, va_re ad (M3.2 b4 0), .ref (ad b28)]) (by rw [va_some ho28]) ?_
          obtain ⟨y29, hy29, hF⟩ := bnd_some hF
          obtain ⟨w30, hF, ew30⟩ := app_some hF
          obtain ⟨L31, eL31, hF⟩ := ltt_some hF
          have hT31 : y.1 = ([] ++ y29.1) ++ w30.1 := by rw [hT, ew30]; simp only [List.append_assoc]
          have hf9 := wA_in hD hA9 hS
          refine va_callv (va_runV (As := [va_re ad (M3.2 b4 0), .int y24, .int y27]) (rest := []) ⟨hx, hb, hml, hown, hts⟩ (kX7_putAway l D ct ad Z (xt G []) y26.1 _ b28 ((M3.2 b4 0)) y24 y27 y29 hc28 hk28 hy29) (cwV 3 hts gX1_endPicture_X7_putAway rfl rfl rfl (by decide +kernel) ⟨Nat.le_of_ble_eq_true rfl, Nat.le_of_ble_eq_true rfl⟩) ⟨fun a U g mk q => by obtain ⟨q0, q1, qP, qK, qD, qZ, qN⟩ := q; exact ⟨q0, q1, qP, va_K.moved (u := U) (U := U.calling g mk a) (Vm.Alike.refl U.vm) qK, qD, sF.moved (u := U) (U := U.calling g mk a) (Vm.Alike.refl U.vm) qZ, nF.same rfl qN⟩, va_recv hK hP (ci := 7) (q0 := b28) rfl (wld_o ct ad (xt G []) y26.1 hc28 hk28 (by decide)), fun U hU hW => ⟨rfl, by rw [hU], by rw [hU]; exact hP, va_K.moved hW.alike hK, hD.weaken (fun _ _ _ _ => trivial), by rw [hU]; exact ((hZ.kept hS.2.1).narrow hf9).moved hW.alike, hN.warm hW⟩⟩ rfl rfl hl.1 rfl (lv_room (Nat.le_of_ble_eq_true rfl)) dX1_endPicture_164 (room_s hT31 hbl)) hS (fun q _ h => hf9 q h) hf9 (fun ad32 t H locs ht hvm hw hB hz1 hk1 hS => ?_)
          have hn33 := hw
          obtain ⟨hP, hK9, hD9⟩ := hB
          rw [ht] at hP
          have hD := hD9.weaken (fun _ q _ h => hf9 q.1 h)
          rw [xt_xt, ← eL31] at hP hD
          refine W_cs (k := L31.length) (n := wt L31) (by rw [eL31]; exact (len_s [] y29.1).symm) (by rw [eL31]; exact (wt_app [] y29.1).symm) ?_
          have hT : y.1 = L31 ++ w30.1 := by rw [hT31, eL31]
          have h2 : y.2 = w30.2 := by rw [h2, ew30]
          have hl := lv_sub (l' := []) hl [] rfl
          have hk : (xt G L31).2.1 a = 1 := by rw [eL31]; exact xt_k _ hc hk
          have hc : a < (xt G L31).1 := by rw [eL31]; exact xt_l _ hc
          have hk4 : (xt G L31).2.1 b4 = 9 := by rw [eL31]; exact xt_k _ hc4 hk4
          have hc4 : b4 < (xt G L31).1 := by rw [eL31]; exact xt_l _ hc4
          have hk5 : (xt G L31).2.1 b5 = 7 := by rw [eL31]; exact xt_k _ hc5 hk5
          have hc5 : b5 < (xt G L31).1 := by rw [eL31]; exact xt_l _ hc5
          have hk7 : (xt G L31).2.1 b7 = 2 := by rw [eL31]; exact xt_k _ hc7 hk7
          have hc7 : b7 < (xt G L31).1 := by rw [eL31]; exact xt_l _ hc7
          have hk9 : (xt G L31).2.1 b9 = 4 := by rw [eL31]; exact xt_k _ hc9 hk9
          have hc9 : b9 < (xt G L31).1 := by rw [eL31]; exact xt_l _ hc9
          have hk18 : (xt G L31).2.1 b18 = 2 := by rw [eL31]; exact xt_k _ hc18 hk18
          have hc18 : b18 < (xt G L31).1 := by rw [eL31]; exact xt_l _ hc18
          have hk20 : (xt G L31).2.1 b20 = 7 := by rw [eL31]; exact xt_k _ hc20 hk20
          have hc20 : b20 < (xt G L31).1 := by rw [eL31]; exact xt_l _ hc20
          have hk22 : (xt G L31).2.1 b22 = 3 := by rw [eL31]; exact xt_k _ hc22 hk22
          have hc22 : b22 < (xt G L31).1 := by rw [eL31]; exact xt_l _ hc22
          have hk25 : (xt G L31).2.1 b25 = 3 := by rw [eL31]; exact xt_k _ hc25 hk25
          have hc25 : b25 < (xt G L31).1 := by rw [eL31]; exact xt_l _ hc25
          have hk28 : (xt G L31).2.1 b28 = 7 := by rw [eL31]; exact xt_k _ hc28 hk28
          have hc28 : b28 < (xt G L31).1 := by rw [eL31]; exact xt_l _ hc28
          have hag := agr_t (xt_ge _ _) hag hn33
          obtain rfl := Option.some.inj hF
          have e1 : y.1 = L31 := by rw [hT]; exact List.append_nil _
          have e2 : y.2 = y29.2 := h2
          refine W.widen (k := y.1.length) (n := wt y.1) (Nat.le_of_eq (by rw [e1])) (Nat.le_of_eq (by rw [e1])) ?_
          exact W.vret hx hb hr (fun t ht hW => ⟨⟨ad32, rfl, hag, (by unfold kE; rw [e1, e2]; exact ⟨by rw [ht]; exact hP, va_K.moved hW.alike hK, hD⟩)⟩, hS.F ht⟩) hS.2.2 dX1_endPicture_167
        clear hF
        have hF := hy27
        clear hy27
        refine lv_if_eq (tgt := 163) hx hb dX1_endPicture_142 (by decide) (fun c34 => ?_) (fun c34 => ?_)
        · rw [if_pos c34] at hF
          refine lv_iconst (v := (0 : Int32)) hx hb dX1_endPicture_163 (by decide) ?_
          obtain rfl := Option.some.inj hF
          exact J27 _ _ _ hP hD hS (lv_sub hl [0, 1, 2] rfl)
        · rw [if_neg c34] at hF
          refine lv_aload_n hx hb dX1_endPicture_145 rfl (lv_at hl 2 rfl) ?_
          refine va_get (D := D) (ci := 1) (v := va_re ad (y26.1.2 a 12)) (C := RX1) (T := TX1) (N := 22) hx hb hts (mus hf_X1) hown hK hP a (wld_o ct ad (xt G []) y26.1 hc hk (by decide)) rfl 12 (by decide) (hts (.fieldLink RX1 75 "VideoSuite$Decoder" "first" "LVideoSuite$Header;") (mu mw_654)) (fun _ h9 => h9) rfl dX1_endPicture_146 ?_
          obtain ⟨b35, ho35, hc35, hk35, hF⟩ := dr_some hF
          refine W_st (st' := [.ref (ad b35), .int y24, va_re ad (M3.2 b4 0), va_re ad (y21.1.2 a 1)]) (by rw [va_some ho35]) ?_
          refine va_get (D := D) (ci := 3) (v := va_re ad (y26.1.2 b35 0)) (C := RX3) (T := TX3) (N := 4) hx hb hts (mus hf_X3) hown hK hP b35 (wld_o ct ad (xt G []) y26.1 hc35 hk35 (by decide)) rfl 0 (by decide) (hts (.fieldLink RX1 212 "VideoSuite$Header" "v" "[I") (mu mw_618)) (fun _ h9 => h9) rfl dX1_endPicture_149 ?_
          refine lv_bipush (v := (19 : Int32)) hx hb dX1_endPicture_152 (by decide) ?_
          obtain ⟨b36, ho36, hc36, hk36, hF⟩ := dr_some hF
          refine W_st (st' := [.int (19 : Int32), .ref (ad b36), .int y24, va_re ad (M3.2 b4 0), va_re ad (y21.1.2 a 1)]) (by rw [va_some ho36]) ?_
          obtain ⟨hvc, hF⟩ := chk_some hF
          refine va_iald hx hb hK hP b36 1 (wld_i ct ad (xt G []) y26.1 hc36 hk36) rfl hvc dX1_endPicture_154 ?_
          obtain ⟨x37, ex37, hF⟩ := ltt_some hF
          refine lv_topi (fun zx37 ezx37 => ?_)
          obtain rfl : x37 = zx37 := ex37.trans ezx37.symm
          refine lv_iconst (v := (1 : Int32)) hx hb dX1_endPicture_155 (by decide) ?_
          obtain ⟨y38, hy38, hF⟩ := bnd_some hF
          have J38 : ∀ (H : Heap) (locs : List Loc) (ls : Array Slot), va_P D classes (wld ct ad (xt G []) y26.1) H → va_D A (wld ct ad (xt G []) y26.1) → va_S A s.heap H locs → lv_has ls 3 [(2, .int y21.2), (1, va_re ad (M3.2 b4 0)), (0, .ref (ad a))] → W p l e (headSpec wuX1_endPicture ({ frames := 5, cells := y.1.length, slots := wt y.1, locals := 177 })).room s m ([.ref (ad a)] : List Value).toArray below meth c H locs ([] : NN).length (wt []) (MQ below (va_Qv (fun (u : Nat → Nat) => agr G.1 ad u) (fun u t => kE D ct u (xt G y.1) A y.2 t) A) ([.ref (ad a)] : List Value).toArray s y.1.length (wt y.1) A) (F0 m 164 ls [.int y38, .int y24, va_re ad (M3.2 b4 0), va_re ad (y21.1.2 a 1)]) := by
            intro H locs ls hP hD hS hl
            obtain rfl := Option.some.inj hF
            exact J27 _ _ _ hP hD hS (lv_sub hl [0, 1, 2] rfl)
          clear hF
          have hF := hy38
          clear hy38
          refine lv_icmp_ne (tgt := 163) hx hb dX1_endPicture_156 (by decide) (fun c39 => ?_) (fun c39 => ?_)
          · rw [if_neg c39] at hF
            refine lv_iconst (v := (0 : Int32)) hx hb dX1_endPicture_163 (by decide) ?_
            obtain rfl := Option.some.inj hF
            exact J38 _ _ _ hP hD hS (lv_sub hl [0, 1, 2] rfl)
          · rw [if_pos c39] at hF
            refine lv_iconst (v := (1 : Int32)) hx hb dX1_endPicture_159 (by decide) ?_
            refine lv_goto (tgt := 164) hx hb dX1_endPicture_160 (by decide) ?_
            obtain rfl := Option.some.inj hF
            exact J38 _ _ _ hP hD hS (lv_sub hl [0, 1, 2] rfl)
      clear hF
      have hF := hy24
      clear hy24
      refine lv_if_ne (tgt := 130) hx hb dX1_endPicture_123 (by decide) (fun c40 => ?_) (fun c40 => ?_)
      · rw [if_neg c40] at hF
        refine lv_iconst (v := (1 : Int32)) hx hb dX1_endPicture_130 (by decide) ?_
        refine lv_goto (tgt := 135) hx hb dX1_endPicture_131 (by decide) ?_
        obtain rfl := Option.some.inj hF
        exact J24 _ _ _ hP hD hS (lv_sub hl [0, 1, 2] rfl)
      · rw [if_pos c40] at hF
        refine lv_iload_n hx hb dX1_endPicture_126 rfl (lv_at hl 0 rfl) ?_
        obtain ⟨y41, hy41, hF⟩ := bnd_some hF
        have J41 : ∀ (H : Heap) (locs : List Loc) (ls : Array Slot), va_P D classes (wld ct ad (xt G []) y23.1) H → va_D A (wld ct ad (xt G []) y23.1) → va_S A s.heap H locs → lv_has ls 3 [(2, .int y21.2), (1, va_re ad (M3.2 b4 0)), (0, .ref (ad a))] → W p l e (headSpec wuX1_endPicture ({ frames := 5, cells := y.1.length, slots := wt y.1, locals := 177 })).room s m ([.ref (ad a)] : List Value).toArray below meth c H locs ([] : NN).length (wt []) (MQ below (va_Qv (fun (u : Nat → Nat) => agr G.1 ad u) (fun u t => kE D ct u (xt G y.1) A y.2 t) A) ([.ref (ad a)] : List Value).toArray s y.1.length (wt y.1) A) (F0 m 135 ls [.int y41, va_re ad (M3.2 b4 0), va_re ad (y21.1.2 a 1)]) := by
          intro H locs ls hP hD hS hl
          obtain rfl := Option.some.inj hF
          exact J24 _ _ _ hP hD hS (lv_sub hl [0, 1, 2] rfl)
        clear hF
        have hF := hy41
        clear hy41
        refine lv_if_eq (tgt := 134) hx hb dX1_endPicture_127 (by decide) (fun c42 => ?_) (fun c42 => ?_)
        · rw [if_pos c42] at hF
          refine lv_iconst (v := (0 : Int32)) hx hb dX1_endPicture_134 (by decide) ?_
          obtain rfl := Option.some.inj hF
          exact J41 _ _ _ hP hD hS (lv_sub hl [0, 1, 2] rfl)
        · rw [if_neg c42] at hF
          refine lv_iconst (v := (1 : Int32)) hx hb dX1_endPicture_130 (by decide) ?_
          refine lv_goto (tgt := 135) hx hb dX1_endPicture_131 (by decide) ?_
          obtain rfl := Option.some.inj hF
          exact J41 _ _ _ hP hD hS (lv_sub hl [0, 1, 2] rfl)
    clear hF
    have hF := hy16
    clear hy16
    refine lv_if_eq (tgt := 79) hx hb dX1_endPicture_65 (by decide) (fun c43 => ?_) (fun c43 => ?_)
    · rw [if_pos c43] at hF
      refine lv_iconst (v := (0 : Int32)) hx hb dX1_endPicture_79 (by decide) ?_
      obtain rfl := Option.some.inj hF
      exact J16 _ _ _ hP hD hS (lv_sub hl [0, 1] rfl)
    · rw [if_neg c43] at hF
      refine lv_aloadq_n hx hb dX1_endPicture_68 rfl (lv_at hl 0 rfl) ?_
      refine W_st (st' := [.ref (ad b9), .ref (ad b9)]) (by rw [va_some ho9]) ?_
      refine va_get (D := D) (ci := 4) (v := .int (M14.1 b9 17)) (C := RX4) (T := TX4) (N := 18) hx hb hts (mus hf_X4) hown hK hP b9 (wld_o ct ad (xt G []) M14 hc9 hk9 (by decide)) rfl 17 (by decide) (hts (.fieldLink RX1 541 "VideoSuite$Picture" "mended" "I") (mu mw_1480)) (fun _ h9 => h9) rfl dX1_endPicture_69 ?_
      obtain ⟨x44, ex44, hF⟩ := ltt_some hF
      refine lv_topi (fun zx44 ezx44 => ?_)
      obtain rfl : x44 = zx44 := ex44.trans ezx44.symm
      obtain ⟨y45, hy45, hF⟩ := bnd_some hF
      have J45 : ∀ (H : Heap) (locs : List Loc) (ls : Array Slot), va_P D classes (wld ct ad (xt G []) M14) H → va_D A (wld ct ad (xt G []) M14) → va_S A s.heap H locs → lv_has ls 3 [(1, va_re ad (M3.2 b4 0)), (0, .ref (ad a))] → W p l e (headSpec wuX1_endPicture ({ frames := 5, cells := y.1.length, slots := wt y.1, locals := 177 })).room s m ([.ref (ad a)] : List Value).toArray below meth c H locs ([] : NN).length (wt []) (MQ below (va_Qv (fun (u : Nat → Nat) => agr G.1 ad u) (fun u t => kE D ct u (xt G y.1) A y.2 t) A) ([.ref (ad a)] : List Value).toArray s y.1.length (wt y.1) A) (F0 m 80 ls [.int y45, .ref (ad b9)]) := by
        intro H locs ls hP hD hS hl
        obtain rfl := Option.some.inj hF
        exact J16 _ _ _ hP hD hS (lv_sub hl [0, 1] rfl)
      clear hF
      have hF := hy45
      clear hy45
      refine lv_if_ne (tgt := 79) hx hb dX1_endPicture_72 (by decide) (fun c46 => ?_) (fun c46 => ?_)
      · rw [if_neg c46] at hF
        refine lv_iconst (v := (0 : Int32)) hx hb dX1_endPicture_79 (by decide) ?_
        obtain rfl := Option.some.inj hF
        exact J45 _ _ _ hP hD hS (lv_sub hl [0, 1] rfl)
      · rw [if_pos c46] at hF
        refine lv_iconst (v := (1 : Int32)) hx hb dX1_endPicture_75 (by decide) ?_
        refine lv_goto (tgt := 80) hx hb dX1_endPicture_76 (by decide) ?_
        obtain rfl := Option.some.inj hF
        exact J45 _ _ _ hP hD hS (lv_sub hl [0, 1] rfl)
  · rw [if_pos c2] at hF
    obtain rfl := Option.some.inj hF
    have e1 : y.1 = [] := by rw [hT]; exact List.append_nil _
    have e2 : y.2 = M := h2
    refine W.widen (k := y.1.length) (n := wt y.1) (Nat.le_of_eq (by rw [e1])) (Nat.le_of_eq (by rw [e1])) ?_
    exact W.vret hx hb hr (fun t ht hW => ⟨⟨ad, rfl, hag, (by unfold kE; rw [e1, e2]; exact ⟨by rw [ht]; exact hP, va_K.moved hW.alike hK, hD⟩)⟩, hS.F ht⟩) hS.2.2 dX1_endPicture_7
set_option maxRecDepth 20000 in
theorem gX1_readData_X4_blocks : GoodIn wuX1_readData (wsV RX1 304 RX4 yX4_blocks wuX4_blocks) := gu_V mw_1803 mw_911 mw_912 mw_185 mw_913
set_option maxRecDepth 20000 in
set_option maxRecDepth 20000 in
theorem gX1_readData_X1_claim : GoodIn wuX1_readData (wsV RX1 334 RX1 yX1_claim wuX1_claim) := gu_V mw_1866 mw_1868 mw_53 mw_168 mw_1869
set_option maxRecDepth 20000 in
set_option maxRecDepth 20000 in
theorem gX1_readData_X1_rebuild : GoodIn wuX1_readData (wsV RX1 340 RX1 yX1_rebuild wuX1_rebuild) := gu_V mw_1973 mw_1975 mw_66 mw_168 mw_1976
set_option maxRecDepth 20000 in
set_option maxRecDepth 20000 in
theorem gX1_readData_X1_endBlock : GoodIn wuX1_readData (wsV RX1 343 RX1 yX1_endBlock wuX1_endBlock) := gu_V mw_2147 mw_2149 mw_91 mw_168 mw_2150
set_option maxRecDepth 20000 in
set_option maxRecDepth 20000 in
theorem gX1_readData_X5_more : GoodIn wuX1_readData (wsV RX1 346 RX5 yX5_more wuX5_more) := gu_V mw_2155 mw_2156 mw_2157 mw_169 mw_2158
set_option maxRecDepth 20000 in
set_option maxRecDepth 20000 in
theorem gX1_readData_X5_isLast : GoodIn wuX1_readData (wsV RX1 376 RX5 yX5_isLast wuX5_isLast) := gu_V mw_2268 mw_2206 mw_2207 mw_169 mw_2208
set_option maxRecDepth 20000 in
theorem gX1_readData_X1_readBlock : GoodIn wuX1_readData (wsV RX1 352 RX1 yX1_readBlock wuX1_readBlock) := gu_V mw_2160 mw_2162 mw_92 mw_168 mw_2163
set_option maxRecDepth 20000 in
set_option maxRecDepth 20000 in
theorem gX1_readData_X1_readReferences : GoodIn wuX1_readData (wsV RX1 364 RX1 yX1_readReferences wuX1_readReferences) := gu_V mw_2215 mw_2217 mw_99 mw_168 mw_2218
set_option maxRecDepth 20000 in
set_option maxRecDepth 20000 in
theorem gX1_readData_X1_readVectors : GoodIn wuX1_readData (wsV RX1 367 RX1 yX1_readVectors wuX1_readVectors) := gu_V mw_2220 mw_2222 mw_100 mw_168 mw_2223
set_option maxRecDepth 20000 in
set_option maxRecDepth 20000 in
theorem gX1_readData_X1_readPattern : GoodIn wuX1_readData (wsV RX1 370 RX1 yX1_readPattern wuX1_readPattern) := gu_V mw_2229 mw_2231 mw_101 mw_168 mw_2232
set_option maxRecDepth 20000 in
set_option maxRecDepth 20000 in
theorem gX1_readData_X1_readLevels : GoodIn wuX1_readData (wsV RX1 373 RX1 yX1_readLevels wuX1_readLevels) := gu_V mw_2238 mw_2240 mw_102 mw_168 mw_2241
set_option maxRecDepth 20000 in
set_option maxRecDepth 20000 in
theorem gX1_readData_X5_rawSamples : GoodIn wuX1_readData (wsV RX1 361 RX5 yX5_rawSamples wuX5_rawSamples) := gu_V mw_2201 mw_2202 mw_2203 mw_169 mw_2204
set_option maxRecDepth 20000 in
set_option maxRecDepth 20000 in
theorem gX1_readData_X5_bit : GoodIn wuX1_readData (wsV RX1 349 RX5 yX5_bit wuX5_bit) := gu_V mw_2159 mw_1332 mw_1333 mw_169 mw_1334
set_option maxRecDepth 20000 in
set_option maxRecDepth 20000 in
theorem gX1_readData_X1_readSkipped : GoodIn wuX1_readData (wsV RX1 337 RX1 yX1_readSkipped wuX1_readSkipped) := gu_V mw_1870 mw_1872 mw_54 mw_168 mw_1873
set_option maxRecDepth 20000 in
set_option maxRecDepth 20000 in
theorem gX1_readData_X5_number : GoodIn wuX1_readData (wsV RX1 179 RX5 yX5_number wuX5_number) := gu_V mw_1327 mw_1328 mw_1329 mw_169 mw_1330
set_option maxRecDepth 20000 in
set_option maxRecDepth 20000 in
theorem gX1_readData_X5_beginData : GoodIn wuX1_readData (wsV RX1 331 RX5 yX5_beginData wuX5_beginData) := gu_V mw_1853 mw_1854 mw_1855 mw_169 mw_1856
set_option maxRecDepth 20000 in
theorem dX1_readData_0 : decode cX1_readData 0 = .ok (.aload_n 0, 1) := by decide +kernel
theorem dX1_readData_1 : decode cX1_readData 1 = .ok (.getfield 72, 3) := by decide +kernel
theorem dX1_readData_4 : decode cX1_readData 4 = .ok (.getfield 212, 3) := by decide +kernel
theorem dX1_readData_7 : decode cX1_readData 7 = .ok (.astore_n 1, 1) := by decide +kernel
theorem dX1_readData_8 : decode cX1_readData 8 = .ok (.aload_n 1, 1) := by decide +kernel
theorem dX1_readData_9 : decode cX1_readData 9 = .ok (.iconst 1, 1) := by decide +kernel
theorem dX1_readData_10 : decode cX1_readData 10 = .ok (.iaload, 1) := by decide +kernel
theorem dX1_readData_11 : decode cX1_readData 11 = .ok (.iconst 2, 1) := by decide +kernel
theorem dX1_readData_12 : decode cX1_readData 12 = .ok (.if_icmp .ne 7, 3) := by decide +kernel
theorem dX1_readData_15 : decode cX1_readData 15 = .ok (.iconst 1, 1) := by decide +kernel
theorem dX1_readData_16 : decode cX1_readData 16 = .ok (.goto 4, 3) := by decide +kernel
theorem dX1_readData_19 : decode cX1_readData 19 = .ok (.iconst 0, 1) := by decide +kernel
theorem dX1_readData_20 : decode cX1_readData 20 = .ok (.istore_n 2, 1) := by decide +kernel
theorem dX1_readData_21 : decode cX1_readData 21 = .ok (.aload_n 0, 1) := by decide +kernel
theorem dX1_readData_22 : decode cX1_readData 22 = .ok (.getfield 28, 3) := by decide +kernel
theorem dX1_readData_25 : decode cX1_readData 25 = .ok (.getfield 308, 3) := by decide +kernel
theorem dX1_readData_28 : decode cX1_readData 28 = .ok (.iconst 1, 1) := by decide +kernel
theorem dX1_readData_29 : decode cX1_readData 29 = .ok (.iaload, 1) := by decide +kernel
theorem dX1_readData_30 : decode cX1_readData 30 = .ok (.iconst 1, 1) := by decide +kernel
theorem dX1_readData_31 : decode cX1_readData 31 = .ok (.if_icmp .ne 7, 3) := by decide +kernel
theorem dX1_readData_34 : decode cX1_readData 34 = .ok (.iconst 1, 1) := by decide +kernel
theorem dX1_readData_35 : decode cX1_readData 35 = .ok (.goto 4, 3) := by decide +kernel
theorem dX1_readData_38 : decode cX1_readData 38 = .ok (.iconst 0, 1) := by decide +kernel
theorem dX1_readData_39 : decode cX1_readData 39 = .ok (.istore_n 3, 1) := by decide +kernel
theorem dX1_readData_40 : decode cX1_readData 40 = .ok (.aload_n 0, 1) := by decide +kernel
theorem dX1_readData_41 : decode cX1_readData 41 = .ok (.getfield 28, 3) := by decide +kernel
theorem dX1_readData_44 : decode cX1_readData 44 = .ok (.getfield 84, 3) := by decide +kernel
theorem dX1_readData_47 : decode cX1_readData 47 = .ok (.invokevirtual 304, 3) := by decide +kernel
theorem dX1_readData_50 : decode cX1_readData 50 = .ok (.istore 4, 2) := by decide +kernel
theorem dX1_readData_52 : decode cX1_readData 52 = .ok (.aload_n 1, 1) := by decide +kernel
theorem dX1_readData_53 : decode cX1_readData 53 = .ok (.iconst 0, 1) := by decide +kernel
theorem dX1_readData_54 : decode cX1_readData 54 = .ok (.iaload, 1) := by decide +kernel
theorem dX1_readData_55 : decode cX1_readData 55 = .ok (.istore 5, 2) := by decide +kernel
theorem dX1_readData_57 : decode cX1_readData 57 = .ok (.aload_n 0, 1) := by decide +kernel
theorem dX1_readData_58 : decode cX1_readData 58 = .ok (.aload_n 1, 1) := by decide +kernel
theorem dX1_readData_59 : decode cX1_readData 59 = .ok (.bipush 12, 2) := by decide +kernel
theorem dX1_readData_61 : decode cX1_readData 61 = .ok (.iaload, 1) := by decide +kernel
theorem dX1_readData_62 : decode cX1_readData 62 = .ok (.putfield 328, 3) := by decide +kernel
theorem dX1_readData_65 : decode cX1_readData 65 = .ok (.iload_n 3, 1) := by decide +kernel
theorem dX1_readData_66 : decode cX1_readData 66 = .ok (.ifCond .eq 10, 3) := by decide +kernel
theorem dX1_readData_69 : decode cX1_readData 69 = .ok (.aload_n 0, 1) := by decide +kernel
theorem dX1_readData_70 : decode cX1_readData 70 = .ok (.getfield 12, 3) := by decide +kernel
theorem dX1_readData_73 : decode cX1_readData 73 = .ok (.invokevirtual 331, 3) := by decide +kernel
theorem dX1_readData_76 : decode cX1_readData 76 = .ok (.iconst 0, 1) := by decide +kernel
theorem dX1_readData_77 : decode cX1_readData 77 = .ok (.istore 6, 2) := by decide +kernel
theorem dX1_readData_79 : decode cX1_readData 79 = .ok (.iload 6, 2) := by decide +kernel
theorem dX1_readData_81 : decode cX1_readData 81 = .ok (.bipush 32, 2) := by decide +kernel
theorem dX1_readData_83 : decode cX1_readData 83 = .ok (.if_icmp .gt 263, 3) := by decide +kernel
theorem dX1_readData_86 : decode cX1_readData 86 = .ok (.iload_n 3, 1) := by decide +kernel
theorem dX1_readData_87 : decode cX1_readData 87 = .ok (.ifCond .ne 95, 3) := by decide +kernel
theorem dX1_readData_90 : decode cX1_readData 90 = .ok (.iload_n 2, 1) := by decide +kernel
theorem dX1_readData_91 : decode cX1_readData 91 = .ok (.ifCond .ne 91, 3) := by decide +kernel
theorem dX1_readData_94 : decode cX1_readData 94 = .ok (.aload_n 0, 1) := by decide +kernel
theorem dX1_readData_95 : decode cX1_readData 95 = .ok (.getfield 12, 3) := by decide +kernel
theorem dX1_readData_98 : decode cX1_readData 98 = .ok (.iconst 0, 1) := by decide +kernel
theorem dX1_readData_99 : decode cX1_readData 99 = .ok (.iconst 0, 1) := by decide +kernel
theorem dX1_readData_100 : decode cX1_readData 100 = .ok (.lconst 0, 1) := by decide +kernel
theorem dX1_readData_101 : decode cX1_readData 101 = .ok (.iload 5, 2) := by decide +kernel
theorem dX1_readData_103 : decode cX1_readData 103 = .ok (.iload 4, 2) := by decide +kernel
theorem dX1_readData_105 : decode cX1_readData 105 = .ok (.if_icmp .ge 12, 3) := by decide +kernel
theorem dX1_readData_108 : decode cX1_readData 108 = .ok (.iload 4, 2) := by decide +kernel
theorem dX1_readData_110 : decode cX1_readData 110 = .ok (.iload 5, 2) := by decide +kernel
theorem dX1_readData_112 : decode cX1_readData 112 = .ok (.isub, 1) := by decide +kernel
theorem dX1_readData_113 : decode cX1_readData 113 = .ok (.i2l, 1) := by decide +kernel
theorem dX1_readData_114 : decode cX1_readData 114 = .ok (.goto 4, 3) := by decide +kernel
theorem dX1_readData_117 : decode cX1_readData 117 = .ok (.lconst 0, 1) := by decide +kernel
theorem dX1_readData_118 : decode cX1_readData 118 = .ok (.invokevirtual 179, 3) := by decide +kernel
theorem dX1_readData_121 : decode cX1_readData 121 = .ok (.istore 7, 2) := by decide +kernel
theorem dX1_readData_123 : decode cX1_readData 123 = .ok (.iconst 0, 1) := by decide +kernel
theorem dX1_readData_124 : decode cX1_readData 124 = .ok (.istore 8, 2) := by decide +kernel
theorem dX1_readData_126 : decode cX1_readData 126 = .ok (.iload 8, 2) := by decide +kernel
theorem dX1_readData_128 : decode cX1_readData 128 = .ok (.iload 7, 2) := by decide +kernel
theorem dX1_readData_130 : decode cX1_readData 130 = .ok (.if_icmp .ge 36, 3) := by decide +kernel
theorem dX1_readData_133 : decode cX1_readData 133 = .ok (.aload_n 0, 1) := by decide +kernel
theorem dX1_readData_134 : decode cX1_readData 134 = .ok (.iload 5, 2) := by decide +kernel
theorem dX1_readData_136 : decode cX1_readData 136 = .ok (.invokevirtual 334, 3) := by decide +kernel
theorem dX1_readData_139 : decode cX1_readData 139 = .ok (.aload_n 0, 1) := by decide +kernel
theorem dX1_readData_140 : decode cX1_readData 140 = .ok (.iload 5, 2) := by decide +kernel
theorem dX1_readData_142 : decode cX1_readData 142 = .ok (.invokevirtual 337, 3) := by decide +kernel
theorem dX1_readData_145 : decode cX1_readData 145 = .ok (.aload_n 0, 1) := by decide +kernel
theorem dX1_readData_146 : decode cX1_readData 146 = .ok (.iload 5, 2) := by decide +kernel
theorem dX1_readData_148 : decode cX1_readData 148 = .ok (.invokevirtual 340, 3) := by decide +kernel
theorem dX1_readData_151 : decode cX1_readData 151 = .ok (.aload_n 0, 1) := by decide +kernel
theorem dX1_readData_152 : decode cX1_readData 152 = .ok (.iload 5, 2) := by decide +kernel
theorem dX1_readData_154 : decode cX1_readData 154 = .ok (.invokevirtual 343, 3) := by decide +kernel
theorem dX1_readData_157 : decode cX1_readData 157 = .ok (.iinc 5 1, 3) := by decide +kernel
theorem dX1_readData_160 : decode cX1_readData 160 = .ok (.iinc 8 1, 3) := by decide +kernel
theorem dX1_readData_163 : decode cX1_readData 163 = .ok (.goto (-37), 3) := by decide +kernel
theorem dX1_readData_166 : decode cX1_readData 166 = .ok (.iload 7, 2) := by decide +kernel
theorem dX1_readData_168 : decode cX1_readData 168 = .ok (.ifCond .le 14, 3) := by decide +kernel
theorem dX1_readData_171 : decode cX1_readData 171 = .ok (.aload_n 0, 1) := by decide +kernel
theorem dX1_readData_172 : decode cX1_readData 172 = .ok (.getfield 12, 3) := by decide +kernel
theorem dX1_readData_175 : decode cX1_readData 175 = .ok (.invokevirtual 346, 3) := by decide +kernel
theorem dX1_readData_178 : decode cX1_readData 178 = .ok (.ifCond .ne 4, 3) := by decide +kernel
theorem dX1_readData_181 : decode cX1_readData 181 = .ok (.return_, 1) := by decide +kernel
theorem dX1_readData_182 : decode cX1_readData 182 = .ok (.aload_n 0, 1) := by decide +kernel
theorem dX1_readData_183 : decode cX1_readData 183 = .ok (.iload 5, 2) := by decide +kernel
theorem dX1_readData_185 : decode cX1_readData 185 = .ok (.invokevirtual 334, 3) := by decide +kernel
theorem dX1_readData_188 : decode cX1_readData 188 = .ok (.iload_n 3, 1) := by decide +kernel
theorem dX1_readData_189 : decode cX1_readData 189 = .ok (.ifCond .eq 29, 3) := by decide +kernel
theorem dX1_readData_192 : decode cX1_readData 192 = .ok (.iload_n 2, 1) := by decide +kernel
theorem dX1_readData_193 : decode cX1_readData 193 = .ok (.ifCond .ne 25, 3) := by decide +kernel
theorem dX1_readData_196 : decode cX1_readData 196 = .ok (.aload_n 0, 1) := by decide +kernel
theorem dX1_readData_197 : decode cX1_readData 197 = .ok (.getfield 12, 3) := by decide +kernel
theorem dX1_readData_200 : decode cX1_readData 200 = .ok (.iconst 0, 1) := by decide +kernel
theorem dX1_readData_201 : decode cX1_readData 201 = .ok (.iconst 0, 1) := by decide +kernel
theorem dX1_readData_202 : decode cX1_readData 202 = .ok (.invokevirtual 349, 3) := by decide +kernel
theorem dX1_readData_205 : decode cX1_readData 205 = .ok (.iconst 1, 1) := by decide +kernel
theorem dX1_readData_206 : decode cX1_readData 206 = .ok (.if_icmp .ne 12, 3) := by decide +kernel
theorem dX1_readData_209 : decode cX1_readData 209 = .ok (.aload_n 0, 1) := by decide +kernel
theorem dX1_readData_210 : decode cX1_readData 210 = .ok (.iload 5, 2) := by decide +kernel
theorem dX1_readData_212 : decode cX1_readData 212 = .ok (.invokevirtual 337, 3) := by decide +kernel
theorem dX1_readData_215 : decode cX1_readData 215 = .ok (.goto 82, 3) := by decide +kernel
theorem dX1_readData_218 : decode cX1_readData 218 = .ok (.aload_n 0, 1) := by decide +kernel
theorem dX1_readData_219 : decode cX1_readData 219 = .ok (.iload 5, 2) := by decide +kernel
theorem dX1_readData_221 : decode cX1_readData 221 = .ok (.invokevirtual 352, 3) := by decide +kernel
theorem dX1_readData_224 : decode cX1_readData 224 = .ok (.aload_n 0, 1) := by decide +kernel
theorem dX1_readData_225 : decode cX1_readData 225 = .ok (.getfield 28, 3) := by decide +kernel
theorem dX1_readData_228 : decode cX1_readData 228 = .ok (.getfield 355, 3) := by decide +kernel
theorem dX1_readData_231 : decode cX1_readData 231 = .ok (.bipush 8, 2) := by decide +kernel
theorem dX1_readData_233 : decode cX1_readData 233 = .ok (.iload 5, 2) := by decide +kernel
theorem dX1_readData_235 : decode cX1_readData 235 = .ok (.imul, 1) := by decide +kernel
theorem dX1_readData_236 : decode cX1_readData 236 = .ok (.iconst 0, 1) := by decide +kernel
theorem dX1_readData_237 : decode cX1_readData 237 = .ok (.iadd, 1) := by decide +kernel
theorem dX1_readData_238 : decode cX1_readData 238 = .ok (.iaload, 1) := by decide +kernel
theorem dX1_readData_239 : decode cX1_readData 239 = .ok (.iconst 2, 1) := by decide +kernel
theorem dX1_readData_240 : decode cX1_readData 240 = .ok (.if_icmp .ne 17, 3) := by decide +kernel
theorem dX1_readData_243 : decode cX1_readData 243 = .ok (.aload_n 0, 1) := by decide +kernel
theorem dX1_readData_244 : decode cX1_readData 244 = .ok (.getfield 12, 3) := by decide +kernel
theorem dX1_readData_247 : decode cX1_readData 247 = .ok (.aload_n 0, 1) := by decide +kernel
theorem dX1_readData_248 : decode cX1_readData 248 = .ok (.getfield 35, 3) := by decide +kernel
theorem dX1_readData_251 : decode cX1_readData 251 = .ok (.getfield 358, 3) := by decide +kernel
theorem dX1_readData_254 : decode cX1_readData 254 = .ok (.invokevirtual 361, 3) := by decide +kernel
theorem dX1_readData_257 : decode cX1_readData 257 = .ok (.aload_n 0, 1) := by decide +kernel
theorem dX1_readData_258 : decode cX1_readData 258 = .ok (.iload 5, 2) := by decide +kernel
theorem dX1_readData_260 : decode cX1_readData 260 = .ok (.iconst 0, 1) := by decide +kernel
theorem dX1_readData_261 : decode cX1_readData 261 = .ok (.invokevirtual 364, 3) := by decide +kernel
theorem dX1_readData_264 : decode cX1_readData 264 = .ok (.aload_n 0, 1) := by decide +kernel
theorem dX1_readData_265 : decode cX1_readData 265 = .ok (.iload 5, 2) := by decide +kernel
theorem dX1_readData_267 : decode cX1_readData 267 = .ok (.iconst 1, 1) := by decide +kernel
theorem dX1_readData_268 : decode cX1_readData 268 = .ok (.invokevirtual 364, 3) := by decide +kernel
theorem dX1_readData_271 : decode cX1_readData 271 = .ok (.aload_n 0, 1) := by decide +kernel
theorem dX1_readData_272 : decode cX1_readData 272 = .ok (.iload 5, 2) := by decide +kernel
theorem dX1_readData_274 : decode cX1_readData 274 = .ok (.iconst 0, 1) := by decide +kernel
theorem dX1_readData_275 : decode cX1_readData 275 = .ok (.invokevirtual 367, 3) := by decide +kernel
theorem dX1_readData_278 : decode cX1_readData 278 = .ok (.aload_n 0, 1) := by decide +kernel
theorem dX1_readData_279 : decode cX1_readData 279 = .ok (.iload 5, 2) := by decide +kernel
theorem dX1_readData_281 : decode cX1_readData 281 = .ok (.iconst 1, 1) := by decide +kernel
theorem dX1_readData_282 : decode cX1_readData 282 = .ok (.invokevirtual 367, 3) := by decide +kernel
theorem dX1_readData_285 : decode cX1_readData 285 = .ok (.aload_n 0, 1) := by decide +kernel
theorem dX1_readData_286 : decode cX1_readData 286 = .ok (.iload 5, 2) := by decide +kernel
theorem dX1_readData_288 : decode cX1_readData 288 = .ok (.invokevirtual 370, 3) := by decide +kernel
theorem dX1_readData_291 : decode cX1_readData 291 = .ok (.aload_n 0, 1) := by decide +kernel
theorem dX1_readData_292 : decode cX1_readData 292 = .ok (.iload 5, 2) := by decide +kernel
theorem dX1_readData_294 : decode cX1_readData 294 = .ok (.invokevirtual 373, 3) := by decide +kernel
theorem dX1_readData_297 : decode cX1_readData 297 = .ok (.aload_n 0, 1) := by decide +kernel
theorem dX1_readData_298 : decode cX1_readData 298 = .ok (.iload 5, 2) := by decide +kernel
theorem dX1_readData_300 : decode cX1_readData 300 = .ok (.invokevirtual 340, 3) := by decide +kernel
theorem dX1_readData_303 : decode cX1_readData 303 = .ok (.aload_n 0, 1) := by decide +kernel
theorem dX1_readData_304 : decode cX1_readData 304 = .ok (.iload 5, 2) := by decide +kernel
theorem dX1_readData_306 : decode cX1_readData 306 = .ok (.invokevirtual 343, 3) := by decide +kernel
theorem dX1_readData_309 : decode cX1_readData 309 = .ok (.iinc 5 1, 3) := by decide +kernel
theorem dX1_readData_312 : decode cX1_readData 312 = .ok (.iload_n 3, 1) := by decide +kernel
theorem dX1_readData_313 : decode cX1_readData 313 = .ok (.ifCond .eq 16, 3) := by decide +kernel
theorem dX1_readData_316 : decode cX1_readData 316 = .ok (.aload_n 0, 1) := by decide +kernel
theorem dX1_readData_317 : decode cX1_readData 317 = .ok (.getfield 12, 3) := by decide +kernel
theorem dX1_readData_320 : decode cX1_readData 320 = .ok (.invokevirtual 376, 3) := by decide +kernel
theorem dX1_readData_323 : decode cX1_readData 323 = .ok (.ifCond .eq 17, 3) := by decide +kernel
theorem dX1_readData_326 : decode cX1_readData 326 = .ok (.goto 13, 3) := by decide +kernel
theorem dX1_readData_329 : decode cX1_readData 329 = .ok (.aload_n 0, 1) := by decide +kernel
theorem dX1_readData_330 : decode cX1_readData 330 = .ok (.getfield 12, 3) := by decide +kernel
theorem dX1_readData_333 : decode cX1_readData 333 = .ok (.invokevirtual 346, 3) := by decide +kernel
theorem dX1_readData_336 : decode cX1_readData 336 = .ok (.ifCond .ne 4, 3) := by decide +kernel
theorem dX1_readData_339 : decode cX1_readData 339 = .ok (.return_, 1) := by decide +kernel
theorem dX1_readData_340 : decode cX1_readData 340 = .ok (.iinc 6 1, 3) := by decide +kernel
theorem dX1_readData_343 : decode cX1_readData 343 = .ok (.goto (-264), 3) := by decide +kernel
theorem dX1_readData_346 : decode cX1_readData 346 = .ok (.return_, 1) := by decide +kernel
def FX1_readData (G : GG) (M : DD) (a : Nat)  : Option (DD) :=
  dr G 3 ((M.2 a 11)) fun b2 =>
  dr G 13 ((M.2 b2 0)) fun b3 =>
  chk (¬ (((1 : Int32)) < 0 ∨ G.2.2 b3 ≤ ((1 : Int32)).toNatClampNeg)) <|
  ltt (M.1 b3 ((1 : Int32)).toNatClampNeg) fun x4 =>
  bnd (if x4 = ((2 : Int32)) then (some ((1 : Int32))) else
  (some ((0 : Int32)))) fun (y5 : Int32) =>
  dr G 9 ((M.2 a 2)) fun b6 =>
  dr G 13 ((M.2 b6 2)) fun b7 =>
  chk (¬ (((1 : Int32)) < 0 ∨ G.2.2 b7 ≤ ((1 : Int32)).toNatClampNeg)) <|
  ltt (M.1 b7 ((1 : Int32)).toNatClampNeg) fun x8 =>
  bnd (if x8 = ((1 : Int32)) then (some ((1 : Int32))) else
  (some ((0 : Int32)))) fun (y9 : Int32) =>
  dr G 4 ((M.2 b6 0)) fun b10 =>
  bnd (FX4_blocks G M b10) fun y11 =>
  chk (¬ (((0 : Int32)) < 0 ∨ G.2.2 b3 ≤ ((0 : Int32)).toNatClampNeg)) <|
  ltt (y11.1.1 b3 ((0 : Int32)).toNatClampNeg) fun x12 =>
  chk (¬ (((12 : Int32)) < 0 ∨ G.2.2 b3 ≤ ((12 : Int32)).toNatClampNeg)) <|
  ltt (y11.1.1 b3 ((12 : Int32)).toNatClampNeg) fun x13 =>
  ltt (uI y11.1 a 20 x13) fun M14 =>
  bnd (if y9 = ((0 : Int32)) then (some (M14)) else
  (dr G 5 ((M14.2 a 0)) fun b337 =>
  bnd (FX5_beginData G M14 b337) fun y338 =>
  some (y338))) fun (y15 : DD) =>
  bnd (itr (fun (s17 : Int32 × Int32 × DD) => ((if ((32 : Int32)) < s17.2.1 then (some (.inr (.inl (s17.1, s17.2.1, s17.2.2)))) else
  (if y9 = ((0 : Int32)) then (if y5 = ((0 : Int32)) then (bnd (if y11.2 ≤ s17.1 then (some ((0 : Int64))) else
  (ltt ((y11.2 - s17.1)) fun x334 =>
  ltt (x334.toInt64) fun x335 =>
  some (x335))) fun (y169 : Int64) =>
  dr G 5 ((s17.2.2.2 a 0)) fun b170 =>
  bnd (FX5_number G s17.2.2 b170 ((0 : Int32)) ((0 : Int32)) ((0 : Int64)) y169) fun y171 =>
  bnd (itr (fun (s173 : Int32 × Int32 × DD) => ((if y171.2 ≤ s173.2.1 then (some (.inr (s173.1, s173.2.1, s173.2.2))) else
  (bnd (FX1_claim G s173.2.2 a s173.1) fun y327 =>
  bnd (FX1_readSkipped G y327 a s173.1) fun y328 =>
  bnd (FX1_rebuild G y328 a s173.1) fun y329 =>
  bnd (FX1_endBlock G y329 a s173.1) fun y330 =>
  ltt (s173.1 + (1 : Int32)) fun x331 =>
  ltt (s173.2.1 + (1 : Int32)) fun x332 =>
  some (.inl (x331, x332, y330)))) : Option ((Int32 × Int32 × DD) ⊕ (Int32 × Int32 × DD)))) 1000000 (s17.1, (0 : Int32), y171.1)) fun (y172 : Int32 × Int32 × DD) =>
  if y171.2 ≤ ((0 : Int32)) then (bnd (FX1_claim G y172.2.2 a y172.1) fun y176 =>
  bnd (if y9 = ((0 : Int32)) then (bnd (FX1_readBlock G y176 a y172.1) fun y191 =>
  dr G 9 ((y191.2 a 2)) fun b192 =>
  ltt ((((8 : Int32)) * y172.1)) fun x193 =>
  ltt ((x193 + ((0 : Int32)))) fun x194 =>
  dr G 13 ((y191.2 b192 6)) fun b195 =>
  chk (¬ (x194 < 0 ∨ G.2.2 b195 ≤ x194.toNatClampNeg)) <|
  ltt (y191.1 b195 x194.toNatClampNeg) fun x196 =>
  bnd (if x196 = ((2 : Int32)) then (dr G 6 ((y191.2 a 3)) fun b205 =>
  dr G 5 ((y191.2 a 0)) fun b206 =>
  bnd (FX5_rawSamples G y191 b206 ((y191.2 b205 0))) fun y207 =>
  some (y207)) else
  (some (y191))) fun (y197 : DD) =>
  bnd (FX1_readReferences G y197 a y172.1 ((0 : Int32))) fun y198 =>
  bnd (FX1_readReferences G y198 a y172.1 ((1 : Int32))) fun y199 =>
  bnd (FX1_readVectors G y199 a y172.1 ((0 : Int32))) fun y200 =>
  bnd (FX1_readVectors G y200 a y172.1 ((1 : Int32))) fun y201 =>
  bnd (FX1_readPattern G y201 a y172.1) fun y202 =>
  bnd (FX1_readLevels G y202 a y172.1) fun y203 =>
  some (y203)) else
  (bnd (if y5 = ((0 : Int32)) then (dr G 5 ((y176.2 a 0)) fun b227 =>
  bnd (FX5_bit G y176 b227 ((0 : Int32)) ((0 : Int32))) fun y228 =>
  bnd (if y228.2 = ((1 : Int32)) then (bnd (FX1_readSkipped G y228.1 a y172.1) fun y248 =>
  some (y248)) else
  (bnd (FX1_readBlock G y228.1 a y172.1) fun y231 =>
  dr G 9 ((y231.2 a 2)) fun b232 =>
  ltt ((((8 : Int32)) * y172.1)) fun x233 =>
  ltt ((x233 + ((0 : Int32)))) fun x234 =>
  dr G 13 ((y231.2 b232 6)) fun b235 =>
  chk (¬ (x234 < 0 ∨ G.2.2 b235 ≤ x234.toNatClampNeg)) <|
  ltt (y231.1 b235 x234.toNatClampNeg) fun x236 =>
  bnd (if x236 = ((2 : Int32)) then (dr G 6 ((y231.2 a 3)) fun b245 =>
  dr G 5 ((y231.2 a 0)) fun b246 =>
  bnd (FX5_rawSamples G y231 b246 ((y231.2 b245 0))) fun y247 =>
  some (y247)) else
  (some (y231))) fun (y237 : DD) =>
  bnd (FX1_readReferences G y237 a y172.1 ((0 : Int32))) fun y238 =>
  bnd (FX1_readReferences G y238 a y172.1 ((1 : Int32))) fun y239 =>
  bnd (FX1_readVectors G y239 a y172.1 ((0 : Int32))) fun y240 =>
  bnd (FX1_readVectors G y240 a y172.1 ((1 : Int32))) fun y241 =>
  bnd (FX1_readPattern G y241 a y172.1) fun y242 =>
  bnd (FX1_readLevels G y242 a y172.1) fun y243 =>
  some (y243))) fun (y229 : DD) =>
  some (y229)) else
  (bnd (FX1_readBlock G y176 a y172.1) fun y210 =>
  dr G 9 ((y210.2 a 2)) fun b211 =>
  ltt ((((8 : Int32)) * y172.1)) fun x212 =>
  ltt ((x212 + ((0 : Int32)))) fun x213 =>
  dr G 13 ((y210.2 b211 6)) fun b214 =>
  chk (¬ (x213 < 0 ∨ G.2.2 b214 ≤ x213.toNatClampNeg)) <|
  ltt (y210.1 b214 x213.toNatClampNeg) fun x215 =>
  bnd (if x215 = ((2 : Int32)) then (dr G 6 ((y210.2 a 3)) fun b224 =>
  dr G 5 ((y210.2 a 0)) fun b225 =>
  bnd (FX5_rawSamples G y210 b225 ((y210.2 b224 0))) fun y226 =>
  some (y226)) else
  (some (y210))) fun (y216 : DD) =>
  bnd (FX1_readReferences G y216 a y172.1 ((0 : Int32))) fun y217 =>
  bnd (FX1_readReferences G y217 a y172.1 ((1 : Int32))) fun y218 =>
  bnd (FX1_readVectors G y218 a y172.1 ((0 : Int32))) fun y219 =>
  bnd (FX1_readVectors G y219 a y172.1 ((1 : Int32))) fun y220 =>
  bnd (FX1_readPattern G y220 a y172.1) fun y221 =>
  bnd (FX1_readLevels G y221 a y172.1) fun y222 =>
  some (y222))) fun (y208 : DD) =>
  some (y208))) fun (y177 : DD) =>
  bnd (FX1_rebuild G y177 a y172.1) fun y178 =>
  bnd (FX1_endBlock G y178 a y172.1) fun y179 =>
  ltt (y172.1 + (1 : Int32)) fun x180 =>
  if y9 = ((0 : Int32)) then (dr G 5 ((y179.2 a 0)) fun b182 =>
  bnd (FX5_more G y179 b182) fun y183 =>
  if y183.2 = ((0 : Int32)) then (some (.inr (.inr y183.1))) else
  (ltt (s17.2.1 + (1 : Int32)) fun x185 =>
  some (.inl (x180, x185, y183.1)))) else
  (dr G 5 ((y179.2 a 0)) fun b186 =>
  bnd (FX5_isLast G y179 b186) fun y187 =>
  if y187.2 = ((0 : Int32)) then (ltt (s17.2.1 + (1 : Int32)) fun x189 =>
  some (.inl (x180, x189, y187.1))) else
  (some (.inr (.inr y187.1))))) else
  (dr G 5 ((y172.2.2.2 a 0)) fun b249 =>
  bnd (FX5_more G y172.2.2 b249) fun y250 =>
  if y250.2 = ((0 : Int32)) then (some (.inr (.inr y250.1))) else
  (bnd (FX1_claim G y250.1 a y172.1) fun y252 =>
  bnd (if y9 = ((0 : Int32)) then (bnd (FX1_readBlock G y252 a y172.1) fun y267 =>
  dr G 9 ((y267.2 a 2)) fun b268 =>
  ltt ((((8 : Int32)) * y172.1)) fun x269 =>
  ltt ((x269 + ((0 : Int32)))) fun x270 =>
  dr G 13 ((y267.2 b268 6)) fun b271 =>
  chk (¬ (x270 < 0 ∨ G.2.2 b271 ≤ x270.toNatClampNeg)) <|
  ltt (y267.1 b271 x270.toNatClampNeg) fun x272 =>
  bnd (if x272 = ((2 : Int32)) then (dr G 6 ((y267.2 a 3)) fun b281 =>
  dr G 5 ((y267.2 a 0)) fun b282 =>
  bnd (FX5_rawSamples G y267 b282 ((y267.2 b281 0))) fun y283 =>
  some (y283)) else
  (some (y267))) fun (y273 : DD) =>
  bnd (FX1_readReferences G y273 a y172.1 ((0 : Int32))) fun y274 =>
  bnd (FX1_readReferences G y274 a y172.1 ((1 : Int32))) fun y275 =>
  bnd (FX1_readVectors G y275 a y172.1 ((0 : Int32))) fun y276 =>
  bnd (FX1_readVectors G y276 a y172.1 ((1 : Int32))) fun y277 =>
  bnd (FX1_readPattern G y277 a y172.1) fun y278 =>
  bnd (FX1_readLevels G y278 a y172.1) fun y279 =>
  some (y279)) else
  (bnd (if y5 = ((0 : Int32)) then (dr G 5 ((y252.2 a 0)) fun b303 =>
  bnd (FX5_bit G y252 b303 ((0 : Int32)) ((0 : Int32))) fun y304 =>
  bnd (if y304.2 = ((1 : Int32)) then (bnd (FX1_readSkipped G y304.1 a y172.1) fun y324 =>
  some (y324)) else
  (bnd (FX1_readBlock G y304.1 a y172.1) fun y307 =>
  dr G 9 ((y307.2 a 2)) fun b308 =>
  ltt ((((8 : Int32)) * y172.1)) fun x309 =>
  ltt ((x309 + ((0 : Int32)))) fun x310 =>
  dr G 13 ((y307.2 b308 6)) fun b311 =>
  chk (¬ (x310 < 0 ∨ G.2.2 b311 ≤ x310.toNatClampNeg)) <|
  ltt (y307.1 b311 x310.toNatClampNeg) fun x312 =>
  bnd (if x312 = ((2 : Int32)) then (dr G 6 ((y307.2 a 3)) fun b321 =>
  dr G 5 ((y307.2 a 0)) fun b322 =>
  bnd (FX5_rawSamples G y307 b322 ((y307.2 b321 0))) fun y323 =>
  some (y323)) else
  (some (y307))) fun (y313 : DD) =>
  bnd (FX1_readReferences G y313 a y172.1 ((0 : Int32))) fun y314 =>
  bnd (FX1_readReferences G y314 a y172.1 ((1 : Int32))) fun y315 =>
  bnd (FX1_readVectors G y315 a y172.1 ((0 : Int32))) fun y316 =>
  bnd (FX1_readVectors G y316 a y172.1 ((1 : Int32))) fun y317 =>
  bnd (FX1_readPattern G y317 a y172.1) fun y318 =>
  bnd (FX1_readLevels G y318 a y172.1) fun y319 =>
  some (y319))) fun (y305 : DD) =>
  some (y305)) else
  (bnd (FX1_readBlock G y252 a y172.1) fun y286 =>
  dr G 9 ((y286.2 a 2)) fun b287 =>
  ltt ((((8 : Int32)) * y172.1)) fun x288 =>
  ltt ((x288 + ((0 : Int32)))) fun x289 =>
  dr G 13 ((y286.2 b287 6)) fun b290 =>
  chk (¬ (x289 < 0 ∨ G.2.2 b290 ≤ x289.toNatClampNeg)) <|
  ltt (y286.1 b290 x289.toNatClampNeg) fun x291 =>
  bnd (if x291 = ((2 : Int32)) then (dr G 6 ((y286.2 a 3)) fun b300 =>
  dr G 5 ((y286.2 a 0)) fun b301 =>
  bnd (FX5_rawSamples G y286 b301 ((y286.2 b300 0))) fun y302 =>
  some (y302)) else
  (some (y286))) fun (y292 : DD) =>
  bnd (FX1_readReferences G y292 a y172.1 ((0 : Int32))) fun y293 =>
  bnd (FX1_readReferences G y293 a y172.1 ((1 : Int32))) fun y294 =>
  bnd (FX1_readVectors G y294 a y172.1 ((0 : Int32))) fun y295 =>
  bnd (FX1_readVectors G y295 a y172.1 ((1 : Int32))) fun y296 =>
  bnd (FX1_readPattern G y296 a y172.1) fun y297 =>
  bnd (FX1_readLevels G y297 a y172.1) fun y298 =>
  some (y298))) fun (y284 : DD) =>
  some (y284))) fun (y253 : DD) =>
  bnd (FX1_rebuild G y253 a y172.1) fun y254 =>
  bnd (FX1_endBlock G y254 a y172.1) fun y255 =>
  ltt (y172.1 + (1 : Int32)) fun x256 =>
  if y9 = ((0 : Int32)) then (dr G 5 ((y255.2 a 0)) fun b258 =>
  bnd (FX5_more G y255 b258) fun y259 =>
  if y259.2 = ((0 : Int32)) then (some (.inr (.inr y259.1))) else
  (ltt (s17.2.1 + (1 : Int32)) fun x261 =>
  some (.inl (x256, x261, y259.1)))) else
  (dr G 5 ((y255.2 a 0)) fun b262 =>
  bnd (FX5_isLast G y255 b262) fun y263 =>
  if y263.2 = ((0 : Int32)) then (ltt (s17.2.1 + (1 : Int32)) fun x265 =>
  some (.inl (x256, x265, y263.1))) else
  (some (.inr (.inr y263.1))))))) else
  (bnd (FX1_claim G s17.2.2 a s17.1) fun y96 =>
  bnd (if y9 = ((0 : Int32)) then (bnd (FX1_readBlock G y96 a s17.1) fun y111 =>
  dr G 9 ((y111.2 a 2)) fun b112 =>
  ltt ((((8 : Int32)) * s17.1)) fun x113 =>
  ltt ((x113 + ((0 : Int32)))) fun x114 =>
  dr G 13 ((y111.2 b112 6)) fun b115 =>
  chk (¬ (x114 < 0 ∨ G.2.2 b115 ≤ x114.toNatClampNeg)) <|
  ltt (y111.1 b115 x114.toNatClampNeg) fun x116 =>
  bnd (if x116 = ((2 : Int32)) then (dr G 6 ((y111.2 a 3)) fun b125 =>
  dr G 5 ((y111.2 a 0)) fun b126 =>
  bnd (FX5_rawSamples G y111 b126 ((y111.2 b125 0))) fun y127 =>
  some (y127)) else
  (some (y111))) fun (y117 : DD) =>
  bnd (FX1_readReferences G y117 a s17.1 ((0 : Int32))) fun y118 =>
  bnd (FX1_readReferences G y118 a s17.1 ((1 : Int32))) fun y119 =>
  bnd (FX1_readVectors G y119 a s17.1 ((0 : Int32))) fun y120 =>
  bnd (FX1_readVectors G y120 a s17.1 ((1 : Int32))) fun y121 =>
  bnd (FX1_readPattern G y121 a s17.1) fun y122 =>
  bnd (FX1_readLevels G y122 a s17.1) fun y123 =>
  some (y123)) else
  (bnd (if y5 = ((0 : Int32)) then (dr G 5 ((y96.2 a 0)) fun b147 =>
  bnd (FX5_bit G y96 b147 ((0 : Int32)) ((0 : Int32))) fun y148 =>
  bnd (if y148.2 = ((1 : Int32)) then (bnd (FX1_readSkipped G y148.1 a s17.1) fun y168 =>
  some (y168)) else
  (bnd (FX1_readBlock G y148.1 a s17.1) fun y151 =>
  dr G 9 ((y151.2 a 2)) fun b152 =>
  ltt ((((8 : Int32)) * s17.1)) fun x153 =>
  ltt ((x153 + ((0 : Int32)))) fun x154 =>
  dr G 13 ((y151.2 b152 6)) fun b155 =>
  chk (¬ (x154 < 0 ∨ G.2.2 b155 ≤ x154.toNatClampNeg)) <|
  ltt (y151.1 b155 x154.toNatClampNeg) fun x156 =>
  bnd (if x156 = ((2 : Int32)) then (dr G 6 ((y151.2 a 3)) fun b165 =>
  dr G 5 ((y151.2 a 0)) fun b166 =>
  bnd (FX5_rawSamples G y151 b166 ((y151.2 b165 0))) fun y167 =>
  some (y167)) else
  (some (y151))) fun (y157 : DD) =>
  bnd (FX1_readReferences G y157 a s17.1 ((0 : Int32))) fun y158 =>
  bnd (FX1_readReferences G y158 a s17.1 ((1 : Int32))) fun y159 =>
  bnd (FX1_readVectors G y159 a s17.1 ((0 : Int32))) fun y160 =>
  bnd (FX1_readVectors G y160 a s17.1 ((1 : Int32))) fun y161 =>
  bnd (FX1_readPattern G y161 a s17.1) fun y162 =>
  bnd (FX1_readLevels G y162 a s17.1) fun y163 =>
  some (y163))) fun (y149 : DD) =>
  some (y149)) else
  (bnd (FX1_readBlock G y96 a s17.1) fun y130 =>
  dr G 9 ((y130.2 a 2)) fun b131 =>
  ltt ((((8 : Int32)) * s17.1)) fun x132 =>
  ltt ((x132 + ((0 : Int32)))) fun x133 =>
  dr G 13 ((y130.2 b131 6)) fun b134 =>
  chk (¬ (x133 < 0 ∨ G.2.2 b134 ≤ x133.toNatClampNeg)) <|
  ltt (y130.1 b134 x133.toNatClampNeg) fun x135 =>
  bnd (if x135 = ((2 : Int32)) then (dr G 6 ((y130.2 a 3)) fun b144 =>
  dr G 5 ((y130.2 a 0)) fun b145 =>
  bnd (FX5_rawSamples G y130 b145 ((y130.2 b144 0))) fun y146 =>
  some (y146)) else
  (some (y130))) fun (y136 : DD) =>
  bnd (FX1_readReferences G y136 a s17.1 ((0 : Int32))) fun y137 =>
  bnd (FX1_readReferences G y137 a s17.1 ((1 : Int32))) fun y138 =>
  bnd (FX1_readVectors G y138 a s17.1 ((0 : Int32))) fun y139 =>
  bnd (FX1_readVectors G y139 a s17.1 ((1 : Int32))) fun y140 =>
  bnd (FX1_readPattern G y140 a s17.1) fun y141 =>
  bnd (FX1_readLevels G y141 a s17.1) fun y142 =>
  some (y142))) fun (y128 : DD) =>
  some (y128))) fun (y97 : DD) =>
  bnd (FX1_rebuild G y97 a s17.1) fun y98 =>
  bnd (FX1_endBlock G y98 a s17.1) fun y99 =>
  ltt (s17.1 + (1 : Int32)) fun x100 =>
  if y9 = ((0 : Int32)) then (dr G 5 ((y99.2 a 0)) fun b102 =>
  bnd (FX5_more G y99 b102) fun y103 =>
  if y103.2 = ((0 : Int32)) then (some (.inr (.inr y103.1))) else
  (ltt (s17.2.1 + (1 : Int32)) fun x105 =>
  some (.inl (x100, x105, y103.1)))) else
  (dr G 5 ((y99.2 a 0)) fun b106 =>
  bnd (FX5_isLast G y99 b106) fun y107 =>
  if y107.2 = ((0 : Int32)) then (ltt (s17.2.1 + (1 : Int32)) fun x109 =>
  some (.inl (x100, x109, y107.1))) else
  (some (.inr (.inr y107.1)))))) else
  (bnd (FX1_claim G s17.2.2 a s17.1) fun y22 =>
  bnd (if y9 = ((0 : Int32)) then (bnd (FX1_readBlock G y22 a s17.1) fun y37 =>
  dr G 9 ((y37.2 a 2)) fun b38 =>
  ltt ((((8 : Int32)) * s17.1)) fun x39 =>
  ltt ((x39 + ((0 : Int32)))) fun x40 =>
  dr G 13 ((y37.2 b38 6)) fun b41 =>
  chk (¬ (x40 < 0 ∨ G.2.2 b41 ≤ x40.toNatClampNeg)) <|
  ltt (y37.1 b41 x40.toNatClampNeg) fun x42 =>
  bnd (if x42 = ((2 : Int32)) then (dr G 6 ((y37.2 a 3)) fun b51 =>
  dr G 5 ((y37.2 a 0)) fun b52 =>
  bnd (FX5_rawSamples G y37 b52 ((y37.2 b51 0))) fun y53 =>
  some (y53)) else
  (some (y37))) fun (y43 : DD) =>
  bnd (FX1_readReferences G y43 a s17.1 ((0 : Int32))) fun y44 =>
  bnd (FX1_readReferences G y44 a s17.1 ((1 : Int32))) fun y45 =>
  bnd (FX1_readVectors G y45 a s17.1 ((0 : Int32))) fun y46 =>
  bnd (FX1_readVectors G y46 a s17.1 ((1 : Int32))) fun y47 =>
  bnd (FX1_readPattern G y47 a s17.1) fun y48 =>
  bnd (FX1_readLevels G y48 a s17.1) fun y49 =>
  some (y49)) else
  (bnd (if y5 = ((0 : Int32)) then (dr G 5 ((y22.2 a 0)) fun b73 =>
  bnd (FX5_bit G y22 b73 ((0 : Int32)) ((0 : Int32))) fun y74 =>
  bnd (if y74.2 = ((1 : Int32)) then (bnd (FX1_readSkipped G y74.1 a s17.1) fun y94 =>
  some (y94)) else
  (bnd (FX1_readBlock G y74.1 a s17.1) fun y77 =>
  dr G 9 ((y77.2 a 2)) fun b78 =>
  ltt ((((8 : Int32)) * s17.1)) fun x79 =>
  ltt ((x79 + ((0 : Int32)))) fun x80 =>
  dr G 13 ((y77.2 b78 6)) fun b81 =>
  chk (¬ (x80 < 0 ∨ G.2.2 b81 ≤ x80.toNatClampNeg)) <|
  ltt (y77.1 b81 x80.toNatClampNeg) fun x82 =>
  bnd (if x82 = ((2 : Int32)) then (dr G 6 ((y77.2 a 3)) fun b91 =>
  dr G 5 ((y77.2 a 0)) fun b92 =>
  bnd (FX5_rawSamples G y77 b92 ((y77.2 b91 0))) fun y93 =>
  some (y93)) else
  (some (y77))) fun (y83 : DD) =>
  bnd (FX1_readReferences G y83 a s17.1 ((0 : Int32))) fun y84 =>
  bnd (FX1_readReferences G y84 a s17.1 ((1 : Int32))) fun y85 =>
  bnd (FX1_readVectors G y85 a s17.1 ((0 : Int32))) fun y86 =>
  bnd (FX1_readVectors G y86 a s17.1 ((1 : Int32))) fun y87 =>
  bnd (FX1_readPattern G y87 a s17.1) fun y88 =>
  bnd (FX1_readLevels G y88 a s17.1) fun y89 =>
  some (y89))) fun (y75 : DD) =>
  some (y75)) else
  (bnd (FX1_readBlock G y22 a s17.1) fun y56 =>
  dr G 9 ((y56.2 a 2)) fun b57 =>
  ltt ((((8 : Int32)) * s17.1)) fun x58 =>
  ltt ((x58 + ((0 : Int32)))) fun x59 =>
  dr G 13 ((y56.2 b57 6)) fun b60 =>
  chk (¬ (x59 < 0 ∨ G.2.2 b60 ≤ x59.toNatClampNeg)) <|
  ltt (y56.1 b60 x59.toNatClampNeg) fun x61 =>
  bnd (if x61 = ((2 : Int32)) then (dr G 6 ((y56.2 a 3)) fun b70 =>
  dr G 5 ((y56.2 a 0)) fun b71 =>
  bnd (FX5_rawSamples G y56 b71 ((y56.2 b70 0))) fun y72 =>
  some (y72)) else
  (some (y56))) fun (y62 : DD) =>
  bnd (FX1_readReferences G y62 a s17.1 ((0 : Int32))) fun y63 =>
  bnd (FX1_readReferences G y63 a s17.1 ((1 : Int32))) fun y64 =>
  bnd (FX1_readVectors G y64 a s17.1 ((0 : Int32))) fun y65 =>
  bnd (FX1_readVectors G y65 a s17.1 ((1 : Int32))) fun y66 =>
  bnd (FX1_readPattern G y66 a s17.1) fun y67 =>
  bnd (FX1_readLevels G y67 a s17.1) fun y68 =>
  some (y68))) fun (y54 : DD) =>
  some (y54))) fun (y23 : DD) =>
  bnd (FX1_rebuild G y23 a s17.1) fun y24 =>
  bnd (FX1_endBlock G y24 a s17.1) fun y25 =>
  ltt (s17.1 + (1 : Int32)) fun x26 =>
  if y9 = ((0 : Int32)) then (dr G 5 ((y25.2 a 0)) fun b28 =>
  bnd (FX5_more G y25 b28) fun y29 =>
  if y29.2 = ((0 : Int32)) then (some (.inr (.inr y29.1))) else
  (ltt (s17.2.1 + (1 : Int32)) fun x31 =>
  some (.inl (x26, x31, y29.1)))) else
  (dr G 5 ((y25.2 a 0)) fun b32 =>
  bnd (FX5_isLast G y25 b32) fun y33 =>
  if y33.2 = ((0 : Int32)) then (ltt (s17.2.1 + (1 : Int32)) fun x35 =>
  some (.inl (x26, x35, y33.1))) else
  (some (.inr (.inr y33.1))))))) : Option ((Int32 × Int32 × DD) ⊕ ((Int32 × Int32 × DD) ⊕ (DD))))) 1000000 (x12, (0 : Int32), y15)) fun (y16 : (Int32 × Int32 × DD) ⊕ (DD)) =>
  sel y16 (fun (z16k : Int32 × Int32 × DD) =>
  some z16k.2.2) fun r9 => some r9
set_option maxHeartbeats 4000000 in
set_option maxRecDepth 100000 in
theorem kX1_readData (l : Launch) (D : va_G) (ct : CT) (ad : Nat → Nat) (Z : Nat → Nat) (G : GG) (M : DD) (sz : Nat) (a : Nat)  (y : DD) (hc : a < G.1) (hk : G.2.1 a = 1) (hF : FX1_readData G M a  = some y) : Met l yX1_readData wuX1_readData ({ frames := 6, cells := 0, slots := 0, locals := 166 }) (va_Pc [.ref (ad a)] (kB D ct ad Z G M sz)) (va_Qv (fun (_ : Unit) => True) (fun _ t => kE D ct ad G (wA ad G sz) y t) (wA ad G sz)) 0 0 (wA ad G sz) := by
  refine Met.ofW (cc := cX1_readData) (maxL := 9) (ret := none) (by decide) rfl ?_
  intro p e s m args below meth c s₁ B hml hv
  obtain ⟨rfl, hsz, hP, hK, hD0, hZ, hN⟩ := hv
  have hx := B.exec
  have hb := B.bytes
  have hr := B.returns
  have hts := atoms_spec (ws := wuX1_readData) B.pre
  have hown : s.vm.findClass RX1 = some m.cls := findClass_of_methodNamed B.named
  have hlocks := B.notSynchronized
  subst hsz
  have hD := wD_self (sz := s.heap.size) hD0
  have hA9 : ∀ q, s.heap.size ≤ q → wA ad G s.heap.size q := fun q h => Or.inr h
  generalize hAe : wA ad G s.heap.size = A at hD hA9 hZ ⊢
  have hS : va_S A s.heap s.heap [] := va_S.rf
  have hl := lv_entry ([.ref (ad a)]) (n := 9) (Nat.le_of_ble_eq_true rfl)
  rw [lg_entry_eq]
  generalize (lg_sl ([.ref (ad a)]) ++ List.replicate (9 - (lg_sl ([.ref (ad a)])).length) Slot.unset).toArray = ls at hl ⊢
  have hl : lv_has ls 9 [(0, .ref (ad a))] := hl
  unfold FX1_readData at hF
  refine lv_aload_n hx hb dX1_readData_0 rfl (lv_at hl 0 rfl) ?_
  refine va_get (D := D) (ci := 1) (v := va_re ad (M.2 a 11)) (C := RX1) (T := TX1) (N := 22) hx hb hts (mus hf_X1) hown hK hP a (wld_o ct ad G M hc hk (by decide)) rfl 11 (by decide) (hts (.fieldLink RX1 72 "VideoSuite$Decoder" "latest" "LVideoSuite$Header;") (mu mw_653)) (fun _ h9 => h9) rfl dX1_readData_1 ?_
  obtain ⟨b2, ho2, hc2, hk2, hF⟩ := dr_some hF
  refine W_st (st' := [.ref (ad b2)]) (by rw [va_some ho2]) ?_
  refine va_get (D := D) (ci := 3) (v := va_re ad (M.2 b2 0)) (C := RX3) (T := TX3) (N := 4) hx hb hts (mus hf_X3) hown hK hP b2 (wld_o ct ad G M hc2 hk2 (by decide)) rfl 0 (by decide) (hts (.fieldLink RX1 212 "VideoSuite$Header" "v" "[I") (mu mw_618)) (fun _ h9 => h9) rfl dX1_readData_4 ?_
  refine lv_astoreq_n (lv' := [(1, va_re ad (M.2 b2 0)), (0, .ref (ad a))]) hx hb dX1_readData_7 rfl hl (by decide) rfl (fun ls hl => ?_)
  refine lv_aloadq_n hx hb dX1_readData_8 rfl (lv_at hl 0 rfl) ?_
  refine lv_iconst (v := (1 : Int32)) hx hb dX1_readData_9 (by decide) ?_
  obtain ⟨b3, ho3, hc3, hk3, hF⟩ := dr_some hF
  refine W_st (st' := [.int (1 : Int32), .ref (ad b3)]) (by rw [va_some ho3]) ?_
  obtain ⟨hvc, hF⟩ := chk_some hF
  refine va_iald hx hb hK hP b3 1 (wld_i ct ad G M hc3 hk3) rfl hvc dX1_readData_10 ?_
  obtain ⟨x4, ex4, hF⟩ := ltt_some hF
  refine lv_topi (fun zx4 ezx4 => ?_)
  obtain rfl : x4 = zx4 := ex4.trans ezx4.symm
  refine lv_iconst (v := (2 : Int32)) hx hb dX1_readData_11 (by decide) ?_
  obtain ⟨y5, hy5, hF⟩ := bnd_some hF
  have J5 : ∀ (H : Heap) (locs : List Loc) (ls : Array Slot), va_P D classes (wld ct ad G M) H → va_D A (wld ct ad G M) → va_S A s.heap H locs → lv_has ls 9 [(1, va_re ad (M.2 b2 0)), (0, .ref (ad a))] → W p l e (headSpec wuX1_readData ({ frames := 6, cells := 0, slots := 0, locals := 166 })).room s m ([.ref (ad a)] : List Value).toArray below meth c H locs 0 0 (MQ below (va_Qv (fun (_ : Unit) => True) (fun _ t => kE D ct ad G A y t) A) ([.ref (ad a)] : List Value).toArray s 0 0 A) (F0 m 20 ls [.int y5]) := by
    intro H locs ls hP hD hS hl
    refine lv_istore_n (lv' := [(2, .int y5), (1, va_re ad (M.2 b2 0)), (0, .ref (ad a))]) hx hb dX1_readData_20 rfl hl (by decide) (by generalize ((M.2 b2 0)) = o9; cases o9 <;> rfl) (fun ls hl => ?_)
    refine lv_aload_n hx hb dX1_readData_21 rfl (lv_at hl 2 rfl) ?_
    refine va_get (D := D) (ci := 1) (v := va_re ad (M.2 a 2)) (C := RX1) (T := TX1) (N := 22) hx hb hts (mus hf_X1) hown hK hP a (wld_o ct ad G M hc hk (by decide)) rfl 2 (by decide) (hts (.fieldLink RX1 28 "VideoSuite$Decoder" "work" "LVideoSuite$Work;") (mu mw_644)) (fun _ h9 => h9) rfl dX1_readData_22 ?_
    obtain ⟨b6, ho6, hc6, hk6, hF⟩ := dr_some hF
    refine W_st (st' := [.ref (ad b6)]) (by rw [va_some ho6]) ?_
    refine va_get (D := D) (ci := 9) (v := va_re ad (M.2 b6 2)) (C := RX9) (T := TX9) (N := 20) hx hb hts (mus hf_X9) hown hK hP b6 (wld_o ct ad G M hc6 hk6 (by decide)) rfl 2 (by decide) (hts (.fieldLink RX1 308 "VideoSuite$Work" "par" "[I") (mu mw_434)) (fun _ h9 => h9) rfl dX1_readData_25 ?_
    refine lv_iconst (v := (1 : Int32)) hx hb dX1_readData_28 (by decide) ?_
    obtain ⟨b7, ho7, hc7, hk7, hF⟩ := dr_some hF
    refine W_st (st' := [.int (1 : Int32), .ref (ad b7)]) (by rw [va_some ho7]) ?_
    obtain ⟨hvc, hF⟩ := chk_some hF
    refine va_iald hx hb hK hP b7 1 (wld_i ct ad G M hc7 hk7) rfl hvc dX1_readData_29 ?_
    obtain ⟨x8, ex8, hF⟩ := ltt_some hF
    refine lv_topi (fun zx8 ezx8 => ?_)
    obtain rfl : x8 = zx8 := ex8.trans ezx8.symm
    refine lv_iconst (v := (1 : Int32)) hx hb dX1_readData_30 (by decide) ?_
    obtain ⟨y9, hy9, hF⟩ := bnd_some hF
    have J9 : ∀ (H : Heap) (locs : List Loc) (ls : Array Slot), va_P D classes (wld ct ad G M) H → va_D A (wld ct ad G M) → va_S A s.heap H locs → lv_has ls 9 [(2, .int y5), (1, va_re ad (M.2 b2 0)), (0, .ref (ad a))] → W p l e (headSpec wuX1_readData ({ frames := 6, cells := 0, slots := 0, locals := 166 })).room s m ([.ref (ad a)] : List Value).toArray below meth c H locs 0 0 (MQ below (va_Qv (fun (_ : Unit) => True) (fun _ t => kE D ct ad G A y t) A) ([.ref (ad a)] : List Value).toArray s 0 0 A) (F0 m 39 ls [.int y9]) := by
      intro H locs ls hP hD hS hl
      refine lv_istore_n (lv' := [(3, .int y9), (2, .int y5), (1, va_re ad (M.2 b2 0)), (0, .ref (ad a))]) hx hb dX1_readData_39 rfl hl (by decide) rfl (fun ls hl => ?_)
      refine lv_aload_n hx hb dX1_readData_40 rfl (lv_at hl 3 rfl) ?_
      refine va_get (D := D) (ci := 1) (v := va_re ad (M.2 a 2)) (C := RX1) (T := TX1) (N := 22) hx hb hts (mus hf_X1) hown hK hP a (wld_o ct ad G M hc hk (by decide)) rfl 2 (by decide) (hts (.fieldLink RX1 28 "VideoSuite$Decoder" "work" "LVideoSuite$Work;") (mu mw_644)) (fun _ h9 => h9) rfl dX1_readData_41 ?_
      refine W_st (st' := [.ref (ad b6)]) (by rw [va_some ho6]) ?_
      refine va_get (D := D) (ci := 9) (v := va_re ad (M.2 b6 0)) (C := RX9) (T := TX9) (N := 20) hx hb hts (mus hf_X9) hown hK hP b6 (wld_o ct ad G M hc6 hk6 (by decide)) rfl 0 (by decide) (hts (.fieldLink RX1 84 "VideoSuite$Work" "pic" "LVideoSuite$Picture;") (mu mw_420)) (fun _ h9 => h9) rfl dX1_readData_44 ?_
      obtain ⟨b10, ho10, hc10, hk10, hF⟩ := dr_some hF
      refine W_st (st' := [.ref (ad b10)]) (by rw [va_some ho10]) ?_
      obtain ⟨y11, hy11, hF⟩ := bnd_some hF
      have hf9 := wA_in hD hA9 hS
      refine va_calli (va_runV (As := []) (rest := []) ⟨hx, hb, hml, hown, hts⟩ (kX4_blocks l D ct ad Z G M H.size b10 y11 hc10 hk10 hy11) (cwV 0 hts gX1_readData_X4_blocks rfl rfl rfl (by decide +kernel) ⟨Nat.le_of_ble_eq_true rfl, Nat.le_of_ble_eq_true rfl⟩) ⟨fun a U g mk q => by obtain ⟨q0, q1, qP, qK, qD, qZ, qN⟩ := q; exact ⟨q0, q1, qP, va_K.moved (u := U) (U := U.calling g mk a) (Vm.Alike.refl U.vm) qK, qD, sF.moved (u := U) (U := U.calling g mk a) (Vm.Alike.refl U.vm) qZ, nF.same rfl qN⟩, va_recv hK hP (ci := 4) (q0 := b10) rfl (wld_o ct ad G M hc10 hk10 (by decide)), fun U hU hW => ⟨rfl, by rw [hU], by rw [hU]; exact hP, va_K.moved hW.alike hK, hD.weaken (fun _ _ _ _ => trivial), by rw [hU]; exact ((hZ.kept hS.2.1).narrow hf9).moved hW.alike, hN.warm hW⟩⟩ rfl rfl hl.1 rfl (lv_room (Nat.le_of_ble_eq_true rfl)) dX1_readData_47 ⟨(Nat.zero_le _), (Nat.zero_le _)⟩) hS (fun q _ h => hf9 q h) hf9 (fun r u t H locs ht hvm hw hB hz1 hk1 hS => ?_)
      obtain ⟨hP, hK9, hD9⟩ := hB
      rw [ht] at hP
      try dsimp only at hw
      subst hw
      have hD := hD9.weaken (fun _ q _ h => hf9 q.1 h)
      refine lv_istore (lv' := [(4, .int y11.2), (3, .int y9), (2, .int y5), (1, va_re ad (M.2 b2 0)), (0, .ref (ad a))]) hx hb dX1_readData_50 hl (by decide) rfl (fun ls hl => ?_)
      refine lv_aloadq_n hx hb dX1_readData_52 rfl (lv_at hl 3 rfl) ?_
      refine lv_iconst (v := (0 : Int32)) hx hb dX1_readData_53 (by decide) ?_
      refine W_st (st' := [.int (0 : Int32), .ref (ad b3)]) (by rw [va_some ho3]) ?_
      obtain ⟨hvc, hF⟩ := chk_some hF
      refine va_iald hx hb hK hP b3 1 (wld_i ct ad G y11.1 hc3 hk3) rfl hvc dX1_readData_54 ?_
      obtain ⟨x12, ex12, hF⟩ := ltt_some hF
      refine lv_topi (fun zx12 ezx12 => ?_)
      obtain rfl : x12 = zx12 := ex12.trans ezx12.symm
      refine lv_istore (lv' := [(5, .int x12), (4, .int y11.2), (3, .int y9), (2, .int y5), (1, va_re ad (M.2 b2 0)), (0, .ref (ad a))]) hx hb dX1_readData_55 hl (by decide) rfl (fun ls hl => ?_)
      refine lv_aload_n hx hb dX1_readData_57 rfl (lv_at hl 5 rfl) ?_
      refine lv_aloadq_n hx hb dX1_readData_58 rfl (lv_at hl 4 rfl) ?_
      refine lv_bipush (v := (12 : Int32)) hx hb dX1_readData_59 (by decide) ?_
      refine W_st (st' := [.int (12 : Int32), .ref (ad b3), .ref (ad a)]) (by rw [va_some ho3]) ?_
      obtain ⟨hvc, hF⟩ := chk_some hF
      refine va_iald hx hb hK hP b3 1 (wld_i ct ad G y11.1 hc3 hk3) rfl hvc dX1_readData_61 ?_
      obtain ⟨x13, ex13, hF⟩ := ltt_some hF
      refine lv_topi (fun zx13 ezx13 => ?_)
      obtain rfl : x13 = zx13 := ex13.trans ezx13.symm
      refine va_put (D := D) (ci := 1) (v := .int x13) (ty := .int) (C := RX1) (T := TX1) (N := 22) hx hb hts (mus hf_X1) tyX1 tyX1_ok nmX1 hown hK hP hD hS a (wld_o ct ad G y11.1 hc hk (by decide)) rfl 20 (by decide) (hts (.fieldLink RX1 328 "VideoSuite$Decoder" "step" "I") (mu mw_667)) (fun _ h9 => h9) rfl (by decide +kernel) rfl rfl (Nat.le_of_ble_eq_true rfl) dX1_readData_62 (fun H locs hP hD hS => ?_)
      obtain ⟨M14, eM14, hF⟩ := ltt_some hF
      rw [set_oI ct ad G y11.1 hc hk (by decide) (by rfl), ← eM14] at hP hD
      refine lv_iload_n hx hb dX1_readData_65 rfl (lv_at hl 2 rfl) ?_
      obtain ⟨y15, hy15, hF⟩ := bnd_some hF
      have J15 : ∀ (H : Heap) (locs : List Loc) (ls : Array Slot), va_P D classes (wld ct ad G y15) H → va_D A (wld ct ad G y15) → va_S A s.heap H locs → lv_has ls 9 [(5, .int x12), (4, .int y11.2), (3, .int y9), (2, .int y5), (1, va_re ad (M.2 b2 0)), (0, .ref (ad a))] → W p l e (headSpec wuX1_readData ({ frames := 6, cells := 0, slots := 0, locals := 166 })).room s m ([.ref (ad a)] : List Value).toArray below meth c H locs 0 0 (MQ below (va_Qv (fun (_ : Unit) => True) (fun _ t => kE D ct ad G A y t) A) ([.ref (ad a)] : List Value).toArray s 0 0 A) (F0 m 76 ls []) := by
        intro H locs ls hP hD hS hl
        refine lv_iconst (v := (0 : Int32)) hx hb dX1_readData_76 (by decide) ?_
        refine lv_istore (lv' := [(6, .int (0 : Int32)), (5, .int x12), (4, .int y11.2), (3, .int y9), (2, .int y5), (1, va_re ad (M.2 b2 0)), (0, .ref (ad a))]) hx hb dX1_readData_77 hl (by decide) rfl (fun ls hl => ?_)
        obtain ⟨y16, hy16, hF⟩ := bnd_some hF
        have K16 : ∀ z16k : Int32 × Int32 × DD, y16 = .inl z16k → ∀ (H : Heap) (locs : List Loc) (ls : Array Slot), va_P D classes (wld ct ad G z16k.2.2) H → va_D A (wld ct ad G z16k.2.2) → va_S A s.heap H locs → lv_has ls 9 [(6, .int z16k.2.1), (5, .int z16k.1), (4, .int y11.2), (3, .int y9), (2, .int y5), (1, va_re ad (M.2 b2 0)), (0, .ref (ad a))] → W p l e (headSpec wuX1_readData ({ frames := 6, cells := 0, slots := 0, locals := 166 })).room s m ([.ref (ad a)] : List Value).toArray below meth c H locs 0 0 (MQ below (va_Qv (fun (_ : Unit) => True) (fun _ t => kE D ct ad G A y t) A) ([.ref (ad a)] : List Value).toArray s 0 0 A) (F0 m 346 ls []) := by
          intro z16k hz16 H locs ls hP hD hS hl
          have hF := sel_inl (hz16 ▸ hF)
          obtain rfl := Option.some.inj hF
          exact W.vret hx hb hr (fun t ht hW => ⟨⟨(), rfl, trivial, ⟨by rw [ht]; exact hP, va_K.moved hW.alike hK, hD⟩⟩, hS.F ht⟩) hS.2.2 dX1_readData_346
        have hR16 := hF
        clear hF
        refine itr_rule (fun (s17 : Int32 × Int32 × DD) => ∀ (H : Heap) (locs : List Loc) (ls : Array Slot), va_P D classes (wld ct ad G s17.2.2) H → va_D A (wld ct ad G s17.2.2) → va_S A s.heap H locs → lv_has ls 9 [(6, .int s17.2.1), (5, .int s17.1), (4, .int y11.2), (3, .int y9), (2, .int y5), (1, va_re ad (M.2 b2 0)), (0, .ref (ad a))] → W p l e (headSpec wuX1_readData ({ frames := 6, cells := 0, slots := 0, locals := 166 })).room s m ([.ref (ad a)] : List Value).toArray below meth c H locs 0 0 (MQ below (va_Qv (fun (_ : Unit) => True) (fun _ t => kE D ct ad G A y t) A) ([.ref (ad a)] : List Value).toArray s 0 0 A) (F0 m 79 ls [])) ?_ _ _ hy16 _ _ _ hP hD hS (lv_sub hl [0, 1, 2, 3, 4, 5, 6] rfl)
        rintro s17 ⟨z19, hF, hwz19⟩ H locs ls hP hD hS hl
        try dsimp only at hF
        refine lv_iload hx hb dX1_readData_79 (lv_at hl 0 rfl) ?_
        refine lv_bipush (v := (32 : Int32)) hx hb dX1_readData_81 (by decide) ?_
        refine lv_icmp_gt (tgt := 346) hx hb dX1_readData_83 (by decide) (fun c20 => ?_) (fun c20 => ?_)
        · rw [if_pos c20] at hF
          obtain rfl := Option.some.inj hF
          exact K16 _ hwz19.symm _ _ _ hP hD hS (lv_sub hl [0, 1, 2, 3, 4, 5, 6] rfl)
        · rw [if_neg c20] at hF
          refine lv_iload_n hx hb dX1_readData_86 rfl (lv_at hl 3 rfl) ?_
          refine lv_if_ne (tgt := 182) hx hb dX1_readData_87 (by decide) (fun c21 => ?_) (fun c21 => ?_)
          · rw [if_neg c21] at hF
            refine lv_aload_n hx hb dX1_readData_182 rfl (lv_at hl 6 rfl) ?_
            refine lv_iload hx hb dX1_readData_183 (lv_at hl 1 rfl) ?_
            obtain ⟨y22, hy22, hF⟩ := bnd_some hF
            have hf9 := wA_in hD hA9 hS
            refine va_callv (va_runV (As := [.int s17.1]) (rest := []) ⟨hx, hb, hml, hown, hts⟩ (kX1_claim l D ct ad Z G s17.2.2 H.size a s17.1 y22 hc hk hy22) (cwV 1 hts gX1_readData_X1_claim rfl rfl rfl (by decide +kernel) ⟨Nat.le_of_ble_eq_true rfl, Nat.le_of_ble_eq_true rfl⟩) ⟨fun a U g mk q => by obtain ⟨q0, q1, qP, qK, qD, qZ, qN⟩ := q; exact ⟨q0, q1, qP, va_K.moved (u := U) (U := U.calling g mk a) (Vm.Alike.refl U.vm) qK, qD, sF.moved (u := U) (U := U.calling g mk a) (Vm.Alike.refl U.vm) qZ, nF.same rfl qN⟩, va_recv hK hP (ci := 1) (q0 := a) rfl (wld_o ct ad G s17.2.2 hc hk (by decide)), fun U hU hW => ⟨rfl, by rw [hU], by rw [hU]; exact hP, va_K.moved hW.alike hK, hD.weaken (fun _ _ _ _ => trivial), by rw [hU]; exact ((hZ.kept hS.2.1).narrow hf9).moved hW.alike, hN.warm hW⟩⟩ rfl rfl hl.1 rfl (lv_room (Nat.le_of_ble_eq_true rfl)) dX1_readData_185 ⟨(Nat.zero_le _), (Nat.zero_le _)⟩) hS (fun q _ h => hf9 q h) hf9 (fun u t H locs ht hvm hw hB hz1 hk1 hS => ?_)
            obtain ⟨hP, hK9, hD9⟩ := hB
            rw [ht] at hP
            have hD := hD9.weaken (fun _ q _ h => hf9 q.1 h)
            refine lv_iload_n hx hb dX1_readData_188 rfl (lv_at hl 3 rfl) ?_
            obtain ⟨y23, hy23, hF⟩ := bnd_some hF
            have J23 : ∀ (H : Heap) (locs : List Loc) (ls : Array Slot), va_P D classes (wld ct ad G y23) H → va_D A (wld ct ad G y23) → va_S A s.heap H locs → lv_has ls 9 [(6, .int s17.2.1), (5, .int s17.1), (4, .int y11.2), (3, .int y9), (2, .int y5), (1, va_re ad (M.2 b2 0)), (0, .ref (ad a))] → W p l e (headSpec wuX1_readData ({ frames := 6, cells := 0, slots := 0, locals := 166 })).room s m ([.ref (ad a)] : List Value).toArray below meth c H locs 0 0 (MQ below (va_Qv (fun (_ : Unit) => True) (fun _ t => kE D ct ad G A y t) A) ([.ref (ad a)] : List Value).toArray s 0 0 A) (F0 m 297 ls []) := by
              intro H locs ls hP hD hS hl
              refine lv_aload_n hx hb dX1_readData_297 rfl (lv_at hl 6 rfl) ?_
              refine lv_iload hx hb dX1_readData_298 (lv_at hl 1 rfl) ?_
              obtain ⟨y24, hy24, hF⟩ := bnd_some hF
              have hf9 := wA_in hD hA9 hS
              refine va_callv (va_runV (As := [.int s17.1]) (rest := []) ⟨hx, hb, hml, hown, hts⟩ (kX1_rebuild l D ct ad Z G y23 H.size a s17.1 y24 hc hk hy24) (cwV 1 hts gX1_readData_X1_rebuild rfl rfl rfl (by decide +kernel) ⟨Nat.le_of_ble_eq_true rfl, Nat.le_of_ble_eq_true rfl⟩) ⟨fun a U g mk q => by obtain ⟨q0, q1, qP, qK, qD, qZ, qN⟩ := q; exact ⟨q0, q1, qP, va_K.moved (u := U) (U := U.calling g mk a) (Vm.Alike.refl U.vm) qK, qD, sF.moved (u := U) (U := U.calling g mk a) (Vm.Alike.refl U.vm) qZ, nF.same rfl qN⟩, va_recv hK hP (ci := 1) (q0 := a) rfl (wld_o ct ad G y23 hc hk (by decide)), fun U hU hW => ⟨rfl, by rw [hU], by rw [hU]; exact hP, va_K.moved hW.alike hK, hD.weaken (fun _ _ _ _ => trivial), by rw [hU]; exact ((hZ.kept hS.2.1).narrow hf9).moved hW.alike, hN.warm hW⟩⟩ rfl rfl hl.1 rfl (lv_room (Nat.le_of_ble_eq_true rfl)) dX1_readData_300 ⟨(Nat.zero_le _), (Nat.zero_le _)⟩) hS (fun q _ h => hf9 q h) hf9 (fun u t H locs ht hvm hw hB hz1 hk1 hS => ?_)
              obtain ⟨hP, hK9, hD9⟩ := hB
              rw [ht] at hP
              have hD := hD9.weaken (fun _ q _ h => hf9 q.1 h)
              refine lv_aload_n hx hb dX1_readData_303 rfl (lv_at hl 6 rfl) ?_
              refine lv_iload hx hb dX1_readData_304 (lv_at hl 1 rfl) ?_
              obtain ⟨y25, hy25, hF⟩ := bnd_some hF
              have hf9 := wA_in hD hA9 hS
              refine va_callv (va_runV (As := [.int s17.1]) (rest := []) ⟨hx, hb, hml, hown, hts⟩ (kX1_endBlock l D ct ad Z G y24 H.size a s17.1 y25 hc hk hy25) (cwV 1 hts gX1_readData_X1_endBlock rfl rfl rfl (by decide +kernel) ⟨Nat.le_of_ble_eq_true rfl, Nat.le_of_ble_eq_true rfl⟩) ⟨fun a U g mk q => by obtain ⟨q0, q1, qP, qK, qD, qZ, qN⟩ := q; exact ⟨q0, q1, qP, va_K.moved (u := U) (U := U.calling g mk a) (Vm.Alike.refl U.vm) qK, qD, sF.moved (u := U) (U := U.calling g mk a) (Vm.Alike.refl U.vm) qZ, nF.same rfl qN⟩, va_recv hK hP (ci := 1) (q0 := a) rfl (wld_o ct ad G y24 hc hk (by decide)), fun U hU hW => ⟨rfl, by rw [hU], by rw [hU]; exact hP, va_K.moved hW.alike hK, hD.weaken (fun _ _ _ _ => trivial), by rw [hU]; exact ((hZ.kept hS.2.1).narrow hf9).moved hW.alike, hN.warm hW⟩⟩ rfl rfl hl.1 rfl (lv_room (Nat.le_of_ble_eq_true rfl)) dX1_readData_306 ⟨(Nat.zero_le _), (Nat.zero_le _)⟩) hS (fun q _ h => hf9 q h) hf9 (fun u t H locs ht hvm hw hB hz1 hk1 hS => ?_)
              obtain ⟨hP, hK9, hD9⟩ := hB
              rw [ht] at hP
              have hD := hD9.weaken (fun _ q _ h => hf9 q.1 h)
              obtain ⟨x26, ex26, hF⟩ := ltt_some hF
              refine lv_iinc (v := x26) (lv' := [(5, .int x26), (6, .int s17.2.1), (4, .int y11.2), (3, .int y9), (2, .int y5), (1, va_re ad (M.2 b2 0)), (0, .ref (ad a))]) hx hb dX1_readData_309 hl (k := 1) rfl (by rw [ex26]; rfl) (by decide) rfl (fun ls hl => ?_)
              refine lv_iload_n hx hb dX1_readData_312 rfl (lv_at hl 3 rfl) ?_
              refine lv_if_eq (tgt := 329) hx hb dX1_readData_313 (by decide) (fun c27 => ?_) (fun c27 => ?_)
              · rw [if_pos c27] at hF
                refine lv_aload_n hx hb dX1_readData_329 rfl (lv_at hl 6 rfl) ?_
                refine va_get (D := D) (ci := 1) (v := va_re ad (y25.2 a 0)) (C := RX1) (T := TX1) (N := 22) hx hb hts (mus hf_X1) hown hK hP a (wld_o ct ad G y25 hc hk (by decide)) rfl 0 (by decide) (hts (.fieldLink RX1 12 "VideoSuite$Decoder" "reader" "LVideoSuite$Reader;") (mu mw_640)) (fun _ h9 => h9) rfl dX1_readData_330 ?_
                obtain ⟨b28, ho28, hc28, hk28, hF⟩ := dr_some hF
                refine W_st (st' := [.ref (ad b28)]) (by rw [va_some ho28]) ?_
                obtain ⟨y29, hy29, hF⟩ := bnd_some hF
                have hf9 := wA_in hD hA9 hS
                refine va_calli (va_runV (As := []) (rest := []) ⟨hx, hb, hml, hown, hts⟩ (kX5_more l D ct ad Z G y25 H.size b28 y29 hc28 hk28 hy29) (cwV 0 hts gX1_readData_X5_more rfl rfl rfl (by decide +kernel) ⟨Nat.le_of_ble_eq_true rfl, Nat.le_of_ble_eq_true rfl⟩) ⟨fun a U g mk q => by obtain ⟨q0, q1, qP, qK, qD, qZ, qN⟩ := q; exact ⟨q0, q1, qP, va_K.moved (u := U) (U := U.calling g mk a) (Vm.Alike.refl U.vm) qK, qD, sF.moved (u := U) (U := U.calling g mk a) (Vm.Alike.refl U.vm) qZ, nF.same rfl qN⟩, va_recv hK hP (ci := 5) (q0 := b28) rfl (wld_o ct ad G y25 hc28 hk28 (by decide)), fun U hU hW => ⟨rfl, by rw [hU], by rw [hU]; exact hP, va_K.moved hW.alike hK, hD.weaken (fun _ _ _ _ => trivial), by rw [hU]; exact ((hZ.kept hS.2.1).narrow hf9).moved hW.alike, hN.warm hW⟩⟩ rfl rfl hl.1 rfl (lv_room (Nat.le_of_ble_eq_true rfl)) dX1_readData_333 ⟨(Nat.zero_le _), (Nat.zero_le _)⟩) hS (fun q _ h => hf9 q h) hf9 (fun r u t H locs ht hvm hw hB hz1 hk1 hS => ?_)
                obtain ⟨hP, hK9, hD9⟩ := hB
                rw [ht] at hP
                try dsimp only at hw
                subst hw
                have hD := hD9.weaken (fun _ q _ h => hf9 q.1 h)
                refine lv_if_ne (tgt := 340) hx hb dX1_readData_336 (by decide) (fun c30 => ?_) (fun c30 => ?_)
                · rw [if_neg c30] at hF
                  obtain ⟨x31, ex31, hF⟩ := ltt_some hF
                  refine lv_iinc (v := x31) (lv' := [(6, .int x31), (5, .int x26), (4, .int y11.2), (3, .int y9), (2, .int y5), (1, va_re ad (M.2 b2 0)), (0, .ref (ad a))]) hx hb dX1_readData_340 hl (k := 1) rfl (by rw [ex31]; rfl) (by decide) rfl (fun ls hl => ?_)
                  refine lv_goto (tgt := 79) hx hb dX1_readData_343 (by decide) ?_
                  obtain rfl := Option.some.inj hF
                  exact hwz19 _ _ _ hP hD hS (lv_sub hl [0, 1, 2, 3, 4, 5, 6] rfl)
                · rw [if_pos c30] at hF
                  obtain rfl := Option.some.inj hF
                  have hF := sel_inr (hwz19 ▸ hR16)
                  obtain rfl := Option.some.inj hF
                  exact W.vret hx hb hr (fun t ht hW => ⟨⟨(), rfl, trivial, ⟨by rw [ht]; exact hP, va_K.moved hW.alike hK, hD⟩⟩, hS.F ht⟩) hS.2.2 dX1_readData_339
              · rw [if_neg c27] at hF
                refine lv_aload_n hx hb dX1_readData_316 rfl (lv_at hl 6 rfl) ?_
                refine va_get (D := D) (ci := 1) (v := va_re ad (y25.2 a 0)) (C := RX1) (T := TX1) (N := 22) hx hb hts (mus hf_X1) hown hK hP a (wld_o ct ad G y25 hc hk (by decide)) rfl 0 (by decide) (hts (.fieldLink RX1 12 "VideoSuite$Decoder" "reader" "LVideoSuite$Reader;") (mu mw_640)) (fun _ h9 => h9) rfl dX1_readData_317 ?_
                obtain ⟨b32, ho32, hc32, hk32, hF⟩ := dr_some hF
                refine W_st (st' := [.ref (ad b32)]) (by rw [va_some ho32]) ?_
                obtain ⟨y33, hy33, hF⟩ := bnd_some hF
                have hf9 := wA_in hD hA9 hS
                refine va_calli (va_runV (As := []) (rest := []) ⟨hx, hb, hml, hown, hts⟩ (kX5_isLast l D ct ad Z G y25 H.size b32 y33 hc32 hk32 hy33) (cwV 0 hts gX1_readData_X5_isLast rfl rfl rfl (by decide +kernel) ⟨Nat.le_of_ble_eq_true rfl, Nat.le_of_ble_eq_true rfl⟩) ⟨fun a U g mk q => by obtain ⟨q0, q1, qP, qK, qD, qZ, qN⟩ := q; exact ⟨q0, q1, qP, va_K.moved (u := U) (U := U.calling g mk a) (Vm.Alike.refl U.vm) qK, qD, sF.moved (u := U) (U := U.calling g mk a) (Vm.Alike.refl U.vm) qZ, nF.same rfl qN⟩, va_recv hK hP (ci := 5) (q0 := b32) rfl (wld_o ct ad G y25 hc32 hk32 (by decide)), fun U hU hW => ⟨rfl, by rw [hU], by rw [hU]; exact hP, va_K.moved hW.alike hK, hD.weaken (fun _ _ _ _ => trivial), by rw [hU]; exact ((hZ.kept hS.2.1).narrow hf9).moved hW.alike, hN.warm hW⟩⟩ rfl rfl hl.1 rfl (lv_room (Nat.le_of_ble_eq_true rfl)) dX1_readData_320 ⟨(Nat.zero_le _), (Nat.zero_le _)⟩) hS (fun q _ h => hf9 q h) hf9 (fun r u t H locs ht hvm hw hB hz1 hk1 hS => ?_)
                obtain ⟨hP, hK9, hD9⟩ := hB
                rw [ht] at hP
                try dsimp only at hw
                subst hw
                have hD := hD9.weaken (fun _ q _ h => hf9 q.1 h)
                refine lv_if_eq (tgt := 340) hx hb dX1_readData_323 (by decide) (fun c34 => ?_) (fun c34 => ?_)
                · rw [if_pos c34] at hF
                  obtain ⟨x35, ex35, hF⟩ := ltt_some hF
                  refine lv_iinc (v := x35) (lv' := [(6, .int x35), (5, .int x26), (4, .int y11.2), (3, .int y9), (2, .int y5), (1, va_re ad (M.2 b2 0)), (0, .ref (ad a))]) hx hb dX1_readData_340 hl (k := 1) rfl (by rw [ex35]; rfl) (by decide) rfl (fun ls hl => ?_)
                  refine lv_goto (tgt := 79) hx hb dX1_readData_343 (by decide) ?_
                  obtain rfl := Option.some.inj hF
                  exact hwz19 _ _ _ hP hD hS (lv_sub hl [0, 1, 2, 3, 4, 5, 6] rfl)
                · rw [if_neg c34] at hF
                  refine lv_goto (tgt := 339) hx hb dX1_readData_326 (by decide) ?_
                  obtain rfl := Option.some.inj hF
                  have hF := sel_inr (hwz19 ▸ hR16)
                  obtain rfl := Option.some.inj hF
                  exact W.vret hx hb hr (fun t ht hW => ⟨⟨(), rfl, trivial, ⟨by rw [ht]; exact hP, va_K.moved hW.alike hK, hD⟩⟩, hS.F ht⟩) hS.2.2 dX1_readData_339
            clear hF
            have hF := hy23
            clear hy23
            refine lv_if_eq (tgt := 218) hx hb dX1_readData_189 (by decide) (fun c36 => ?_) (fun c36 => ?_)
            · rw [if_pos c36] at hF
              refine lv_aload_n hx hb dX1_readData_218 rfl (lv_at hl 6 rfl) ?_
              refine lv_iload hx hb dX1_readData_219 (lv_at hl 1 rfl) ?_
              obtain ⟨y37, hy37, hF⟩ := bnd_some hF
              have hf9 := wA_in hD hA9 hS
              refine va_callv (va_runV (As := [.int s17.1]) (rest := []) ⟨hx, hb, hml, hown, hts⟩ (kX1_readBlock l D ct ad Z G y22 H.size a s17.1 y37 hc hk hy37) (cwV 1 hts gX1_readData_X1_readBlock rfl rfl rfl (by decide +kernel) ⟨Nat.le_of_ble_eq_true rfl, Nat.le_of_ble_eq_true rfl⟩) ⟨fun a U g mk q => by obtain ⟨q0, q1, qP, qK, qD, qZ, qN⟩ := q; exact ⟨q0, q1, qP, va_K.moved (u := U) (U := U.calling g mk a) (Vm.Alike.refl U.vm) qK, qD, sF.moved (u := U) (U := U.calling g mk a) (Vm.Alike.refl U.vm) qZ, nF.same rfl qN⟩, va_recv hK hP (ci := 1) (q0 := a) rfl (wld_o ct ad G y22 hc hk (by decide)), fun U hU hW => ⟨rfl, by rw [hU], by rw [hU]; exact hP, va_K.moved hW.alike hK, hD.weaken (fun _ _ _ _ => trivial), by rw [hU]; exact ((hZ.kept hS.2.1).narrow hf9).moved hW.alike, hN.warm hW⟩⟩ rfl rfl hl.1 rfl (lv_room (Nat.le_of_ble_eq_true rfl)) dX1_readData_221 ⟨(Nat.zero_le _), (Nat.zero_le _)⟩) hS (fun q _ h => hf9 q h) hf9 (fun u t H locs ht hvm hw hB hz1 hk1 hS => ?_)
              obtain ⟨hP, hK9, hD9⟩ := hB
              rw [ht] at hP
              have hD := hD9.weaken (fun _ q _ h => hf9 q.1 h)
              refine lv_aload_n hx hb dX1_readData_224 rfl (lv_at hl 6 rfl) ?_
              refine va_get (D := D) (ci := 1) (v := va_re ad (y37.2 a 2)) (C := RX1) (T := TX1) (N := 22) hx hb hts (mus hf_X1) hown hK hP a (wld_o ct ad G y37 hc hk (by decide)) rfl 2 (by decide) (hts (.fieldLink RX1 28 "VideoSuite$Decoder" "work" "LVideoSuite$Work;") (mu mw_644)) (fun _ h9 => h9) rfl dX1_readData_225 ?_
              obtain ⟨b38, ho38, hc38, hk38, hF⟩ := dr_some hF
              refine W_st (st' := [.ref (ad b38)]) (by rw [va_some ho38]) ?_
              refine va_get (D := D) (ci := 9) (v := va_re ad (y37.2 b38 6)) (C := RX9) (T := TX9) (N := 20) hx hb hts (mus hf_X9) hown hK hP b38 (wld_o ct ad G y37 hc38 hk38 (by decide)) rfl 6 (by decide) (hts (.fieldLink RX1 355 "VideoSuite$Work" "info" "[I") (mu mw_444)) (fun _ h9 => h9) rfl dX1_readData_228 ?_
              refine lv_bipush (v := (8 : Int32)) hx hb dX1_readData_231 (by decide) ?_
              refine lv_iload hx hb dX1_readData_233 (lv_at hl 1 rfl) ?_
              refine lv_imul hx hb dX1_readData_235 ?_
              obtain ⟨x39, ex39, hF⟩ := ltt_some hF
              refine lv_topi (fun zx39 ezx39 => ?_)
              obtain rfl : x39 = zx39 := ex39.trans ezx39.symm
              refine lv_iconst (v := (0 : Int32)) hx hb dX1_readData_236 (by decide) ?_
              refine lv_iadd hx hb dX1_readData_237 ?_
              obtain ⟨x40, ex40, hF⟩ := ltt_some hF
              refine lv_topi (fun zx40 ezx40 => ?_)
              obtain rfl : x40 = zx40 := ex40.trans ezx40.symm
              obtain ⟨b41, ho41, hc41, hk41, hF⟩ := dr_some hF
              refine W_st (st' := [.int x40, .ref (ad b41)]) (by rw [va_some ho41]) ?_
              obtain ⟨hvc, hF⟩ := chk_some hF
              refine va_iald hx hb hK hP b41 1 (wld_i ct ad G y37 hc41 hk41) rfl hvc dX1_readData_238 ?_
              obtain ⟨x42, ex42, hF⟩ := ltt_some hF
              refine lv_topi (fun zx42 ezx42 => ?_)
              obtain rfl : x42 = zx42 := ex42.trans ezx42.symm
              refine lv_iconst (v := (2 : Int32)) hx hb dX1_readData_239 (by decide) ?_
              obtain ⟨y43, hy43, hF⟩ := bnd_some hF
              have J43 : ∀ (H : Heap) (locs : List Loc) (ls : Array Slot), va_P D classes (wld ct ad G y43) H → va_D A (wld ct ad G y43) → va_S A s.heap H locs → lv_has ls 9 [(6, .int s17.2.1), (5, .int s17.1), (4, .int y11.2), (3, .int y9), (2, .int y5), (1, va_re ad (M.2 b2 0)), (0, .ref (ad a))] → W p l e (headSpec wuX1_readData ({ frames := 6, cells := 0, slots := 0, locals := 166 })).room s m ([.ref (ad a)] : List Value).toArray below meth c H locs 0 0 (MQ below (va_Qv (fun (_ : Unit) => True) (fun _ t => kE D ct ad G A y t) A) ([.ref (ad a)] : List Value).toArray s 0 0 A) (F0 m 257 ls []) := by
                intro H locs ls hP hD hS hl
                refine lv_aload_n hx hb dX1_readData_257 rfl (lv_at hl 6 rfl) ?_
                refine lv_iload hx hb dX1_readData_258 (lv_at hl 1 rfl) ?_
                refine lv_iconst (v := (0 : Int32)) hx hb dX1_readData_260 (by decide) ?_
                obtain ⟨y44, hy44, hF⟩ := bnd_some hF
                have hf9 := wA_in hD hA9 hS
                refine va_callv (va_runV (As := [.int s17.1, .int (0 : Int32)]) (rest := []) ⟨hx, hb, hml, hown, hts⟩ (kX1_readReferences l D ct ad Z G y43 H.size a s17.1 ((0 : Int32)) y44 hc hk hy44) (cwV 2 hts gX1_readData_X1_readReferences rfl rfl rfl (by decide +kernel) ⟨Nat.le_of_ble_eq_true rfl, Nat.le_of_ble_eq_true rfl⟩) ⟨fun a U g mk q => by obtain ⟨q0, q1, qP, qK, qD, qZ, qN⟩ := q; exact ⟨q0, q1, qP, va_K.moved (u := U) (U := U.calling g mk a) (Vm.Alike.refl U.vm) qK, qD, sF.moved (u := U) (U := U.calling g mk a) (Vm.Alike.refl U.vm) qZ, nF.same rfl qN⟩, va_recv hK hP (ci := 1) (q0 := a) rfl (wld_o ct ad G y43 hc hk (by decide)), fun U hU hW => ⟨rfl, by rw [hU], by rw [hU]; exact hP, va_K.moved hW.alike hK, hD.weaken (fun _ _ _ _ => trivial), by rw [hU]; exact ((hZ.kept hS.2.1).narrow hf9).moved hW.alike, hN.warm hW⟩⟩ rfl rfl hl.1 rfl (lv_room (Nat.le_of_ble_eq_true rfl)) dX1_readData_261 ⟨(Nat.zero_le _), (Nat.zero_le _)⟩) hS (fun q _ h => hf9 q h) hf9 (fun u t H locs ht hvm hw hB hz1 hk1 hS => ?_)
                obtain ⟨hP, hK9, hD9⟩ := hB
                rw [ht] at hP
                have hD := hD9.weaken (fun _ q _ h => hf9 q.1 h)
                refine lv_aload_n hx hb dX1_readData_264 rfl (lv_at hl 6 rfl) ?_
                refine lv_iload hx hb dX1_readData_265 (lv_at hl 1 rfl) ?_
                refine lv_iconst (v := (1 : Int32)) hx hb dX1_readData_267 (by decide) ?_
                obtain ⟨y45, hy45, hF⟩ := bnd_some hF
                have hf9 := wA_in hD hA9 hS
                refine va_callv (va_runV (As := [.int s17.1, .int (1 : Int32)]) (rest := []) ⟨hx, hb, hml, hown, hts⟩ (kX1_readReferences l D ct ad Z G y44 H.size a s17.1 ((1 : Int32)) y45 hc hk hy45) (cwV 2 hts gX1_readData_X1_readReferences rfl rfl rfl (by decide +kernel) ⟨Nat.le_of_ble_eq_true rfl, Nat.le_of_ble_eq_true rfl⟩) ⟨fun a U g mk q => by obtain ⟨q0, q1, qP, qK, qD, qZ, qN⟩ := q; exact ⟨q0, q1, qP, va_K.moved (u := U) (U := U.calling g mk a) (Vm.Alike.refl U.vm) qK, qD, sF.moved (u := U) (U := U.calling g mk a) (Vm.Alike.refl U.vm) qZ, nF.same rfl qN⟩, va_recv hK hP (ci := 1) (q0 := a) rfl (wld_o ct ad G y44 hc hk (by decide)), fun U hU hW => ⟨rfl, by rw [hU], by rw [hU]; exact hP, va_K.moved hW.alike hK, hD.weaken (fun _ _ _ _ => trivial), by rw [hU]; exact ((hZ.kept hS.2.1).narrow hf9).moved hW.alike, hN.warm hW⟩⟩ rfl rfl hl.1 rfl (lv_room (Nat.le_of_ble_eq_true rfl)) dX1_readData_268 ⟨(Nat.zero_le _), (Nat.zero_le _)⟩) hS (fun q _ h => hf9 q h) hf9 (fun u t H locs ht hvm hw hB hz1 hk1 hS => ?_)
                obtain ⟨hP, hK9, hD9⟩ := hB
                rw [ht] at hP
                have hD := hD9.weaken (fun _ q _ h => hf9 q.1 h)
                refine lv_aload_n hx hb dX1_readData_271 rfl (lv_at hl 6 rfl) ?_
                refine lv_iload hx hb dX1_readData_272 (lv_at hl 1 rfl) ?_
                refine lv_iconst (v := (0 : Int32)) hx hb dX1_readData_274 (by decide) ?_
                obtain ⟨y46, hy46, hF⟩ := bnd_some hF
                have hf9 := wA_in hD hA9 hS
                refine va_callv (va_runV (As := [.int s17.1, .int (0 : Int32)]) (rest := []) ⟨hx, hb, hml, hown, hts⟩ (kX1_readVectors l D ct ad Z G y45 H.size a s17.1 ((0 : Int32)) y46 hc hk hy46) (cwV 2 hts gX1_readData_X1_readVectors rfl rfl rfl (by decide +kernel) ⟨Nat.le_of_ble_eq_true rfl, Nat.le_of_ble_eq_true rfl⟩) ⟨fun a U g mk q => by obtain ⟨q0, q1, qP, qK, qD, qZ, qN⟩ := q; exact ⟨q0, q1, qP, va_K.moved (u := U) (U := U.calling g mk a) (Vm.Alike.refl U.vm) qK, qD, sF.moved (u := U) (U := U.calling g mk a) (Vm.Alike.refl U.vm) qZ, nF.same rfl qN⟩, va_recv hK hP (ci := 1) (q0 := a) rfl (wld_o ct ad G y45 hc hk (by decide)), fun U hU hW => ⟨rfl, by rw [hU], by rw [hU]; exact hP, va_K.moved hW.alike hK, hD.weaken (fun _ _ _ _ => trivial), by rw [hU]; exact ((hZ.kept hS.2.1).narrow hf9).moved hW.alike, hN.warm hW⟩⟩ rfl rfl hl.1 rfl (lv_room (Nat.le_of_ble_eq_true rfl)) dX1_readData_275 ⟨(Nat.zero_le _), (Nat.zero_le _)⟩) hS (fun q _ h => hf9 q h) hf9 (fun u t H locs ht hvm hw hB hz1 hk1 hS => ?_)
                obtain ⟨hP, hK9, hD9⟩ := hB
                rw [ht] at hP
                have hD := hD9.weaken (fun _ q _ h => hf9 q.1 h)
                refine lv_aload_n hx hb dX1_readData_278 rfl (lv_at hl 6 rfl) ?_
                refine lv_iload hx hb dX1_readData_279 (lv_at hl 1 rfl) ?_
                refine lv_iconst (v := (1 : Int32)) hx hb dX1_readData_281 (by decide) ?_
                obtain ⟨y47, hy47, hF⟩ := bnd_some hF
                have hf9 := wA_in hD hA9 hS
                refine va_callv (va_runV (As := [.int s17.1, .int (1 : Int32)]) (rest := []) ⟨hx, hb, hml, hown, hts⟩ (kX1_readVectors l D ct ad Z G y46 H.size a s17.1 ((1 : Int32)) y47 hc hk hy47) (cwV 2 hts gX1_readData_X1_readVectors rfl rfl rfl (by decide +kernel) ⟨Nat.le_of_ble_eq_true rfl, Nat.le_of_ble_eq_true rfl⟩) ⟨fun a U g mk q => by obtain ⟨q0, q1, qP, qK, qD, qZ, qN⟩ := q; exact ⟨q0, q1, qP, va_K.moved (u := U) (U := U.calling g mk a) (Vm.Alike.refl U.vm) qK, qD, sF.moved (u := U) (U := U.calling g mk a) (Vm.Alike.refl U.vm) qZ, nF.same rfl qN⟩, va_recv hK hP (ci := 1) (q0 := a) rfl (wld_o ct ad G y46 hc hk (by decide)), fun U hU hW => ⟨rfl, by rw [hU], by rw [hU]; exact hP, va_K.moved hW.alike hK, hD.weaken (fun _ _ _ _ => trivial), by rw [hU]; exact ((hZ.kept hS.2.1).narrow hf9).moved hW.alike, hN.warm hW⟩⟩ rfl rfl hl.1 rfl (lv_room (Nat.le_of_ble_eq_true rfl)) dX1_readData_282 ⟨(Nat.zero_le _), (Nat.zero_le _)⟩) hS (fun q _ h => hf9 q h) hf9 (fun u t H locs ht hvm hw hB hz1 hk1 hS => ?_)
                obtain ⟨hP, hK9, hD9⟩ := hB
                rw [ht] at hP
                have hD := hD9.weaken (fun _ q _ h => hf9 q.1 h)
                refine lv_aload_n hx hb dX1_readData_285 rfl (lv_at hl 6 rfl) ?_
                refine lv_iload hx hb dX1_readData_286 (lv_at hl 1 rfl) ?_
                obtain ⟨y48, hy48, hF⟩ := bnd_some hF
                have hf9 := wA_in hD hA9 hS
                refine va_callv (va_runV (As := [.int s17.1]) (rest := []) ⟨hx, hb, hml, hown, hts⟩ (kX1_readPattern l D ct ad Z G y47 H.size a s17.1 y48 hc hk hy48) (cwV 1 hts gX1_readData_X1_readPattern rfl rfl rfl (by decide +kernel) ⟨Nat.le_of_ble_eq_true rfl, Nat.le_of_ble_eq_true rfl⟩) ⟨fun a U g mk q => by obtain ⟨q0, q1, qP, qK, qD, qZ, qN⟩ := q; exact ⟨q0, q1, qP, va_K.moved (u := U) (U := U.calling g mk a) (Vm.Alike.refl U.vm) qK, qD, sF.moved (u := U) (U := U.calling g mk a) (Vm.Alike.refl U.vm) qZ, nF.same rfl qN⟩, va_recv hK hP (ci := 1) (q0 := a) rfl (wld_o ct ad G y47 hc hk (by decide)), fun U hU hW => ⟨rfl, by rw [hU], by rw [hU]; exact hP, va_K.moved hW.alike hK, hD.weaken (fun _ _ _ _ => trivial), by rw [hU]; exact ((hZ.kept hS.2.1).narrow hf9).moved hW.alike, hN.warm hW⟩⟩ rfl rfl hl.1 rfl (lv_room (Nat.le_of_ble_eq_true rfl)) dX1_readData_288 ⟨(Nat.zero_le _), (Nat.zero_le _)⟩) hS (fun q _ h => hf9 q h) hf9 (fun u t H locs ht hvm hw hB hz1 hk1 hS => ?_)
                obtain ⟨hP, hK9, hD9⟩ := hB
                rw [ht] at hP
                have hD := hD9.weaken (fun _ q _ h => hf9 q.1 h)
                refine lv_aload_n hx hb dX1_readData_291 rfl (lv_at hl 6 rfl) ?_
                refine lv_iload hx hb dX1_readData_292 (lv_at hl 1 rfl) ?_
                obtain ⟨y49, hy49, hF⟩ := bnd_some hF
                have hf9 := wA_in hD hA9 hS
                refine va_callv (va_runV (As := [.int s17.1]) (rest := []) ⟨hx, hb, hml, hown, hts⟩ (kX1_readLevels l D ct ad Z G y48 H.size a s17.1 y49 hc hk hy49) (cwV 1 hts gX1_readData_X1_readLevels rfl rfl rfl (by decide +kernel) ⟨Nat.le_of_ble_eq_true rfl, Nat.le_of_ble_eq_true rfl⟩) ⟨fun a U g mk q => by obtain ⟨q0, q1, qP, qK, qD, qZ, qN⟩ := q; exact ⟨q0, q1, qP, va_K.moved (u := U) (U := U.calling g mk a) (Vm.Alike.refl U.vm) qK, qD, sF.moved (u := U) (U := U.calling g mk a) (Vm.Alike.refl U.vm) qZ, nF.same rfl qN⟩, va_recv hK hP (ci := 1) (q0 := a) rfl (wld_o ct ad G y48 hc hk (by decide)), fun U hU hW => ⟨rfl, by rw [hU], by rw [hU]; exact hP, va_K.moved hW.alike hK, hD.weaken (fun _ _ _ _ => trivial), by rw [hU]; exact ((hZ.kept hS.2.1).narrow hf9).moved hW.alike, hN.warm hW⟩⟩ rfl rfl hl.1 rfl (lv_room (Nat.le_of_ble_eq_true rfl)) dX1_readData_294 ⟨(Nat.zero_le _), (Nat.zero_le _)⟩) hS (fun q _ h => hf9 q h) hf9 (fun u t H locs ht hvm hw hB hz1 hk1 hS => ?_)
                obtain ⟨hP, hK9, hD9⟩ := hB
                rw [ht] at hP
                have hD := hD9.weaken (fun _ q _ h => hf9 q.1 h)
                obtain rfl := Option.some.inj hF
                exact J23 _ _ _ hP hD hS (lv_sub hl [0, 1, 2, 3, 4, 5, 6] rfl)
              clear hF
              have hF := hy43
              clear hy43
              refine lv_icmp_ne (tgt := 257) hx hb dX1_readData_240 (by decide) (fun c50 => ?_) (fun c50 => ?_)
              · rw [if_neg c50] at hF
                obtain rfl := Option.some.inj hF
                exact J43 _ _ _ hP hD hS (lv_sub hl [0, 1, 2, 3, 4, 5, 6] rfl)
              · rw [if_pos c50] at hF
                refine lv_aload_n hx hb dX1_readData_243 rfl (lv_at hl 6 rfl) ?_
                refine va_get (D := D) (ci := 1) (v := va_re ad (y37.2 a 0)) (C := RX1) (T := TX1) (N := 22) hx hb hts (mus hf_X1) hown hK hP a (wld_o ct ad G y37 hc hk (by decide)) rfl 0 (by decide) (hts (.fieldLink RX1 12 "VideoSuite$Decoder" "reader" "LVideoSuite$Reader;") (mu mw_640)) (fun _ h9 => h9) rfl dX1_readData_244 ?_
                refine lv_aload_n hx hb dX1_readData_247 rfl (lv_at hl 6 rfl) ?_
                refine va_get (D := D) (ci := 1) (v := va_re ad (y37.2 a 3)) (C := RX1) (T := TX1) (N := 22) hx hb hts (mus hf_X1) hown hK hP a (wld_o ct ad G y37 hc hk (by decide)) rfl 3 (by decide) (hts (.fieldLink RX1 35 "VideoSuite$Decoder" "samples" "LVideoSuite$Samples;") (mu mw_645)) (fun _ h9 => h9) rfl dX1_readData_248 ?_
                obtain ⟨b51, ho51, hc51, hk51, hF⟩ := dr_some hF
                refine W_st (st' := [.ref (ad b51), va_re ad (y37.2 a 0)]) (by rw [va_some ho51]) ?_
                refine va_get (D := D) (ci := 6) (v := va_re ad (y37.2 b51 0)) (C := RX6) (T := TX6) (N := 14) hx hb hts (mus hf_X6) hown hK hP b51 (wld_o ct ad G y37 hc51 hk51 (by decide)) rfl 0 (by decide) (hts (.fieldLink RX1 358 "VideoSuite$Samples" "guess" "[I") (mu mw_534)) (fun _ h9 => h9) rfl dX1_readData_251 ?_
                obtain ⟨b52, ho52, hc52, hk52, hF⟩ := dr_some hF
                refine W_st (st' := [va_re ad (y37.2 b51 0), .ref (ad b52)]) (by rw [va_some ho52]) ?_
                obtain ⟨y53, hy53, hF⟩ := bnd_some hF
                have hf9 := wA_in hD hA9 hS
                refine va_callv (va_runV (As := [va_re ad (y37.2 b51 0)]) (rest := []) ⟨hx, hb, hml, hown, hts⟩ (kX5_rawSamples l D ct ad Z G y37 H.size b52 ((y37.2 b51 0)) y53 hc52 hk52 hy53) (cwV 1 hts gX1_readData_X5_rawSamples rfl rfl rfl (by decide +kernel) ⟨Nat.le_of_ble_eq_true rfl, Nat.le_of_ble_eq_true rfl⟩) ⟨fun a U g mk q => by obtain ⟨q0, q1, qP, qK, qD, qZ, qN⟩ := q; exact ⟨q0, q1, qP, va_K.moved (u := U) (U := U.calling g mk a) (Vm.Alike.refl U.vm) qK, qD, sF.moved (u := U) (U := U.calling g mk a) (Vm.Alike.refl U.vm) qZ, nF.same rfl qN⟩, va_recv hK hP (ci := 5) (q0 := b52) rfl (wld_o ct ad G y37 hc52 hk52 (by decide)), fun U hU hW => ⟨rfl, by rw [hU], by rw [hU]; exact hP, va_K.moved hW.alike hK, hD.weaken (fun _ _ _ _ => trivial), by rw [hU]; exact ((hZ.kept hS.2.1).narrow hf9).moved hW.alike, hN.warm hW⟩⟩ rfl rfl hl.1 rfl (lv_room (Nat.le_of_ble_eq_true rfl)) dX1_readData_254 ⟨(Nat.zero_le _), (Nat.zero_le _)⟩) hS (fun q _ h => hf9 q h) hf9 (fun u t H locs ht hvm hw hB hz1 hk1 hS => ?_)
                obtain ⟨hP, hK9, hD9⟩ := hB
                rw [ht] at hP
                have hD := hD9.weaken (fun _ q _ h => hf9 q.1 h)
                obtain rfl := Option.some.inj hF
                exact J43 _ _ _ hP hD hS (lv_sub hl [0, 1, 2, 3, 4, 5, 6] rfl)
            · rw [if_neg c36] at hF
              refine lv_iload_n hx hb dX1_readData_192 rfl (lv_at hl 4 rfl) ?_
              obtain ⟨y54, hy54, hF⟩ := bnd_some hF
              have J54 : ∀ (H : Heap) (locs : List Loc) (ls : Array Slot), va_P D classes (wld ct ad G y54) H → va_D A (wld ct ad G y54) → va_S A s.heap H locs → lv_has ls 9 [(6, .int s17.2.1), (5, .int s17.1), (4, .int y11.2), (3, .int y9), (2, .int y5), (1, va_re ad (M.2 b2 0)), (0, .ref (ad a))] → W p l e (headSpec wuX1_readData ({ frames := 6, cells := 0, slots := 0, locals := 166 })).room s m ([.ref (ad a)] : List Value).toArray below meth c H locs 0 0 (MQ below (va_Qv (fun (_ : Unit) => True) (fun _ t => kE D ct ad G A y t) A) ([.ref (ad a)] : List Value).toArray s 0 0 A) (F0 m 297 ls []) := by
                intro H locs ls hP hD hS hl
                obtain rfl := Option.some.inj hF
                exact J23 _ _ _ hP hD hS (lv_sub hl [0, 1, 2, 3, 4, 5, 6] rfl)
              clear hF
              have hF := hy54
              clear hy54
              refine lv_if_ne (tgt := 218) hx hb dX1_readData_193 (by decide) (fun c55 => ?_) (fun c55 => ?_)
              · rw [if_neg c55] at hF
                refine lv_aload_n hx hb dX1_readData_218 rfl (lv_at hl 6 rfl) ?_
                refine lv_iload hx hb dX1_readData_219 (lv_at hl 1 rfl) ?_
                obtain ⟨y56, hy56, hF⟩ := bnd_some hF
                have hf9 := wA_in hD hA9 hS
                refine va_callv (va_runV (As := [.int s17.1]) (rest := []) ⟨hx, hb, hml, hown, hts⟩ (kX1_readBlock l D ct ad Z G y22 H.size a s17.1 y56 hc hk hy56) (cwV 1 hts gX1_readData_X1_readBlock rfl rfl rfl (by decide +kernel) ⟨Nat.le_of_ble_eq_true rfl, Nat.le_of_ble_eq_true rfl⟩) ⟨fun a U g mk q => by obtain ⟨q0, q1, qP, qK, qD, qZ, qN⟩ := q; exact ⟨q0, q1, qP, va_K.moved (u := U) (U := U.calling g mk a) (Vm.Alike.refl U.vm) qK, qD, sF.moved (u := U) (U := U.calling g mk a) (Vm.Alike.refl U.vm) qZ, nF.same rfl qN⟩, va_recv hK hP (ci := 1) (q0 := a) rfl (wld_o ct ad G y22 hc hk (by decide)), fun U hU hW => ⟨rfl, by rw [hU], by rw [hU]; exact hP, va_K.moved hW.alike hK, hD.weaken (fun _ _ _ _ => trivial), by rw [hU]; exact ((hZ.kept hS.2.1).narrow hf9).moved hW.alike, hN.warm hW⟩⟩ rfl rfl hl.1 rfl (lv_room (Nat.le_of_ble_eq_true rfl)) dX1_readData_221 ⟨(Nat.zero_le _), (Nat.zero_le _)⟩) hS (fun q _ h => hf9 q h) hf9 (fun u t H locs ht hvm hw hB hz1 hk1 hS => ?_)
                obtain ⟨hP, hK9, hD9⟩ := hB
                rw [ht] at hP
                have hD := hD9.weaken (fun _ q _ h => hf9 q.1 h)
                refine lv_aload_n hx hb dX1_readData_224 rfl (lv_at hl 6 rfl) ?_
                refine va_get (D := D) (ci := 1) (v := va_re ad (y56.2 a 2)) (C := RX1) (T := TX1) (N := 22) hx hb hts (mus hf_X1) hown hK hP a (wld_o ct ad G y56 hc hk (by decide)) rfl 2 (by decide) (hts (.fieldLink RX1 28 "VideoSuite$Decoder" "work" "LVideoSuite$Work;") (mu mw_644)) (fun _ h9 => h9) rfl dX1_readData_225 ?_
                obtain ⟨b57, ho57, hc57, hk57, hF⟩ := dr_some hF
                refine W_st (st' := [.ref (ad b57)]) (by rw [va_some ho57]) ?_
                refine va_get (D := D) (ci := 9) (v := va_re ad (y56.2 b57 6)) (C := RX9) (T := TX9) (N := 20) hx hb hts (mus hf_X9) hown hK hP b57 (wld_o ct ad G y56 hc57 hk57 (by decide)) rfl 6 (by decide) (hts (.fieldLink RX1 355 "VideoSuite$Work" "info" "[I") (mu mw_444)) (fun _ h9 => h9) rfl dX1_readData_228 ?_
                refine lv_bipush (v := (8 : Int32)) hx hb dX1_readData_231 (by decide) ?_
                refine lv_iload hx hb dX1_readData_233 (lv_at hl 1 rfl) ?_
                refine lv_imul hx hb dX1_readData_235 ?_
                obtain ⟨x58, ex58, hF⟩ := ltt_some hF
                refine lv_topi (fun zx58 ezx58 => ?_)
                obtain rfl : x58 = zx58 := ex58.trans ezx58.symm
                refine lv_iconst (v := (0 : Int32)) hx hb dX1_readData_236 (by decide) ?_
                refine lv_iadd hx hb dX1_readData_237 ?_
                obtain ⟨x59, ex59, hF⟩ := ltt_some hF
                refine lv_topi (fun zx59 ezx59 => ?_)
                obtain rfl : x59 = zx59 := ex59.trans ezx59.symm
                obtain ⟨b60, ho60, hc60, hk60, hF⟩ := dr_some hF
                refine W_st (st' := [.int x59, .ref (ad b60)]) (by rw [va_some ho60]) ?_
                obtain ⟨hvc, hF⟩ := chk_some hF
                refine va_iald hx hb hK hP b60 1 (wld_i ct ad G y56 hc60 hk60) rfl hvc dX1_readData_238 ?_
                obtain ⟨x61, ex61, hF⟩ := ltt_some hF
                refine lv_topi (fun zx61 ezx61 => ?_)
                obtain rfl : x61 = zx61 := ex61.trans ezx61.symm
                refine lv_iconst (v := (2 : Int32)) hx hb dX1_readData_239 (by decide) ?_
                obtain ⟨y62, hy62, hF⟩ := bnd_some hF
                have J62 : ∀ (H : Heap) (locs : List Loc) (ls : Array Slot), va_P D classes (wld ct ad G y62) H → va_D A (wld ct ad G y62) → va_S A s.heap H locs → lv_has ls 9 [(6, .int s17.2.1), (5, .int s17.1), (4, .int y11.2), (3, .int y9), (2, .int y5), (1, va_re ad (M.2 b2 0)), (0, .ref (ad a))] → W p l e (headSpec wuX1_readData ({ frames := 6, cells := 0, slots := 0, locals := 166 })).room s m ([.ref (ad a)] : List Value).toArray below meth c H locs 0 0 (MQ below (va_Qv (fun (_ : Unit) => True) (fun _ t => kE D ct ad G A y t) A) ([.ref (ad a)] : List Value).toArray s 0 0 A) (F0 m 257 ls []) := by
                  intro H locs ls hP hD hS hl
                  refine lv_aload_n hx hb dX1_readData_257 rfl (lv_at hl 6 rfl) ?_
                  refine lv_iload hx hb dX1_readData_258 (lv_at hl 1 rfl) ?_
                  refine lv_iconst (v := (0 : Int32)) hx hb dX1_readData_260 (by decide) ?_
                  obtain ⟨y63, hy63, hF⟩ := bnd_some hF
                  have hf9 := wA_in hD hA9 hS
                  refine va_callv (va_runV (As := [.int s17.1, .int (0 : Int32)]) (rest := []) ⟨hx, hb, hml, hown, hts⟩ (kX1_readReferences l D ct ad Z G y62 H.size a s17.1 ((0 : Int32)) y63 hc hk hy63) (cwV 2 hts gX1_readData_X1_readReferences rfl rfl rfl (by decide +kernel) ⟨Nat.le_of_ble_eq_true rfl, Nat.le_of_ble_eq_true rfl⟩) ⟨fun a U g mk q => by obtain ⟨q0, q1, qP, qK, qD, qZ, qN⟩ := q; exact ⟨q0, q1, qP, va_K.moved (u := U) (U := U.calling g mk a) (Vm.Alike.refl U.vm) qK, qD, sF.moved (u := U) (U := U.calling g mk a) (Vm.Alike.refl U.vm) qZ, nF.same rfl qN⟩, va_recv hK hP (ci := 1) (q0 := a) rfl (wld_o ct ad G y62 hc hk (by decide)), fun U hU hW => ⟨rfl, by rw [hU], by rw [hU]; exact hP, va_K.moved hW.alike hK, hD.weaken (fun _ _ _ _ => trivial), by rw [hU]; exact ((hZ.kept hS.2.1).narrow hf9).moved hW.alike, hN.warm hW⟩⟩ rfl rfl hl.1 rfl (lv_room (Nat.le_of_ble_eq_true rfl)) dX1_readData_261 ⟨(Nat.zero_le _), (Nat.zero_le _)⟩) hS (fun q _ h => hf9 q h) hf9 (fun u t H locs ht hvm hw hB hz1 hk1 hS => ?_)
                  obtain ⟨hP, hK9, hD9⟩ := hB
                  rw [ht] at hP
                  have hD := hD9.weaken (fun _ q _ h => hf9 q.1 h)
                  refine lv_aload_n hx hb dX1_readData_264 rfl (lv_at hl 6 rfl) ?_
                  refine lv_iload hx hb dX1_readData_265 (lv_at hl 1 rfl) ?_
                  refine lv_iconst (v := (1 : Int32)) hx hb dX1_readData_267 (by decide) ?_
                  obtain ⟨y64, hy64, hF⟩ := bnd_some hF
                  have hf9 := wA_in hD hA9 hS
                  refine va_callv (va_runV (As := [.int s17.1, .int (1 : Int32)]) (rest := []) ⟨hx, hb, hml, hown, hts⟩ (kX1_readReferences l D ct ad Z G y63 H.size a s17.1 ((1 : Int32)) y64 hc hk hy64) (cwV 2 hts gX1_readData_X1_readReferences rfl rfl rfl (by decide +kernel) ⟨Nat.le_of_ble_eq_true rfl, Nat.le_of_ble_eq_true rfl⟩) ⟨fun a U g mk q => by obtain ⟨q0, q1, qP, qK, qD, qZ, qN⟩ := q; exact ⟨q0, q1, qP, va_K.moved (u := U) (U := U.calling g mk a) (Vm.Alike.refl U.vm) qK, qD, sF.moved (u := U) (U := U.calling g mk a) (Vm.Alike.refl U.vm) qZ, nF.same rfl qN⟩, va_recv hK hP (ci := 1) (q0 := a) rfl (wld_o ct ad G y63 hc hk (by decide)), fun U hU hW => ⟨rfl, by rw [hU], by rw [hU]; exact hP, va_K.moved hW.alike hK, hD.weaken (fun _ _ _ _ => trivial), by rw [hU]; exact ((hZ.kept hS.2.1).narrow hf9).moved hW.alike, hN.warm hW⟩⟩ rfl rfl hl.1 rfl (lv_room (Nat.le_of_ble_eq_true rfl)) dX1_readData_268 ⟨(Nat.zero_le _), (Nat.zero_le _)⟩) hS (fun q _ h => hf9 q h) hf9 (fun u t H locs ht hvm hw hB hz1 hk1 hS => ?_)
                  obtain ⟨hP, hK9, hD9⟩ := hB
                  rw [ht] at hP
                  have hD := hD9.weaken (fun _ q _ h => hf9 q.1 h)
                  refine lv_aload_n hx hb dX1_readData_271 rfl (lv_at hl 6 rfl) ?_
                  refine lv_iload hx hb dX1_readData_272 (lv_at hl 1 rfl) ?_
                  refine lv_iconst (v := (0 : Int32)) hx hb dX1_readData_274 (by decide) ?_
                  obtain ⟨y65, hy65, hF⟩ := bnd_some hF
                  have hf9 := wA_in hD hA9 hS
                  refine va_callv (va_runV (As := [.int s17.1, .int (0 : Int32)]) (rest := []) ⟨hx, hb, hml, hown, hts⟩ (kX1_readVectors l D ct ad Z G y64 H.size a s17.1 ((0 : Int32)) y65 hc hk hy65) (cwV 2 hts gX1_readData_X1_readVectors rfl rfl rfl (by decide +kernel) ⟨Nat.le_of_ble_eq_true rfl, Nat.le_of_ble_eq_true rfl⟩) ⟨fun a U g mk q => by obtain ⟨q0, q1, qP, qK, qD, qZ, qN⟩ := q; exact ⟨q0, q1, qP, va_K.moved (u := U) (U := U.calling g mk a) (Vm.Alike.refl U.vm) qK, qD, sF.moved (u := U) (U := U.calling g mk a) (Vm.Alike.refl U.vm) qZ, nF.same rfl qN⟩, va_recv hK hP (ci := 1) (q0 := a) rfl (wld_o ct ad G y64 hc hk (by decide)), fun U hU hW => ⟨rfl, by rw [hU], by rw [hU]; exact hP, va_K.moved hW.alike hK, hD.weaken (fun _ _ _ _ => trivial), by rw [hU]; exact ((hZ.kept hS.2.1).narrow hf9).moved hW.alike, hN.warm hW⟩⟩ rfl rfl hl.1 rfl (lv_room (Nat.le_of_ble_eq_true rfl)) dX1_readData_275 ⟨(Nat.zero_le _), (Nat.zero_le _)⟩) hS (fun q _ h => hf9 q h) hf9 (fun u t H locs ht hvm hw hB hz1 hk1 hS => ?_)
                  obtain ⟨hP, hK9, hD9⟩ := hB
                  rw [ht] at hP
                  have hD := hD9.weaken (fun _ q _ h => hf9 q.1 h)
                  refine lv_aload_n hx hb dX1_readData_278 rfl (lv_at hl 6 rfl) ?_
                  refine lv_iload hx hb dX1_readData_279 (lv_at hl 1 rfl) ?_
                  refine lv_iconst (v := (1 : Int32)) hx hb dX1_readData_281 (by decide) ?_
                  obtain ⟨y66, hy66, hF⟩ := bnd_some hF
                  have hf9 := wA_in hD hA9 hS
                  refine va_callv (va_runV (As := [.int s17.1, .int (1 : Int32)]) (rest := []) ⟨hx, hb, hml, hown, hts⟩ (kX1_readVectors l D ct ad Z G y65 H.size a s17.1 ((1 : Int32)) y66 hc hk hy66) (cwV 2 hts gX1_readData_X1_readVectors rfl rfl rfl (by decide +kernel) ⟨Nat.le_of_ble_eq_true rfl, Nat.le_of_ble_eq_true rfl⟩) ⟨fun a U g mk q => by obtain ⟨q0, q1, qP, qK, qD, qZ, qN⟩ := q; exact ⟨q0, q1, qP, va_K.moved (u := U) (U := U.calling g mk a) (Vm.Alike.refl U.vm) qK, qD, sF.moved (u := U) (U := U.calling g mk a) (Vm.Alike.refl U.vm) qZ, nF.same rfl qN⟩, va_recv hK hP (ci := 1) (q0 := a) rfl (wld_o ct ad G y65 hc hk (by decide)), fun U hU hW => ⟨rfl, by rw [hU], by rw [hU]; exact hP, va_K.moved hW.alike hK, hD.weaken (fun _ _ _ _ => trivial), by rw [hU]; exact ((hZ.kept hS.2.1).narrow hf9).moved hW.alike, hN.warm hW⟩⟩ rfl rfl hl.1 rfl (lv_room (Nat.le_of_ble_eq_true rfl)) dX1_readData_282 ⟨(Nat.zero_le _), (Nat.zero_le _)⟩) hS (fun q _ h => hf9 q h) hf9 (fun u t H locs ht hvm hw hB hz1 hk1 hS => ?_)
                  obtain ⟨hP, hK9, hD9⟩ := hB
                  rw [ht] at hP
                  have hD := hD9.weaken (fun _ q _ h => hf9 q.1 h)
                  refine lv_aload_n hx hb dX1_readData_285 rfl (lv_at hl 6 rfl) ?_
                  refine lv_iload hx hb dX1_readData_286 (lv_at hl 1 rfl) ?_
                  obtain ⟨y67, hy67, hF⟩ := bnd_some hF
                  have hf9 := wA_in hD hA9 hS
                  refine va_callv (va_runV (As := [.int s17.1]) (rest := []) ⟨hx, hb, hml, hown, hts⟩ (kX1_readPattern l D ct ad Z G y66 H.size a s17.1 y67 hc hk hy67) (cwV 1 hts gX1_readData_X1_readPattern rfl rfl rfl (by decide +kernel) ⟨Nat.le_of_ble_eq_true rfl, Nat.le_of_ble_eq_true rfl⟩) ⟨fun a U g mk q => by obtain ⟨q0, q1, qP, qK, qD, qZ, qN⟩ := q; exact ⟨q0, q1, qP, va_K.moved (u := U) (U := U.calling g mk a) (Vm.Alike.refl U.vm) qK, qD, sF.moved (u := U) (U := U.calling g mk a) (Vm.Alike.refl U.vm) qZ, nF.same rfl qN⟩, va_recv hK hP (ci := 1) (q0 := a) rfl (wld_o ct ad G y66 hc hk (by decide)), fun U hU hW => ⟨rfl, by rw [hU], by rw [hU]; exact hP, va_K.moved hW.alike hK, hD.weaken (fun _ _ _ _ => trivial), by rw [hU]; exact ((hZ.kept hS.2.1).narrow hf9).moved hW.alike, hN.warm hW⟩⟩ rfl rfl hl.1 rfl (lv_room (Nat.le_of_ble_eq_true rfl)) dX1_readData_288 ⟨(Nat.zero_le _), (Nat.zero_le _)⟩) hS (fun q _ h => hf9 q h) hf9 (fun u t H locs ht hvm hw hB hz1 hk1 hS => ?_)
                  obtain ⟨hP, hK9, hD9⟩ := hB
                  rw [ht] at hP
                  have hD := hD9.weaken (fun _ q _ h => hf9 q.1 h)
                  refine lv_aload_n hx hb dX1_readData_291 rfl (lv_at hl 6 rfl) ?_
                  refine lv_iload hx hb dX1_readData_292 (lv_at hl 1 rfl) ?_
                  obtain ⟨y68, hy68, hF⟩ := bnd_some hF
                  have hf9 := wA_in hD hA9 hS
                  refine va_callv (va_runV (As := [.int s17.1]) (rest := []) ⟨hx, hb, hml, hown, hts⟩ (kX1_readLevels l D ct ad Z G y67 H.size a s17.1 y68 hc hk hy68) (cwV 1 hts gX1_readData_X1_readLevels rfl rfl rfl (by decide +kernel) ⟨Nat.le_of_ble_eq_true rfl, Nat.le_of_ble_eq_true rfl⟩) ⟨fun a U g mk q => by obtain ⟨q0, q1, qP, qK, qD, qZ, qN⟩ := q; exact ⟨q0, q1, qP, va_K.moved (u := U) (U := U.calling g mk a) (Vm.Alike.refl U.vm) qK, qD, sF.moved (u := U) (U := U.calling g mk a) (Vm.Alike.refl U.vm) qZ, nF.same rfl qN⟩, va_recv hK hP (ci := 1) (q0 := a) rfl (wld_o ct ad G y67 hc hk (by decide)), fun U hU hW => ⟨rfl, by rw [hU], by rw [hU]; exact hP, va_K.moved hW.alike hK, hD.weaken (fun _ _ _ _ => trivial), by rw [hU]; exact ((hZ.kept hS.2.1).narrow hf9).moved hW.alike, hN.warm hW⟩⟩ rfl rfl hl.1 rfl (lv_room (Nat.le_of_ble_eq_true rfl)) dX1_readData_294 ⟨(Nat.zero_le _), (Nat.zero_le _)⟩) hS (fun q _ h => hf9 q h) hf9 (fun u t H locs ht hvm hw hB hz1 hk1 hS => ?_)
                  obtain ⟨hP, hK9, hD9⟩ := hB
                  rw [ht] at hP
                  have hD := hD9.weaken (fun _ q _ h => hf9 q.1 h)
                  obtain rfl := Option.some.inj hF
                  exact J54 _ _ _ hP hD hS (lv_sub hl [0, 1, 2, 3, 4, 5, 6] rfl)
                clear hF
                have hF := hy62
                clear hy62
                refine lv_icmp_ne (tgt := 257) hx hb dX1_readData_240 (by decide) (fun c69 => ?_) (fun c69 => ?_)
                · rw [if_neg c69] at hF
                  obtain rfl := Option.some.inj hF
                  exact J62 _ _ _ hP hD hS (lv_sub hl [0, 1, 2, 3, 4, 5, 6] rfl)
                · rw [if_pos c69] at hF
                  refine lv_aload_n hx hb dX1_readData_243 rfl (lv_at hl 6 rfl) ?_
                  refine va_get (D := D) (ci := 1) (v := va_re ad (y56.2 a 0)) (C := RX1) (T := TX1) (N := 22) hx hb hts (mus hf_X1) hown hK hP a (wld_o ct ad G y56 hc hk (by decide)) rfl 0 (by decide) (hts (.fieldLink RX1 12 "VideoSuite$Decoder" "reader" "LVideoSuite$Reader;") (mu mw_640)) (fun _ h9 => h9) rfl dX1_readData_244 ?_
                  refine lv_aload_n hx hb dX1_readData_247 rfl (lv_at hl 6 rfl) ?_
                  refine va_get (D := D) (ci := 1) (v := va_re ad (y56.2 a 3)) (C := RX1) (T := TX1) (N := 22) hx hb hts (mus hf_X1) hown hK hP a (wld_o ct ad G y56 hc hk (by decide)) rfl 3 (by decide) (hts (.fieldLink RX1 35 "VideoSuite$Decoder" "samples" "LVideoSuite$Samples;") (mu mw_645)) (fun _ h9 => h9) rfl dX1_readData_248 ?_
                  obtain ⟨b70, ho70, hc70, hk70, hF⟩ := dr_some hF
                  refine W_st (st' := [.ref (ad b70), va_re ad (y56.2 a 0)]) (by rw [va_some ho70]) ?_
                  refine va_get (D := D) (ci := 6) (v := va_re ad (y56.2 b70 0)) (C := RX6) (T := TX6) (N := 14) hx hb hts (mus hf_X6) hown hK hP b70 (wld_o ct ad G y56 hc70 hk70 (by decide)) rfl 0 (by decide) (hts (.fieldLink RX1 358 "VideoSuite$Samples" "guess" "[I") (mu mw_534)) (fun _ h9 => h9) rfl dX1_readData_251 ?_
                  obtain ⟨b71, ho71, hc71, hk71, hF⟩ := dr_some hF
                  refine W_st (st' := [va_re ad (y56.2 b70 0), .ref (ad b71)]) (by rw [va_some ho71]) ?_
                  obtain ⟨y72, hy72, hF⟩ := bnd_some hF
                  have hf9 := wA_in hD hA9 hS
                  refine va_callv (va_runV (As := [va_re ad (y56.2 b70 0)]) (rest := []) ⟨hx, hb, hml, hown, hts⟩ (kX5_rawSamples l D ct ad Z G y56 H.size b71 ((y56.2 b70 0)) y72 hc71 hk71 hy72) (cwV 1 hts gX1_readData_X5_rawSamples rfl rfl rfl (by decide +kernel) ⟨Nat.le_of_ble_eq_true rfl, Nat.le_of_ble_eq_true rfl⟩) ⟨fun a U g mk q => by obtain ⟨q0, q1, qP, qK, qD, qZ, qN⟩ := q; exact ⟨q0, q1, qP, va_K.moved (u := U) (U := U.calling g mk a) (Vm.Alike.refl U.vm) qK, qD, sF.moved (u := U) (U := U.calling g mk a) (Vm.Alike.refl U.vm) qZ, nF.same rfl qN⟩, va_recv hK hP (ci := 5) (q0 := b71) rfl (wld_o ct ad G y56 hc71 hk71 (by decide)), fun U hU hW => ⟨rfl, by rw [hU], by rw [hU]; exact hP, va_K.moved hW.alike hK, hD.weaken (fun _ _ _ _ => trivial), by rw [hU]; exact ((hZ.kept hS.2.1).narrow hf9).moved hW.alike, hN.warm hW⟩⟩ rfl rfl hl.1 rfl (lv_room (Nat.le_of_ble_eq_true rfl)) dX1_readData_254 ⟨(Nat.zero_le _), (Nat.zero_le _)⟩) hS (fun q _ h => hf9 q h) hf9 (fun u t H locs ht hvm hw hB hz1 hk1 hS => ?_)
                  obtain ⟨hP, hK9, hD9⟩ := hB
                  rw [ht] at hP
                  have hD := hD9.weaken (fun _ q _ h => hf9 q.1 h)
                  obtain rfl := Option.some.inj hF
                  exact J62 _ _ _ hP hD hS (lv_sub hl [0, 1, 2, 3, 4, 5, 6] rfl)
              · rw [if_pos c55] at hF
                refine lv_aload_n hx hb dX1_readData_196 rfl (lv_at hl 6 rfl) ?_
                refine va_get (D := D) (ci := 1) (v := va_re ad (y22.2 a 0)) (C := RX1) (T := TX1) (N := 22) hx hb hts (mus hf_X1) hown hK hP a (wld_o ct ad G y22 hc hk (by decide)) rfl 0 (by decide) (hts (.fieldLink RX1 12 "VideoSuite$Decoder" "reader" "LVideoSuite$Reader;") (mu mw_640)) (fun _ h9 => h9) rfl dX1_readData_197 ?_
                refine lv_iconst (v := (0 : Int32)) hx hb dX1_readData_200 (by decide) ?_
                refine lv_iconst (v := (0 : Int32)) hx hb dX1_readData_201 (by decide) ?_
                obtain ⟨b73, ho73, hc73, hk73, hF⟩ := dr_some hF
                refine W_st (st' := [.int (0 : Int32), .int (0 : Int32), .ref (ad b73)]) (by rw [va_some ho73]) ?_
                obtain ⟨y74, hy74, hF⟩ := bnd_some hF
                have hf9 := wA_in hD hA9 hS
                refine va_calli (va_runV (As := [.int (0 : Int32), .int (0 : Int32)]) (rest := []) ⟨hx, hb, hml, hown, hts⟩ (kX5_bit l D ct ad Z G y22 H.size b73 ((0 : Int32)) ((0 : Int32)) y74 hc73 hk73 hy74) (cwV 2 hts gX1_readData_X5_bit rfl rfl rfl (by decide +kernel) ⟨Nat.le_of_ble_eq_true rfl, Nat.le_of_ble_eq_true rfl⟩) ⟨fun a U g mk q => by obtain ⟨q0, q1, qP, qK, qD, qZ, qN⟩ := q; exact ⟨q0, q1, qP, va_K.moved (u := U) (U := U.calling g mk a) (Vm.Alike.refl U.vm) qK, qD, sF.moved (u := U) (U := U.calling g mk a) (Vm.Alike.refl U.vm) qZ, nF.same rfl qN⟩, va_recv hK hP (ci := 5) (q0 := b73) rfl (wld_o ct ad G y22 hc73 hk73 (by decide)), fun U hU hW => ⟨rfl, by rw [hU], by rw [hU]; exact hP, va_K.moved hW.alike hK, hD.weaken (fun _ _ _ _ => trivial), by rw [hU]; exact ((hZ.kept hS.2.1).narrow hf9).moved hW.alike, hN.warm hW⟩⟩ rfl rfl hl.1 rfl (lv_room (Nat.le_of_ble_eq_true rfl)) dX1_readData_202 ⟨(Nat.zero_le _), (Nat.zero_le _)⟩) hS (fun q _ h => hf9 q h) hf9 (fun r u t H locs ht hvm hw hB hz1 hk1 hS => ?_)
                obtain ⟨hP, hK9, hD9⟩ := hB
                rw [ht] at hP
                try dsimp only at hw
                subst hw
                have hD := hD9.weaken (fun _ q _ h => hf9 q.1 h)
                refine lv_iconst (v := (1 : Int32)) hx hb dX1_readData_205 (by decide) ?_
                obtain ⟨y75, hy75, hF⟩ := bnd_some hF
                have J75 : ∀ (H : Heap) (locs : List Loc) (ls : Array Slot), va_P D classes (wld ct ad G y75) H → va_D A (wld ct ad G y75) → va_S A s.heap H locs → lv_has ls 9 [(6, .int s17.2.1), (5, .int s17.1), (4, .int y11.2), (3, .int y9), (2, .int y5), (1, va_re ad (M.2 b2 0)), (0, .ref (ad a))] → W p l e (headSpec wuX1_readData ({ frames := 6, cells := 0, slots := 0, locals := 166 })).room s m ([.ref (ad a)] : List Value).toArray below meth c H locs 0 0 (MQ below (va_Qv (fun (_ : Unit) => True) (fun _ t => kE D ct ad G A y t) A) ([.ref (ad a)] : List Value).toArray s 0 0 A) (F0 m 297 ls []) := by
                  intro H locs ls hP hD hS hl
                  obtain rfl := Option.some.inj hF
                  exact J54 _ _ _ hP hD hS (lv_sub hl [0, 1, 2, 3, 4, 5, 6] rfl)
                clear hF
                have hF := hy75
                clear hy75
                refine lv_icmp_ne (tgt := 218) hx hb dX1_readData_206 (by decide) (fun c76 => ?_) (fun c76 => ?_)
                · rw [if_neg c76] at hF
                  refine lv_aload_n hx hb dX1_readData_218 rfl (lv_at hl 6 rfl) ?_
                  refine lv_iload hx hb dX1_readData_219 (lv_at hl 1 rfl) ?_
                  obtain ⟨y77, hy77, hF⟩ := bnd_some hF
                  have hf9 := wA_in hD hA9 hS
                  refine va_callv (va_runV (As := [.int s17.1]) (rest := []) ⟨hx, hb, hml, hown, hts⟩ (kX1_readBlock l D ct ad Z G y74.1 H.size a s17.1 y77 hc hk hy77) (cwV 1 hts gX1_readData_X1_readBlock rfl rfl rfl (by decide +kernel) ⟨Nat.le_of_ble_eq_true rfl, Nat.le_of_ble_eq_true rfl⟩) ⟨fun a U g mk q => by obtain ⟨q0, q1, qP, qK, qD, qZ, qN⟩ := q; exact ⟨q0, q1, qP, va_K.moved (u := U) (U := U.calling g mk a) (Vm.Alike.refl U.vm) qK, qD, sF.moved (u := U) (U := U.calling g mk a) (Vm.Alike.refl U.vm) qZ, nF.same rfl qN⟩, va_recv hK hP (ci := 1) (q0 := a) rfl (wld_o ct ad G y74.1 hc hk (by decide)), fun U hU hW => ⟨rfl, by rw [hU], by rw [hU]; exact hP, va_K.moved hW.alike hK, hD.weaken (fun _ _ _ _ => trivial), by rw [hU]; exact ((hZ.kept hS.2.1).narrow hf9).moved hW.alike, hN.warm hW⟩⟩ rfl rfl hl.1 rfl (lv_room (Nat.le_of_ble_eq_true rfl)) dX1_readData_221 ⟨(Nat.zero_le _), (Nat.zero_le _)⟩) hS (fun q _ h => hf9 q h) hf9 (fun u t H locs ht hvm hw hB hz1 hk1 hS => ?_)
                  obtain ⟨hP, hK9, hD9⟩ := hB
                  rw [ht] at hP
                  have hD := hD9.weaken (fun _ q _ h => hf9 q.1 h)
                  refine lv_aload_n hx hb dX1_readData_224 rfl (lv_at hl 6 rfl) ?_
                  refine va_get (D := D) (ci := 1) (v := va_re ad (y77.2 a 2)) (C := RX1) (T := TX1) (N := 22) hx hb hts (mus hf_X1) hown hK hP a (wld_o ct ad G y77 hc hk (by decide)) rfl 2 (by decide) (hts (.fieldLink RX1 28 "VideoSuite$Decoder" "work" "LVideoSuite$Work;") (mu mw_644)) (fun _ h9 => h9) rfl dX1_readData_225 ?_
                  obtain ⟨b78, ho78, hc78, hk78, hF⟩ := dr_some hF
                  refine W_st (st' := [.ref (ad b78)]) (by rw [va_some ho78]) ?_
                  refine va_get (D := D) (ci := 9) (v := va_re ad (y77.2 b78 6)) (C := RX9) (T := TX9) (N := 20) hx hb hts (mus hf_X9) hown hK hP b78 (wld_o ct ad G y77 hc78 hk78 (by decide)) rfl 6 (by decide) (hts (.fieldLink RX1 355 "VideoSuite$Work" "info" "[I") (mu mw_444)) (fun _ h9 => h9) rfl dX1_readData_228 ?_
                  refine lv_bipush (v := (8 : Int32)) hx hb dX1_readData_231 (by decide) ?_
                  refine lv_iload hx hb dX1_readData_233 (lv_at hl 1 rfl) ?_
                  refine lv_imul hx hb dX1_readData_235 ?_
                  obtain ⟨x79, ex79, hF⟩ := ltt_some hF
                  refine lv_topi (fun zx79 ezx79 => ?_)
                  obtain rfl : x79 = zx79 := ex79.trans ezx79.symm
                  refine lv_iconst (v := (0 : Int32)) hx hb dX1_readData_236 (by decide) ?_
                  refine lv_iadd hx hb dX1_readData_237 ?_
                  obtain ⟨x80, ex80, hF⟩ := ltt_some hF
                  refine lv_topi (fun zx80 ezx80 => ?_)
                  obtain rfl : x80 = zx80 := ex80.trans ezx80.symm
                  obtain ⟨b81, ho81, hc81, hk81, hF⟩ := dr_some hF
                  refine W_st (st' := [.int x80, .ref (ad b81)]) (by rw [va_some ho81]) ?_
                  obtain ⟨hvc, hF⟩ := chk_some hF
                  refine va_iald hx hb hK hP b81 1 (wld_i ct ad G y77 hc81 hk81) rfl hvc dX1_readData_238 ?_
                  obtain ⟨x82, ex82, hF⟩ := ltt_some hF
                  refine lv_topi (fun zx82 ezx82 => ?_)
                  obtain rfl : x82 = zx82 := ex82.trans ezx82.symm
                  refine lv_iconst (v := (2 : Int32)) hx hb dX1_readData_239 (by decide) ?_
                  obtain ⟨y83, hy83, hF⟩ := bnd_some hF
                  have J83 : ∀ (H : Heap) (locs : List Loc) (ls : Array Slot), va_P D classes (wld ct ad G y83) H → va_D A (wld ct ad G y83) → va_S A s.heap H locs → lv_has ls 9 [(6, .int s17.2.1), (5, .int s17.1), (4, .int y11.2), (3, .int y9), (2, .int y5), (1, va_re ad (M.2 b2 0)), (0, .ref (ad a))] → W p l e (headSpec wuX1_readData ({ frames := 6, cells := 0, slots := 0, locals := 166 })).room s m ([.ref (ad a)] : List Value).toArray below meth c H locs 0 0 (MQ below (va_Qv (fun (_ : Unit) => True) (fun _ t => kE D ct ad G A y t) A) ([.ref (ad a)] : List Value).toArray s 0 0 A) (F0 m 257 ls []) := by
                    intro H locs ls hP hD hS hl
                    refine lv_aload_n hx hb dX1_readData_257 rfl (lv_at hl 6 rfl) ?_
                    refine lv_iload hx hb dX1_readData_258 (lv_at hl 1 rfl) ?_
                    refine lv_iconst (v := (0 : Int32)) hx hb dX1_readData_260 (by decide) ?_
                    obtain ⟨y84, hy84, hF⟩ := bnd_some hF
                    have hf9 := wA_in hD hA9 hS
                    refine va_callv (va_runV (As := [.int s17.1, .int (0 : Int32)]) (rest := []) ⟨hx, hb, hml, hown, hts⟩ (kX1_readReferences l D ct ad Z G y83 H.size a s17.1 ((0 : Int32)) y84 hc hk hy84) (cwV 2 hts gX1_readData_X1_readReferences rfl rfl rfl (by decide +kernel) ⟨Nat.le_of_ble_eq_true rfl, Nat.le_of_ble_eq_true rfl⟩) ⟨fun a U g mk q => by obtain ⟨q0, q1, qP, qK, qD, qZ, qN⟩ := q; exact ⟨q0, q1, qP, va_K.moved (u := U) (U := U.calling g mk a) (Vm.Alike.refl U.vm) qK, qD, sF.moved (u := U) (U := U.calling g mk a) (Vm.Alike.refl U.vm) qZ, nF.same rfl qN⟩, va_recv hK hP (ci := 1) (q0 := a) rfl (wld_o ct ad G y83 hc hk (by decide)), fun U hU hW => ⟨rfl, by rw [hU], by rw [hU]; exact hP, va_K.moved hW.alike hK, hD.weaken (fun _ _ _ _ => trivial), by rw [hU]; exact ((hZ.kept hS.2.1).narrow hf9).moved hW.alike, hN.warm hW⟩⟩ rfl rfl hl.1 rfl (lv_room (Nat.le_of_ble_eq_true rfl)) dX1_readData_261 ⟨(Nat.zero_le _), (Nat.zero_le _)⟩) hS (fun q _ h => hf9 q h) hf9 (fun u t H locs ht hvm hw hB hz1 hk1 hS => ?_)
                    obtain ⟨hP, hK9, hD9⟩ := hB
                    rw [ht] at hP
                    have hD := hD9.weaken (fun _ q _ h => hf9 q.1 h)
                    refine lv_aload_n hx hb dX1_readData_264 rfl (lv_at hl 6 rfl) ?_
                    refine lv_iload hx hb dX1_readData_265 (lv_at hl 1 rfl) ?_
                    refine lv_iconst (v := (1 : Int32)) hx hb dX1_readData_267 (by decide) ?_
                    obtain ⟨y85, hy85, hF⟩ := bnd_some hF
                    have hf9 := wA_in hD hA9 hS
                    refine va_callv (va_runV (As := [.int s17.1, .int (1 : Int32)]) (rest := []) ⟨hx, hb, hml, hown, hts⟩ (kX1_readReferences l D ct ad Z G y84 H.size a s17.1 ((1 : Int32)) y85 hc hk hy85) (cwV 2 hts gX1_readData_X1_readReferences rfl rfl rfl (by decide +kernel) ⟨Nat.le_of_ble_eq_true rfl, Nat.le_of_ble_eq_true rfl⟩) ⟨fun a U g mk q => by obtain ⟨q0, q1, qP, qK, qD, qZ, qN⟩ := q; exact ⟨q0, q1, qP, va_K.moved (u := U) (U := U.calling g mk a) (Vm.Alike.refl U.vm) qK, qD, sF.moved (u := U) (U := U.calling g mk a) (Vm.Alike.refl U.vm) qZ, nF.same rfl qN⟩, va_recv hK hP (ci := 1) (q0 := a) rfl (wld_o ct ad G y84 hc hk (by decide)), fun U hU hW => ⟨rfl, by rw [hU], by rw [hU]; exact hP, va_K.moved hW.alike hK, hD.weaken (fun _ _ _ _ => trivial), by rw [hU]; exact ((hZ.kept hS.2.1).narrow hf9).moved hW.alike, hN.warm hW⟩⟩ rfl rfl hl.1 rfl (lv_room (Nat.le_of_ble_eq_true rfl)) dX1_readData_268 ⟨(Nat.zero_le _), (Nat.zero_le _)⟩) hS (fun q _ h => hf9 q h) hf9 (fun u t H locs ht hvm hw hB hz1 hk1 hS => ?_)
                    obtain ⟨hP, hK9, hD9⟩ := hB
                    rw [ht] at hP
                    have hD := hD9.weaken (fun _ q _ h => hf9 q.1 h)
                    refine lv_aload_n hx hb dX1_readData_271 rfl (lv_at hl 6 rfl) ?_
                    refine lv_iload hx hb dX1_readData_272 (lv_at hl 1 rfl) ?_
                    refine lv_iconst (v := (0 : Int32)) hx hb dX1_readData_274 (by decide) ?_
                    obtain ⟨y86, hy86, hF⟩ := bnd_some hF
                    have hf9 := wA_in hD hA9 hS
                    refine va_callv (va_runV (As := [.int s17.1, .int (0 : Int32)]) (rest := []) ⟨hx, hb, hml, hown, hts⟩ (kX1_readVectors l D ct ad Z G y85 H.size a s17.1 ((0 : Int32)) y86 hc hk hy86) (cwV 2 hts gX1_readData_X1_readVectors rfl rfl rfl (by decide +kernel) ⟨Nat.le_of_ble_eq_true rfl, Nat.le_of_ble_eq_true rfl⟩) ⟨fun a U g mk q => by obtain ⟨q0, q1, qP, qK, qD, qZ, qN⟩ := q; exact ⟨q0, q1, qP, va_K.moved (u := U) (U := U.calling g mk a) (Vm.Alike.refl U.vm) qK, qD, sF.moved (u := U) (U := U.calling g mk a) (Vm.Alike.refl U.vm) qZ, nF.same rfl qN⟩, va_recv hK hP (ci := 1) (q0 := a) rfl (wld_o ct ad G y85 hc hk (by decide)), fun U hU hW => ⟨rfl, by rw [hU], by rw [hU]; exact hP, va_K.moved hW.alike hK, hD.weaken (fun _ _ _ _ => trivial), by rw [hU]; exact ((hZ.kept hS.2.1).narrow hf9).moved hW.alike, hN.warm hW⟩⟩ rfl rfl hl.1 rfl (lv_room (Nat.le_of_ble_eq_true rfl)) dX1_readData_275 ⟨(Nat.zero_le _), (Nat.zero_le _)⟩) hS (fun q _ h => hf9 q h) hf9 (fun u t H locs ht hvm hw hB hz1 hk1 hS => ?_)
                    obtain ⟨hP, hK9, hD9⟩ := hB
                    rw [ht] at hP
                    have hD := hD9.weaken (fun _ q _ h => hf9 q.1 h)
                    refine lv_aload_n hx hb dX1_readData_278 rfl (lv_at hl 6 rfl) ?_
                    refine lv_iload hx hb dX1_readData_279 (lv_at hl 1 rfl) ?_
                    refine lv_iconst (v := (1 : Int32)) hx hb dX1_readData_281 (by decide) ?_
                    obtain ⟨y87, hy87, hF⟩ := bnd_some hF
                    have hf9 := wA_in hD hA9 hS
                    refine va_callv (va_runV (As := [.int s17.1, .int (1 : Int32)]) (rest := []) ⟨hx, hb, hml, hown, hts⟩ (kX1_readVectors l D ct ad Z G y86 H.size a s17.1 ((1 : Int32)) y87 hc hk hy87) (cwV 2 hts gX1_readData_X1_readVectors rfl rfl rfl (by decide +kernel) ⟨Nat.le_of_ble_eq_true rfl, Nat.le_of_ble_eq_true rfl⟩) ⟨fun a U g mk q => by obtain ⟨q0, q1, qP, qK, qD, qZ, qN⟩ := q; exact ⟨q0, q1, qP, va_K.moved (u := U) (U := U.calling g mk a) (Vm.Alike.refl U.vm) qK, qD, sF.moved (u := U) (U := U.calling g mk a) (Vm.Alike.refl U.vm) qZ, nF.same rfl qN⟩, va_recv hK hP (ci := 1) (q0 := a) rfl (wld_o ct ad G y86 hc hk (by decide)), fun U hU hW => ⟨rfl, by rw [hU], by rw [hU]; exact hP, va_K.moved hW.alike hK, hD.weaken (fun _ _ _ _ => trivial), by rw [hU]; exact ((hZ.kept hS.2.1).narrow hf9).moved hW.alike, hN.warm hW⟩⟩ rfl rfl hl.1 rfl (lv_room (Nat.le_of_ble_eq_true rfl)) dX1_readData_282 ⟨(Nat.zero_le _), (Nat.zero_le _)⟩) hS (fun q _ h => hf9 q h) hf9 (fun u t H locs ht hvm hw hB hz1 hk1 hS => ?_)
                    obtain ⟨hP, hK9, hD9⟩ := hB
                    rw [ht] at hP
                    have hD := hD9.weaken (fun _ q _ h => hf9 q.1 h)
                    refine lv_aload_n hx hb dX1_readData_285 rfl (lv_at hl 6 rfl) ?_
                    refine lv_iload hx hb dX1_readData_286 (lv_at hl 1 rfl) ?_
                    obtain ⟨y88, hy88, hF⟩ := bnd_some hF
                    have hf9 := wA_in hD hA9 hS
                    refine va_callv (va_runV (As := [.int s17.1]) (rest := []) ⟨hx, hb, hml, hown, hts⟩ (kX1_readPattern l D ct ad Z G y87 H.size a s17.1 y88 hc hk hy88) (cwV 1 hts gX1_readData_X1_readPattern rfl rfl rfl (by decide +kernel) ⟨Nat.le_of_ble_eq_true rfl, Nat.le_of_ble_eq_true rfl⟩) ⟨fun a U g mk q => by obtain ⟨q0, q1, qP, qK, qD, qZ, qN⟩ := q; exact ⟨q0, q1, qP, va_K.moved (u := U) (U := U.calling g mk a) (Vm.Alike.refl U.vm) qK, qD, sF.moved (u := U) (U := U.calling g mk a) (Vm.Alike.refl U.vm) qZ, nF.same rfl qN⟩, va_recv hK hP (ci := 1) (q0 := a) rfl (wld_o ct ad G y87 hc hk (by decide)), fun U hU hW => ⟨rfl, by rw [hU], by rw [hU]; exact hP, va_K.moved hW.alike hK, hD.weaken (fun _ _ _ _ => trivial), by rw [hU]; exact ((hZ.kept hS.2.1).narrow hf9).moved hW.alike, hN.warm hW⟩⟩ rfl rfl hl.1 rfl (lv_room (Nat.le_of_ble_eq_true rfl)) dX1_readData_288 ⟨(Nat.zero_le _), (Nat.zero_le _)⟩) hS (fun q _ h => hf9 q h) hf9 (fun u t H locs ht hvm hw hB hz1 hk1 hS => ?_)
                    obtain ⟨hP, hK9, hD9⟩ := hB
                    rw [ht] at hP
                    have hD := hD9.weaken (fun _ q _ h => hf9 q.1 h)
                    refine lv_aload_n hx hb dX1_readData_291 rfl (lv_at hl 6 rfl) ?_
                    refine lv_iload hx hb dX1_readData_292 (lv_at hl 1 rfl) ?_
                    obtain ⟨y89, hy89, hF⟩ := bnd_some hF
                    have hf9 := wA_in hD hA9 hS
                    refine va_callv (va_runV (As := [.int s17.1]) (rest := []) ⟨hx, hb, hml, hown, hts⟩ (kX1_readLevels l D ct ad Z G y88 H.size a s17.1 y89 hc hk hy89) (cwV 1 hts gX1_readData_X1_readLevels rfl rfl rfl (by decide +kernel) ⟨Nat.le_of_ble_eq_true rfl, Nat.le_of_ble_eq_true rfl⟩) ⟨fun a U g mk q => by obtain ⟨q0, q1, qP, qK, qD, qZ, qN⟩ := q; exact ⟨q0, q1, qP, va_K.moved (u := U) (U := U.calling g mk a) (Vm.Alike.refl U.vm) qK, qD, sF.moved (u := U) (U := U.calling g mk a) (Vm.Alike.refl U.vm) qZ, nF.same rfl qN⟩, va_recv hK hP (ci := 1) (q0 := a) rfl (wld_o ct ad G y88 hc hk (by decide)), fun U hU hW => ⟨rfl, by rw [hU], by rw [hU]; exact hP, va_K.moved hW.alike hK, hD.weaken (fun _ _ _ _ => trivial), by rw [hU]; exact ((hZ.kept hS.2.1).narrow hf9).moved hW.alike, hN.warm hW⟩⟩ rfl rfl hl.1 rfl (lv_room (Nat.le_of_ble_eq_true rfl)) dX1_readData_294 ⟨(Nat.zero_le _), (Nat.zero_le _)⟩) hS (fun q _ h => hf9 q h) hf9 (fun u t H locs ht hvm hw hB hz1 hk1 hS => ?_)
                    obtain ⟨hP, hK9, hD9⟩ := hB
                    rw [ht] at hP
                    have hD := hD9.weaken (fun _ q _ h => hf9 q.1 h)
                    obtain rfl := Option.some.inj hF
                    exact J75 _ _ _ hP hD hS (lv_sub hl [0, 1, 2, 3, 4, 5, 6] rfl)
                  clear hF
                  have hF := hy83
                  clear hy83
                  refine lv_icmp_ne (tgt := 257) hx hb dX1_readData_240 (by decide) (fun c90 => ?_) (fun c90 => ?_)
                  · rw [if_neg c90] at hF
                    obtain rfl := Option.some.inj hF
                    exact J83 _ _ _ hP hD hS (lv_sub hl [0, 1, 2, 3, 4, 5, 6] rfl)
                  · rw [if_pos c90] at hF
                    refine lv_aload_n hx hb dX1_readData_243 rfl (lv_at hl 6 rfl) ?_
                    refine va_get (D := D) (ci := 1) (v := va_re ad (y77.2 a 0)) (C := RX1) (T := TX1) (N := 22) hx hb hts (mus hf_X1) hown hK hP a (wld_o ct ad G y77 hc hk (by decide)) rfl 0 (by decide) (hts (.fieldLink RX1 12 "VideoSuite$Decoder" "reader" "LVideoSuite$Reader;") (mu mw_640)) (fun _ h9 => h9) rfl dX1_readData_244 ?_
                    refine lv_aload_n hx hb dX1_readData_247 rfl (lv_at hl 6 rfl) ?_
                    refine va_get (D := D) (ci := 1) (v := va_re ad (y77.2 a 3)) (C := RX1) (T := TX1) (N := 22) hx hb hts (mus hf_X1) hown hK hP a (wld_o ct ad G y77 hc hk (by decide)) rfl 3 (by decide) (hts (.fieldLink RX1 35 "VideoSuite$Decoder" "samples" "LVideoSuite$Samples;") (mu mw_645)) (fun _ h9 => h9) rfl dX1_readData_248 ?_
                    obtain ⟨b91, ho91, hc91, hk91, hF⟩ := dr_some hF
                    refine W_st (st' := [.ref (ad b91), va_re ad (y77.2 a 0)]) (by rw [va_some ho91]) ?_
                    refine va_get (D := D) (ci := 6) (v := va_re ad (y77.2 b91 0)) (C := RX6) (T := TX6) (N := 14) hx hb hts (mus hf_X6) hown hK hP b91 (wld_o ct ad G y77 hc91 hk91 (by decide)) rfl 0 (by decide) (hts (.fieldLink RX1 358 "VideoSuite$Samples" "guess" "[I") (mu mw_534)) (fun _ h9 => h9) rfl dX1_readData_251 ?_
                    obtain ⟨b92, ho92, hc92, hk92, hF⟩ := dr_some hF
                    refine W_st (st' := [va_re ad (y77.2 b91 0), .ref (ad b92)]) (by rw [va_some ho92]) ?_
                    obtain ⟨y93, hy93, hF⟩ := bnd_some hF
                    have hf9 := wA_in hD hA9 hS
                    refine va_callv (va_runV (As := [va_re ad (y77.2 b91 0)]) (rest := []) ⟨hx, hb, hml, hown, hts⟩ (kX5_rawSamples l D ct ad Z G y77 H.size b92 ((y77.2 b91 0)) y93 hc92 hk92 hy93) (cwV 1 hts gX1_readData_X5_rawSamples rfl rfl rfl (by decide +kernel) ⟨Nat.le_of_ble_eq_true rfl, Nat.le_of_ble_eq_true rfl⟩) ⟨fun a U g mk q => by obtain ⟨q0, q1, qP, qK, qD, qZ, qN⟩ := q; exact ⟨q0, q1, qP, va_K.moved (u := U) (U := U.calling g mk a) (Vm.Alike.refl U.vm) qK, qD, sF.moved (u := U) (U := U.calling g mk a) (Vm.Alike.refl U.vm) qZ, nF.same rfl qN⟩, va_recv hK hP (ci := 5) (q0 := b92) rfl (wld_o ct ad G y77 hc92 hk92 (by decide)), fun U hU hW => ⟨rfl, by rw [hU], by rw [hU]; exact hP, va_K.moved hW.alike hK, hD.weaken (fun _ _ _ _ => trivial), by rw [hU]; exact ((hZ.kept hS.2.1).narrow hf9).moved hW.alike, hN.warm hW⟩⟩ rfl rfl hl.1 rfl (lv_room (Nat.le_of_ble_eq_true rfl)) dX1_readData_254 ⟨(Nat.zero_le _), (Nat.zero_le _)⟩) hS (fun q _ h => hf9 q h) hf9 (fun u t H locs ht hvm hw hB hz1 hk1 hS => ?_)
                    obtain ⟨hP, hK9, hD9⟩ := hB
                    rw [ht] at hP
                    have hD := hD9.weaken (fun _ q _ h => hf9 q.1 h)
                    obtain rfl := Option.some.inj hF
                    exact J83 _ _ _ hP hD hS (lv_sub hl [0, 1, 2, 3, 4, 5, 6] rfl)
                · rw [if_pos c76] at hF
                  refine lv_aload_n hx hb dX1_readData_209 rfl (lv_at hl 6 rfl) ?_
                  refine lv_iload hx hb dX1_readData_210 (lv_at hl 1 rfl) ?_
                  obtain ⟨y94, hy94, hF⟩ := bnd_some hF
                  have hf9 := wA_in hD hA9 hS
                  refine va_callv (va_runV (As := [.int s17.1]) (rest := []) ⟨hx, hb, hml, hown, hts⟩ (kX1_readSkipped l D ct ad Z G y74.1 H.size a s17.1 y94 hc hk hy94) (cwV 1 hts gX1_readData_X1_readSkipped rfl rfl rfl (by decide +kernel) ⟨Nat.le_of_ble_eq_true rfl, Nat.le_of_ble_eq_true rfl⟩) ⟨fun a U g mk q => by obtain ⟨q0, q1, qP, qK, qD, qZ, qN⟩ := q; exact ⟨q0, q1, qP, va_K.moved (u := U) (U := U.calling g mk a) (Vm.Alike.refl U.vm) qK, qD, sF.moved (u := U) (U := U.calling g mk a) (Vm.Alike.refl U.vm) qZ, nF.same rfl qN⟩, va_recv hK hP (ci := 1) (q0 := a) rfl (wld_o ct ad G y74.1 hc hk (by decide)), fun U hU hW => ⟨rfl, by rw [hU], by rw [hU]; exact hP, va_K.moved hW.alike hK, hD.weaken (fun _ _ _ _ => trivial), by rw [hU]; exact ((hZ.kept hS.2.1).narrow hf9).moved hW.alike, hN.warm hW⟩⟩ rfl rfl hl.1 rfl (lv_room (Nat.le_of_ble_eq_true rfl)) dX1_readData_212 ⟨(Nat.zero_le _), (Nat.zero_le _)⟩) hS (fun q _ h => hf9 q h) hf9 (fun u t H locs ht hvm hw hB hz1 hk1 hS => ?_)
                  obtain ⟨hP, hK9, hD9⟩ := hB
                  rw [ht] at hP
                  have hD := hD9.weaken (fun _ q _ h => hf9 q.1 h)
                  refine lv_goto (tgt := 297) hx hb dX1_readData_215 (by decide) ?_
                  obtain rfl := Option.some.inj hF
                  exact J75 _ _ _ hP hD hS (lv_sub hl [0, 1, 2, 3, 4, 5, 6] rfl)
          · rw [if_pos c21] at hF
            refine lv_iload_n hx hb dX1_readData_90 rfl (lv_at hl 4 rfl) ?_
            refine lv_if_ne (tgt := 182) hx hb dX1_readData_91 (by decide) (fun c95 => ?_) (fun c95 => ?_)
            · rw [if_neg c95] at hF
              refine lv_aload_n hx hb dX1_readData_182 rfl (lv_at hl 6 rfl) ?_
              refine lv_iload hx hb dX1_readData_183 (lv_at hl 1 rfl) ?_
              obtain ⟨y96, hy96, hF⟩ := bnd_some hF
              have hf9 := wA_in hD hA9 hS
              refine va_callv (va_runV (As := [.int s17.1]) (rest := []) ⟨hx, hb, hml, hown, hts⟩ (kX1_claim l D ct ad Z G s17.2.2 H.size a s17.1 y96 hc hk hy96) (cwV 1 hts gX1_readData_X1_claim rfl rfl rfl (by decide +kernel) ⟨Nat.le_of_ble_eq_true rfl, Nat.le_of_ble_eq_true rfl⟩) ⟨fun a U g mk q => by obtain ⟨q0, q1, qP, qK, qD, qZ, qN⟩ := q; exact ⟨q0, q1, qP, va_K.moved (u := U) (U := U.calling g mk a) (Vm.Alike.refl U.vm) qK, qD, sF.moved (u := U) (U := U.calling g mk a) (Vm.Alike.refl U.vm) qZ, nF.same rfl qN⟩, va_recv hK hP (ci := 1) (q0 := a) rfl (wld_o ct ad G s17.2.2 hc hk (by decide)), fun U hU hW => ⟨rfl, by rw [hU], by rw [hU]; exact hP, va_K.moved hW.alike hK, hD.weaken (fun _ _ _ _ => trivial), by rw [hU]; exact ((hZ.kept hS.2.1).narrow hf9).moved hW.alike, hN.warm hW⟩⟩ rfl rfl hl.1 rfl (lv_room (Nat.le_of_ble_eq_true rfl)) dX1_readData_185 ⟨(Nat.zero_le _), (Nat.zero_le _)⟩) hS (fun q _ h => hf9 q h) hf9 (fun u t H locs ht hvm hw hB hz1 hk1 hS => ?_)
              obtain ⟨hP, hK9, hD9⟩ := hB
              rw [ht] at hP
              have hD := hD9.weaken (fun _ q _ h => hf9 q.1 h)
              refine lv_iload_n hx hb dX1_readData_188 rfl (lv_at hl 3 rfl) ?_
              obtain ⟨y97, hy97, hF⟩ := bnd_some hF
              have J97 : ∀ (H : Heap) (locs : List Loc) (ls : Array Slot), va_P D classes (wld ct ad G y97) H → va_D A (wld ct ad G y97) → va_S A s.heap H locs → lv_has ls 9 [(6, .int s17.2.1), (5, .int s17.1), (4, .int y11.2), (3, .int y9), (2, .int y5), (1, va_re ad (M.2 b2 0)), (0, .ref (ad a))] → W p l e (headSpec wuX1_readData ({ frames := 6, cells := 0, slots := 0, locals := 166 })).room s m ([.ref (ad a)] : List Value).toArray below meth c H locs 0 0 (MQ below (va_Qv (fun (_ : Unit) => True) (fun _ t => kE D ct ad G A y t) A) ([.ref (ad a)] : List Value).toArray s 0 0 A) (F0 m 297 ls []) := by
                intro H locs ls hP hD hS hl
                refine lv_aload_n hx hb dX1_readData_297 rfl (lv_at hl 6 rfl) ?_
                refine lv_iload hx hb dX1_readData_298 (lv_at hl 1 rfl) ?_
                obtain ⟨y98, hy98, hF⟩ := bnd_some hF
                have hf9 := wA_in hD hA9 hS
                refine va_callv (va_runV (As := [.int s17.1]) (rest := []) ⟨hx, hb, hml, hown, hts⟩ (kX1_rebuild l D ct ad Z G y97 H.size a s17.1 y98 hc hk hy98) (cwV 1 hts gX1_readData_X1_rebuild rfl rfl rfl (by decide +kernel) ⟨Nat.le_of_ble_eq_true rfl, Nat.le_of_ble_eq_true rfl⟩) ⟨fun a U g mk q => by obtain ⟨q0, q1, qP, qK, qD, qZ, qN⟩ := q; exact ⟨q0, q1, qP, va_K.moved (u := U) (U := U.calling g mk a) (Vm.Alike.refl U.vm) qK, qD, sF.moved (u := U) (U := U.calling g mk a) (Vm.Alike.refl U.vm) qZ, nF.same rfl qN⟩, va_recv hK hP (ci := 1) (q0 := a) rfl (wld_o ct ad G y97 hc hk (by decide)), fun U hU hW => ⟨rfl, by rw [hU], by rw [hU]; exact hP, va_K.moved hW.alike hK, hD.weaken (fun _ _ _ _ => trivial), by rw [hU]; exact ((hZ.kept hS.2.1).narrow hf9).moved hW.alike, hN.warm hW⟩⟩ rfl rfl hl.1 rfl (lv_room (Nat.le_of_ble_eq_true rfl)) dX1_readData_300 ⟨(Nat.zero_le _), (Nat.zero_le _)⟩) hS (fun q _ h => hf9 q h) hf9 (fun u t H locs ht hvm hw hB hz1 hk1 hS => ?_)
                obtain ⟨hP, hK9, hD9⟩ := hB
                rw [ht] at hP
                have hD := hD9.weaken (fun _ q _ h => hf9 q.1 h)
                refine lv_aload_n hx hb dX1_readData_303 rfl (lv_at hl 6 rfl) ?_
                refine lv_iload hx hb dX1_readData_304 (lv_at hl 1 rfl) ?_
                obtain ⟨y99, hy99, hF⟩ := bnd_some hF
                have hf9 := wA_in hD hA9 hS
                refine va_callv (va_runV (As := [.int s17.1]) (rest := []) ⟨hx, hb, hml, hown, hts⟩ (kX1_endBlock l D ct ad Z G y98 H.size a s17.1 y99 hc hk hy99) (cwV 1 hts gX1_readData_X1_endBlock rfl rfl rfl (by decide +kernel) ⟨Nat.le_of_ble_eq_true rfl, Nat.le_of_ble_eq_true rfl⟩) ⟨fun a U g mk q => by obtain ⟨q0, q1, qP, qK, qD, qZ, qN⟩ := q; exact ⟨q0, q1, qP, va_K.moved (u := U) (U := U.calling g mk a) (Vm.Alike.refl U.vm) qK, qD, sF.moved (u := U) (U := U.calling g mk a) (Vm.Alike.refl U.vm) qZ, nF.same rfl qN⟩, va_recv hK hP (ci := 1) (q0 := a) rfl (wld_o ct ad G y98 hc hk (by decide)), fun U hU hW => ⟨rfl, by rw [hU], by rw [hU]; exact hP, va_K.moved hW.alike hK, hD.weaken (fun _ _ _ _ => trivial), by rw [hU]; exact ((hZ.kept hS.2.1).narrow hf9).moved hW.alike, hN.warm hW⟩⟩ rfl rfl hl.1 rfl (lv_room (Nat.le_of_ble_eq_true rfl)) dX1_readData_306 ⟨(Nat.zero_le _), (Nat.zero_le _)⟩) hS (fun q _ h => hf9 q h) hf9 (fun u t H locs ht hvm hw hB hz1 hk1 hS => ?_)
                obtain ⟨hP, hK9, hD9⟩ := hB
                rw [ht] at hP
                have hD := hD9.weaken (fun _ q _ h => hf9 q.1 h)
                obtain ⟨x100, ex100, hF⟩ := ltt_some hF
                refine lv_iinc (v := x100) (lv' := [(5, .int x100), (6, .int s17.2.1), (4, .int y11.2), (3, .int y9), (2, .int y5), (1, va_re ad (M.2 b2 0)), (0, .ref (ad a))]) hx hb dX1_readData_309 hl (k := 1) rfl (by rw [ex100]; rfl) (by decide) rfl (fun ls hl => ?_)
                refine lv_iload_n hx hb dX1_readData_312 rfl (lv_at hl 3 rfl) ?_
                refine lv_if_eq (tgt := 329) hx hb dX1_readData_313 (by decide) (fun c101 => ?_) (fun c101 => ?_)
                · rw [if_pos c101] at hF
                  refine lv_aload_n hx hb dX1_readData_329 rfl (lv_at hl 6 rfl) ?_
                  refine va_get (D := D) (ci := 1) (v := va_re ad (y99.2 a 0)) (C := RX1) (T := TX1) (N := 22) hx hb hts (mus hf_X1) hown hK hP a (wld_o ct ad G y99 hc hk (by decide)) rfl 0 (by decide) (hts (.fieldLink RX1 12 "VideoSuite$Decoder" "reader" "LVideoSuite$Reader;") (mu mw_640)) (fun _ h9 => h9) rfl dX1_readData_330 ?_
                  obtain ⟨b102, ho102, hc102, hk102, hF⟩ := dr_some hF
                  refine W_st (st' := [.ref (ad b102)]) (by rw [va_some ho102]) ?_
                  obtain ⟨y103, hy103, hF⟩ := bnd_some hF
                  have hf9 := wA_in hD hA9 hS
                  refine va_calli (va_runV (As := []) (rest := []) ⟨hx, hb, hml, hown, hts⟩ (kX5_more l D ct ad Z G y99 H.size b102 y103 hc102 hk102 hy103) (cwV 0 hts gX1_readData_X5_more rfl rfl rfl (by decide +kernel) ⟨Nat.le_of_ble_eq_true rfl, Nat.le_of_ble_eq_true rfl⟩) ⟨fun a U g mk q => by obtain ⟨q0, q1, qP, qK, qD, qZ, qN⟩ := q; exact ⟨q0, q1, qP, va_K.moved (u := U) (U := U.calling g mk a) (Vm.Alike.refl U.vm) qK, qD, sF.moved (u := U) (U := U.calling g mk a) (Vm.Alike.refl U.vm) qZ, nF.same rfl qN⟩, va_recv hK hP (ci := 5) (q0 := b102) rfl (wld_o ct ad G y99 hc102 hk102 (by decide)), fun U hU hW => ⟨rfl, by rw [hU], by rw [hU]; exact hP, va_K.moved hW.alike hK, hD.weaken (fun _ _ _ _ => trivial), by rw [hU]; exact ((hZ.kept hS.2.1).narrow hf9).moved hW.alike, hN.warm hW⟩⟩ rfl rfl hl.1 rfl (lv_room (Nat.le_of_ble_eq_true rfl)) dX1_readData_333 ⟨(Nat.zero_le _), (Nat.zero_le _)⟩) hS (fun q _ h => hf9 q h) hf9 (fun r u t H locs ht hvm hw hB hz1 hk1 hS => ?_)
                  obtain ⟨hP, hK9, hD9⟩ := hB
                  rw [ht] at hP
                  try dsimp only at hw
                  subst hw
                  have hD := hD9.weaken (fun _ q _ h => hf9 q.1 h)
                  refine lv_if_ne (tgt := 340) hx hb dX1_readData_336 (by decide) (fun c104 => ?_) (fun c104 => ?_)
                  · rw [if_neg c104] at hF
                    obtain ⟨x105, ex105, hF⟩ := ltt_some hF
                    refine lv_iinc (v := x105) (lv' := [(6, .int x105), (5, .int x100), (4, .int y11.2), (3, .int y9), (2, .int y5), (1, va_re ad (M.2 b2 0)), (0, .ref (ad a))]) hx hb dX1_readData_340 hl (k := 1) rfl (by rw [ex105]; rfl) (by decide) rfl (fun ls hl => ?_)
                    refine lv_goto (tgt := 79) hx hb dX1_readData_343 (by decide) ?_
                    obtain rfl := Option.some.inj hF
                    exact hwz19 _ _ _ hP hD hS (lv_sub hl [0, 1, 2, 3, 4, 5, 6] rfl)
                  · rw [if_pos c104] at hF
                    obtain rfl := Option.some.inj hF
                    have hF := sel_inr (hwz19 ▸ hR16)
                    obtain rfl := Option.some.inj hF
                    exact W.vret hx hb hr (fun t ht hW => ⟨⟨(), rfl, trivial, ⟨by rw [ht]; exact hP, va_K.moved hW.alike hK, hD⟩⟩, hS.F ht⟩) hS.2.2 dX1_readData_339
                · rw [if_neg c101] at hF
                  refine lv_aload_n hx hb dX1_readData_316 rfl (lv_at hl 6 rfl) ?_
                  refine va_get (D := D) (ci := 1) (v := va_re ad (y99.2 a 0)) (C := RX1) (T := TX1) (N := 22) hx hb hts (mus hf_X1) hown hK hP a (wld_o ct ad G y99 hc hk (by decide)) rfl 0 (by decide) (hts (.fieldLink RX1 12 "VideoSuite$Decoder" "reader" "LVideoSuite$Reader;") (mu mw_640)) (fun _ h9 => h9) rfl dX1_readData_317 ?_
                  obtain ⟨b106, ho106, hc106, hk106, hF⟩ := dr_some hF
                  refine W_st (st' := [.ref (ad b106)]) (by rw [va_some ho106]) ?_
                  obtain ⟨y107, hy107, hF⟩ := bnd_some hF
                  have hf9 := wA_in hD hA9 hS
                  refine va_calli (va_runV (As := []) (rest := []) ⟨hx, hb, hml, hown, hts⟩ (kX5_isLast l D ct ad Z G y99 H.size b106 y107 hc106 hk106 hy107) (cwV 0 hts gX1_readData_X5_isLast rfl rfl rfl (by decide +kernel) ⟨Nat.le_of_ble_eq_true rfl, Nat.le_of_ble_eq_true rfl⟩) ⟨fun a U g mk q => by obtain ⟨q0, q1, qP, qK, qD, qZ, qN⟩ := q; exact ⟨q0, q1, qP, va_K.moved (u := U) (U := U.calling g mk a) (Vm.Alike.refl U.vm) qK, qD, sF.moved (u := U) (U := U.calling g mk a) (Vm.Alike.refl U.vm) qZ, nF.same rfl qN⟩, va_recv hK hP (ci := 5) (q0 := b106) rfl (wld_o ct ad G y99 hc106 hk106 (by decide)), fun U hU hW => ⟨rfl, by rw [hU], by rw [hU]; exact hP, va_K.moved hW.alike hK, hD.weaken (fun _ _ _ _ => trivial), by rw [hU]; exact ((hZ.kept hS.2.1).narrow hf9).moved hW.alike, hN.warm hW⟩⟩ rfl rfl hl.1 rfl (lv_room (Nat.le_of_ble_eq_true rfl)) dX1_readData_320 ⟨(Nat.zero_le _), (Nat.zero_le _)⟩) hS (fun q _ h => hf9 q h) hf9 (fun r u t H locs ht hvm hw hB hz1 hk1 hS => ?_)
                  obtain ⟨hP, hK9, hD9⟩ := hB
                  rw [ht] at hP
                  try dsimp only at hw
                  subst hw
                  have hD := hD9.weaken (fun _ q _ h => hf9 q.1 h)
                  refine lv_if_eq (tgt := 340) hx hb dX1_readData_323 (by decide) (fun c108 => ?_) (fun c108 => ?_)
                  · rw [if_pos c108] at hF
                    obtain ⟨x109, ex109, hF⟩ := ltt_some hF
                    refine lv_iinc (v := x109) (lv' := [(6, .int x109), (5, .int x100), (4, .int y11.2), (3, .int y9), (2, .int y5), (1, va_re ad (M.2 b2 0)), (0, .ref (ad a))]) hx hb dX1_readData_340 hl (k := 1) rfl (by rw [ex109]; rfl) (by decide) rfl (fun ls hl => ?_)
                    refine lv_goto (tgt := 79) hx hb dX1_readData_343 (by decide) ?_
                    obtain rfl := Option.some.inj hF
                    exact hwz19 _ _ _ hP hD hS (lv_sub hl [0, 1, 2, 3, 4, 5, 6] rfl)
                  · rw [if_neg c108] at hF
                    refine lv_goto (tgt := 339) hx hb dX1_readData_326 (by decide) ?_
                    obtain rfl := Option.some.inj hF
                    have hF := sel_inr (hwz19 ▸ hR16)
                    obtain rfl := Option.some.inj hF
                    exact W.vret hx hb hr (fun t ht hW => ⟨⟨(), rfl, trivial, ⟨by rw [ht]; exact hP, va_K.moved hW.alike hK, hD⟩⟩, hS.F ht⟩) hS.2.2 dX1_readData_339
              clear hF
              have hF := hy97
              clear hy97
              refine lv_if_eq (tgt := 218) hx hb dX1_readData_189 (by decide) (fun c110 => ?_) (fun c110 => ?_)
              · rw [if_pos c110] at hF
                refine lv_aload_n hx hb dX1_readData_218 rfl (lv_at hl 6 rfl) ?_
                refine lv_iload hx hb dX1_readData_219 (lv_at hl 1 rfl) ?_
                obtain ⟨y111, hy111, hF⟩ := bnd_some hF
                have hf9 := wA_in hD hA9 hS
                refine va_callv (va_runV (As := [.int s17.1]) (rest := []) ⟨hx, hb, hml, hown, hts⟩ (kX1_readBlock l D ct ad Z G y96 H.size a s17.1 y111 hc hk hy111) (cwV 1 hts gX1_readData_X1_readBlock rfl rfl rfl (by decide +kernel) ⟨Nat.le_of_ble_eq_true rfl, Nat.le_of_ble_eq_true rfl⟩) ⟨fun a U g mk q => by obtain ⟨q0, q1, qP, qK, qD, qZ, qN⟩ := q; exact ⟨q0, q1, qP, va_K.moved (u := U) (U := U.calling g mk a) (Vm.Alike.refl U.vm) qK, qD, sF.moved (u := U) (U := U.calling g mk a) (Vm.Alike.refl U.vm) qZ, nF.same rfl qN⟩, va_recv hK hP (ci := 1) (q0 := a) rfl (wld_o ct ad G y96 hc hk (by decide)), fun U hU hW => ⟨rfl, by rw [hU], by rw [hU]; exact hP, va_K.moved hW.alike hK, hD.weaken (fun _ _ _ _ => trivial), by rw [hU]; exact ((hZ.kept hS.2.1).narrow hf9).moved hW.alike, hN.warm hW⟩⟩ rfl rfl hl.1 rfl (lv_room (Nat.le_of_ble_eq_true rfl)) dX1_readData_221 ⟨(Nat.zero_le _), (Nat.zero_le _)⟩) hS (fun q _ h => hf9 q h) hf9 (fun u t H locs ht hvm hw hB hz1 hk1 hS => ?_)
                obtain ⟨hP, hK9, hD9⟩ := hB
                rw [ht] at hP
                have hD := hD9.weaken (fun _ q _ h => hf9 q.1 h)
                refine lv_aload_n hx hb dX1_readData_224 rfl (lv_at hl 6 rfl) ?_
                refine va_get (D := D) (ci := 1) (v := va_re ad (y111.2 a 2)) (C := RX1) (T := TX1) (N := 22) hx hb hts (mus hf_X1) hown hK hP a (wld_o ct ad G y111 hc hk (by decide)) rfl 2 (by decide) (hts (.fieldLink RX1 28 "VideoSuite$Decoder" "work" "LVideoSuite$Work;") (mu mw_644)) (fun _ h9 => h9) rfl dX1_readData_225 ?_
                obtain ⟨b112, ho112, hc112, hk112, hF⟩ := dr_some hF
                refine W_st (st' := [.ref (ad b112)]) (by rw [va_some ho112]) ?_
                refine va_get (D := D) (ci := 9) (v := va_re ad (y111.2 b112 6)) (C := RX9) (T := TX9) (N := 20) hx hb hts (mus hf_X9) hown hK hP b112 (wld_o ct ad G y111 hc112 hk112 (by decide)) rfl 6 (by decide) (hts (.fieldLink RX1 355 "VideoSuite$Work" "info" "[I") (mu mw_444)) (fun _ h9 => h9) rfl dX1_readData_228 ?_
                refine lv_bipush (v := (8 : Int32)) hx hb dX1_readData_231 (by decide) ?_
                refine lv_iload hx hb dX1_readData_233 (lv_at hl 1 rfl) ?_
                refine lv_imul hx hb dX1_readData_235 ?_
                obtain ⟨x113, ex113, hF⟩ := ltt_some hF
                refine lv_topi (fun zx113 ezx113 => ?_)
                obtain rfl : x113 = zx113 := ex113.trans ezx113.symm
                refine lv_iconst (v := (0 : Int32)) hx hb dX1_readData_236 (by decide) ?_
                refine lv_iadd hx hb dX1_readData_237 ?_
                obtain ⟨x114, ex114, hF⟩ := ltt_some hF
                refine lv_topi (fun zx114 ezx114 => ?_)
                obtain rfl : x114 = zx114 := ex114.trans ezx114.symm
                obtain ⟨b115, ho115, hc115, hk115, hF⟩ := dr_some hF
                refine W_st (st' := [.int x114, .ref (ad b115)]) (by rw [va_some ho115]) ?_
                obtain ⟨hvc, hF⟩ := chk_some hF
                refine va_iald hx hb hK hP b115 1 (wld_i ct ad G y111 hc115 hk115) rfl hvc dX1_readData_238 ?_
                obtain ⟨x116, ex116, hF⟩ := ltt_some hF
                refine lv_topi (fun zx116 ezx116 => ?_)
                obtain rfl : x116 = zx116 := ex116.trans ezx116.symm
                refine lv_iconst (v := (2 : Int32)) hx hb dX1_readData_239 (by decide) ?_
                obtain ⟨y117, hy117, hF⟩ := bnd_some hF
                have J117 : ∀ (H : Heap) (locs : List Loc) (ls : Array Slot), va_P D classes (wld ct ad G y117) H → va_D A (wld ct ad G y117) → va_S A s.heap H locs → lv_has ls 9 [(6, .int s17.2.1), (5, .int s17.1), (4, .int y11.2), (3, .int y9), (2, .int y5), (1, va_re ad (M.2 b2 0)), (0, .ref (ad a))] → W p l e (headSpec wuX1_readData ({ frames := 6, cells := 0, slots := 0, locals := 166 })).room s m ([.ref (ad a)] : List Value).toArray below meth c H locs 0 0 (MQ below (va_Qv (fun (_ : Unit) => True) (fun _ t => kE D ct ad G A y t) A) ([.ref (ad a)] : List Value).toArray s 0 0 A) (F0 m 257 ls []) := by
                  intro H locs ls hP hD hS hl
                  refine lv_aload_n hx hb dX1_readData_257 rfl (lv_at hl 6 rfl) ?_
                  refine lv_iload hx hb dX1_readData_258 (lv_at hl 1 rfl) ?_
                  refine lv_iconst (v := (0 : Int32)) hx hb dX1_readData_260 (by decide) ?_
                  obtain ⟨y118, hy118, hF⟩ := bnd_some hF
                  have hf9 := wA_in hD hA9 hS
                  refine va_callv (va_runV (As := [.int s17.1, .int (0 : Int32)]) (rest := []) ⟨hx, hb, hml, hown, hts⟩ (kX1_readReferences l D ct ad Z G y117 H.size a s17.1 ((0 : Int32)) y118 hc hk hy118) (cwV 2 hts gX1_readData_X1_readReferences rfl rfl rfl (by decide +kernel) ⟨Nat.le_of_ble_eq_true rfl, Nat.le_of_ble_eq_true rfl⟩) ⟨fun a U g mk q => by obtain ⟨q0, q1, qP, qK, qD, qZ, qN⟩ := q; exact ⟨q0, q1, qP, va_K.moved (u := U) (U := U.calling g mk a) (Vm.Alike.refl U.vm) qK, qD, sF.moved (u := U) (U := U.calling g mk a) (Vm.Alike.refl U.vm) qZ, nF.same rfl qN⟩, va_recv hK hP (ci := 1) (q0 := a) rfl (wld_o ct ad G y117 hc hk (by decide)), fun U hU hW => ⟨rfl, by rw [hU], by rw [hU]; exact hP, va_K.moved hW.alike hK, hD.weaken (fun _ _ _ _ => trivial), by rw [hU]; exact ((hZ.kept hS.2.1).narrow hf9).moved hW.alike, hN.warm hW⟩⟩ rfl rfl hl.1 rfl (lv_room (Nat.le_of_ble_eq_true rfl)) dX1_readData_261 ⟨(Nat.zero_le _), (Nat.zero_le _)⟩) hS (fun q _ h => hf9 q h) hf9 (fun u t H locs ht hvm hw hB hz1 hk1 hS => ?_)
                  obtain ⟨hP, hK9, hD9⟩ := hB
                  rw [ht] at hP
                  have hD := hD9.weaken (fun _ q _ h => hf9 q.1 h)
                  refine lv_aload_n hx hb dX1_readData_264 rfl (lv_at hl 6 rfl) ?_
                  refine lv_iload hx hb dX1_readData_265 (lv_at hl 1 rfl) ?_
                  refine lv_iconst (v := (1 : Int32)) hx hb dX1_readData_267 (by decide) ?_
                  obtain ⟨y119, hy119, hF⟩ := bnd_some hF
                  have hf9 := wA_in hD hA9 hS
                  refine va_callv (va_runV (As := [.int s17.1, .int (1 : Int32)]) (rest := []) ⟨hx, hb, hml, hown, hts⟩ (kX1_readReferences l D ct ad Z G y118 H.size a s17.1 ((1 : Int32)) y119 hc hk hy119) (cwV 2 hts gX1_readData_X1_readReferences rfl rfl rfl (by decide +kernel) ⟨Nat.le_of_ble_eq_true rfl, Nat.le_of_ble_eq_true rfl⟩) ⟨fun a U g mk q => by obtain ⟨q0, q1, qP, qK, qD, qZ, qN⟩ := q; exact ⟨q0, q1, qP, va_K.moved (u := U) (U := U.calling g mk a) (Vm.Alike.refl U.vm) qK, qD, sF.moved (u := U) (U := U.calling g mk a) (Vm.Alike.refl U.vm) qZ, nF.same rfl qN⟩, va_recv hK hP (ci := 1) (q0 := a) rfl (wld_o ct ad G y118 hc hk (by decide)), fun U hU hW => ⟨rfl, by rw [hU], by rw [hU]; exact hP, va_K.moved hW.alike hK, hD.weaken (fun _ _ _ _ => trivial), by rw [hU]; exact ((hZ.kept hS.2.1).narrow hf9).moved hW.alike, hN.warm hW⟩⟩ rfl rfl hl.1 rfl (lv_room (Nat.le_of_ble_eq_true rfl)) dX1_readData_268 ⟨(Nat.zero_le _), (Nat.zero_le _)⟩) hS (fun q _ h => hf9 q h) hf9 (fun u t H locs ht hvm hw hB hz1 hk1 hS => ?_)
                  obtain ⟨hP, hK9, hD9⟩ := hB
                  rw [ht] at hP
                  have hD := hD9.weaken (fun _ q _ h => hf9 q.1 h)
                  refine lv_aload_n hx hb dX1_readData_271 rfl (lv_at hl 6 rfl) ?_
                  refine lv_iload hx hb dX1_readData_272 (lv_at hl 1 rfl) ?_
                  refine lv_iconst (v := (0 : Int32)) hx hb dX1_readData_274 (by decide) ?_
                  obtain ⟨y120, hy120, hF⟩ := bnd_some hF
                  have hf9 := wA_in hD hA9 hS
                  refine va_callv (va_runV (As := [.int s17.1, .int (0 : Int32)]) (rest := []) ⟨hx, hb, hml, hown, hts⟩ (kX1_readVectors l D ct ad Z G y119 H.size a s17.1 ((0 : Int32)) y120 hc hk hy120) (cwV 2 hts gX1_readData_X1_readVectors rfl rfl rfl (by decide +kernel) ⟨Nat.le_of_ble_eq_true rfl, Nat.le_of_ble_eq_true rfl⟩) ⟨fun a U g mk q => by obtain ⟨q0, q1, qP, qK, qD, qZ, qN⟩ := q; exact ⟨q0, q1, qP, va_K.moved (u := U) (U := U.calling g mk a) (Vm.Alike.refl U.vm) qK, qD, sF.moved (u := U) (U := U.calling g mk a) (Vm.Alike.refl U.vm) qZ, nF.same rfl qN⟩, va_recv hK hP (ci := 1) (q0 := a) rfl (wld_o ct ad G y119 hc hk (by decide)), fun U hU hW => ⟨rfl, by rw [hU], by rw [hU]; exact hP, va_K.moved hW.alike hK, hD.weaken (fun _ _ _ _ => trivial), by rw [hU]; exact ((hZ.kept hS.2.1).narrow hf9).moved hW.alike, hN.warm hW⟩⟩ rfl rfl hl.1 rfl (lv_room (Nat.le_of_ble_eq_true rfl)) dX1_readData_275 ⟨(Nat.zero_le _), (Nat.zero_le _)⟩) hS (fun q _ h => hf9 q h) hf9 (fun u t H locs ht hvm hw hB hz1 hk1 hS => ?_)
                  obtain ⟨hP, hK9, hD9⟩ := hB
                  rw [ht] at hP
                  have hD := hD9.weaken (fun _ q _ h => hf9 q.1 h)
                  refine lv_aload_n hx hb dX1_readData_278 rfl (lv_at hl 6 rfl) ?_
                  refine lv_iload hx hb dX1_readData_279 (lv_at hl 1 rfl) ?_
                  refine lv_iconst (v := (1 : Int32)) hx hb dX1_readData_281 (by decide) ?_
                  obtain ⟨y121, hy121, hF⟩ := bnd_some hF
                  have hf9 := wA_in hD hA9 hS
                  refine va_callv (va_runV (As := [.int s17.1, .int (1 : Int32)]) (rest := []) ⟨hx, hb, hml, hown, hts⟩ (kX1_readVectors l D ct ad Z G y120 H.size a s17.1 ((1 : Int32)) y121 hc hk hy121) (cwV 2 hts gX1_readData_X1_readVectors rfl rfl rfl (by decide +kernel) ⟨Nat.le_of_ble_eq_true rfl, Nat.le_of_ble_eq_true rfl⟩) ⟨fun a U g mk q => by obtain ⟨q0, q1, qP, qK, qD, qZ, qN⟩ := q; exact ⟨q0, q1, qP, va_K.moved (u := U) (U := U.calling g mk a) (Vm.Alike.refl U.vm) qK, qD, sF.moved (u := U) (U := U.calling g mk a) (Vm.Alike.refl U.vm) qZ, nF.same rfl qN⟩, va_recv hK hP (ci := 1) (q0 := a) rfl (wld_o ct ad G y120 hc hk (by decide)), fun U hU hW => ⟨rfl, by rw [hU], by rw [hU]; exact hP, va_K.moved hW.alike hK, hD.weaken (fun _ _ _ _ => trivial), by rw [hU]; exact ((hZ.kept hS.2.1).narrow hf9).moved hW.alike, hN.warm hW⟩⟩ rfl rfl hl.1 rfl (lv_room (Nat.le_of_ble_eq_true rfl)) dX1_readData_282 ⟨(Nat.zero_le _), (Nat.zero_le _)⟩) hS (fun q _ h => hf9 q h) hf9 (fun u t H locs ht hvm hw hB hz1 hk1 hS => ?_)
                  obtain ⟨hP, hK9, hD9⟩ := hB
                  rw [ht] at hP
                  have hD := hD9.weaken (fun _ q _ h => hf9 q.1 h)
                  refine lv_aload_n hx hb dX1_readData_285 rfl (lv_at hl 6 rfl) ?_
                  refine lv_iload hx hb dX1_readData_286 (lv_at hl 1 rfl) ?_
                  obtain ⟨y122, hy122, hF⟩ := bnd_some hF
                  have hf9 := wA_in hD hA9 hS
                  refine va_callv (va_runV (As := [.int s17.1]) (rest := []) ⟨hx, hb, hml, hown, hts⟩ (kX1_readPattern l D ct ad Z G y121 H.size a s17.1 y122 hc hk hy122) (cwV 1 hts gX1_readData_X1_readPattern rfl rfl rfl (by decide +kernel) ⟨Nat.le_of_ble_eq_true rfl, Nat.le_of_ble_eq_true rfl⟩) ⟨fun a U g mk q => by obtain ⟨q0, q1, qP, qK, qD, qZ, qN⟩ := q; exact ⟨q0, q1, qP, va_K.moved (u := U) (U := U.calling g mk a) (Vm.Alike.refl U.vm) qK, qD, sF.moved (u := U) (U := U.calling g mk a) (Vm.Alike.refl U.vm) qZ, nF.same rfl qN⟩, va_recv hK hP (ci := 1) (q0 := a) rfl (wld_o ct ad G y121 hc hk (by decide)), fun U hU hW => ⟨rfl, by rw [hU], by rw [hU]; exact hP, va_K.moved hW.alike hK, hD.weaken (fun _ _ _ _ => trivial), by rw [hU]; exact ((hZ.kept hS.2.1).narrow hf9).moved hW.alike, hN.warm hW⟩⟩ rfl rfl hl.1 rfl (lv_room (Nat.le_of_ble_eq_true rfl)) dX1_readData_288 ⟨(Nat.zero_le _), (Nat.zero_le _)⟩) hS (fun q _ h => hf9 q h) hf9 (fun u t H locs ht hvm hw hB hz1 hk1 hS => ?_)
                  obtain ⟨hP, hK9, hD9⟩ := hB
                  rw [ht] at hP
                  have hD := hD9.weaken (fun _ q _ h => hf9 q.1 h)
                  refine lv_aload_n hx hb dX1_readData_291 rfl (lv_at hl 6 rfl) ?_
                  refine lv_iload hx hb dX1_readData_292 (lv_at hl 1 rfl) ?_
                  obtain ⟨y123, hy123, hF⟩ := bnd_some hF
                  have hf9 := wA_in hD hA9 hS
                  refine va_callv (va_runV (As := [.int s17.1]) (rest := []) ⟨hx, hb, hml, hown, hts⟩ (kX1_readLevels l D ct ad Z G y122 H.size a s17.1 y123 hc hk hy123) (cwV 1 hts gX1_readData_X1_readLevels rfl rfl rfl (by decide +kernel) ⟨Nat.le_of_ble_eq_true rfl, Nat.le_of_ble_eq_true rfl⟩) ⟨fun a U g mk q => by obtain ⟨q0, q1, qP, qK, qD, qZ, qN⟩ := q; exact ⟨q0, q1, qP, va_K.moved (u := U) (U := U.calling g mk a) (Vm.Alike.refl U.vm) qK, qD, sF.moved (u := U) (U := U.calling g mk a) (Vm.Alike.refl U.vm) qZ, nF.same rfl qN⟩, va_recv hK hP (ci := 1) (q0 := a) rfl (wld_o ct ad G y122 hc hk (by decide)), fun U hU hW => ⟨rfl, by rw [hU], by rw [hU]; exact hP, va_K.moved hW.alike hK, hD.weaken (fun _ _ _ _ => trivial), by rw [hU]; exact ((hZ.kept hS.2.1).narrow hf9).moved hW.alike, hN.warm hW⟩⟩ rfl rfl hl.1 rfl (lv_room (Nat.le_of_ble_eq_true rfl)) dX1_readData_294 ⟨(Nat.zero_le _), (Nat.zero_le _)⟩) hS (fun q _ h => hf9 q h) hf9 (fun u t H locs ht hvm hw hB hz1 hk1 hS => ?_)
                  obtain ⟨hP, hK9, hD9⟩ := hB
                  rw [ht] at hP
                  have hD := hD9.weaken (fun _ q _ h => hf9 q.1 h)
                  obtain rfl := Option.some.inj hF
                  exact J97 _ _ _ hP hD hS (lv_sub hl [0, 1, 2, 3, 4, 5, 6] rfl)
                clear hF
                have hF := hy117
                clear hy117
                refine lv_icmp_ne (tgt := 257) hx hb dX1_readData_240 (by decide) (fun c124 => ?_) (fun c124 => ?_)
                · rw [if_neg c124] at hF
                  obtain rfl := Option.some.inj hF
                  exact J117 _ _ _ hP hD hS (lv_sub hl [0, 1, 2, 3, 4, 5, 6] rfl)
                · rw [if_pos c124] at hF
                  refine lv_aload_n hx hb dX1_readData_243 rfl (lv_at hl 6 rfl) ?_
                  refine va_get (D := D) (ci := 1) (v := va_re ad (y111.2 a 0)) (C := RX1) (T := TX1) (N := 22) hx hb hts (mus hf_X1) hown hK hP a (wld_o ct ad G y111 hc hk (by decide)) rfl 0 (by decide) (hts (.fieldLink RX1 12 "VideoSuite$Decoder" "reader" "LVideoSuite$Reader;") (mu mw_640)) (fun _ h9 => h9) rfl dX1_readData_244 ?_
                  refine lv_aload_n hx hb dX1_readData_247 rfl (lv_at hl 6 rfl) ?_
                  refine va_get (D := D) (ci := 1) (v := va_re ad (y111.2 a 3)) (C := RX1) (T := TX1) (N := 22) hx hb hts (mus hf_X1) hown hK hP a (wld_o ct ad G y111 hc hk (by decide)) rfl 3 (by decide) (hts (.fieldLink RX1 35 "VideoSuite$Decoder" "samples" "LVideoSuite$Samples;") (mu mw_645)) (fun _ h9 => h9) rfl dX1_readData_248 ?_
                  obtain ⟨b125, ho125, hc125, hk125, hF⟩ := dr_some hF
                  refine W_st (st' := [.ref (ad b125), va_re ad (y111.2 a 0)]) (by rw [va_some ho125]) ?_
                  refine va_get (D := D) (ci := 6) (v := va_re ad (y111.2 b125 0)) (C := RX6) (T := TX6) (N := 14) hx hb hts (mus hf_X6) hown hK hP b125 (wld_o ct ad G y111 hc125 hk125 (by decide)) rfl 0 (by decide) (hts (.fieldLink RX1 358 "VideoSuite$Samples" "guess" "[I") (mu mw_534)) (fun _ h9 => h9) rfl dX1_readData_251 ?_
                  obtain ⟨b126, ho126, hc126, hk126, hF⟩ := dr_some hF
                  refine W_st (st' := [va_re ad (y111.2 b125 0), .ref (ad b126)]) (by rw [va_some ho126]) ?_
                  obtain ⟨y127, hy127, hF⟩ := bnd_some hF
                  have hf9 := wA_in hD hA9 hS
                  refine va_callv (va_runV (As := [va_re ad (y111.2 b125 0)]) (rest := []) ⟨hx, hb, hml, hown, hts⟩ (kX5_rawSamples l D ct ad Z G y111 H.size b126 ((y111.2 b125 0)) y127 hc126 hk126 hy127) (cwV 1 hts gX1_readData_X5_rawSamples rfl rfl rfl (by decide +kernel) ⟨Nat.le_of_ble_eq_true rfl, Nat.le_of_ble_eq_true rfl⟩) ⟨fun a U g mk q => by obtain ⟨q0, q1, qP, qK, qD, qZ, qN⟩ := q; exact ⟨q0, q1, qP, va_K.moved (u := U) (U := U.calling g mk a) (Vm.Alike.refl U.vm) qK, qD, sF.moved (u := U) (U := U.calling g mk a) (Vm.Alike.refl U.vm) qZ, nF.same rfl qN⟩, va_recv hK hP (ci := 5) (q0 := b126) rfl (wld_o ct ad G y111 hc126 hk126 (by decide)), fun U hU hW => ⟨rfl, by rw [hU], by rw [hU]; exact hP, va_K.moved hW.alike hK, hD.weaken (fun _ _ _ _ => trivial), by rw [hU]; exact ((hZ.kept hS.2.1).narrow hf9).moved hW.alike, hN.warm hW⟩⟩ rfl rfl hl.1 rfl (lv_room (Nat.le_of_ble_eq_true rfl)) dX1_readData_254 ⟨(Nat.zero_le _), (Nat.zero_le _)⟩) hS (fun q _ h => hf9 q h) hf9 (fun u t H locs ht hvm hw hB hz1 hk1 hS => ?_)
                  obtain ⟨hP, hK9, hD9⟩ := hB
                  rw [ht] at hP
                  have hD := hD9.weaken (fun _ q _ h => hf9 q.1 h)
                  obtain rfl := Option.some.inj hF
                  exact J117 _ _ _ hP hD hS (lv_sub hl [0, 1, 2, 3, 4, 5, 6] rfl)
              · rw [if_neg c110] at hF
                refine lv_iload_n hx hb dX1_readData_192 rfl (lv_at hl 4 rfl) ?_
                obtain ⟨y128, hy128, hF⟩ := bnd_some hF
                have J128 : ∀ (H : Heap) (locs : List Loc) (ls : Array Slot), va_P D classes (wld ct ad G y128) H → va_D A (wld ct ad G y128) → va_S A s.heap H locs → lv_has ls 9 [(6, .int s17.2.1), (5, .int s17.1), (4, .int y11.2), (3, .int y9), (2, .int y5), (1, va_re ad (M.2 b2 0)), (0, .ref (ad a))] → W p l e (headSpec wuX1_readData ({ frames := 6, cells := 0, slots := 0, locals := 166 })).room s m ([.ref (ad a)] : List Value).toArray below meth c H locs 0 0 (MQ below (va_Qv (fun (_ : Unit) => True) (fun _ t => kE D ct ad G A y t) A) ([.ref (ad a)] : List Value).toArray s 0 0 A) (F0 m 297 ls []) := by
                  intro H locs ls hP hD hS hl
                  obtain rfl := Option.some.inj hF
                  exact J97 _ _ _ hP hD hS (lv_sub hl [0, 1, 2, 3, 4, 5, 6] rfl)
                clear hF
                have hF := hy128
                clear hy128
                refine lv_if_ne (tgt := 218) hx hb dX1_readData_193 (by decide) (fun c129 => ?_) (fun c129 => ?_)
                · rw [if_neg c129] at hF
                  refine lv_aload_n hx hb dX1_readData_218 rfl (lv_at hl 6 rfl) ?_
                  refine lv_iload hx hb dX1_readData_219 (lv_at hl 1 rfl) ?_
                  obtain ⟨y130, hy130, hF⟩ := bnd_some hF
                  have hf9 := wA_in hD hA9 hS
                  refine va_callv (va_runV (As := [.int s17.1]) (rest := []) ⟨hx, hb, hml, hown, hts⟩ (kX1_readBlock l D ct ad Z G y96 H.size a s17.1 y130 hc hk hy130) (cwV 1 hts gX1_readData_X1_readBlock rfl rfl rfl (by decide +kernel) ⟨Nat.le_of_ble_eq_true rfl, Nat.le_of_ble_eq_true rfl⟩) ⟨fun a U g mk q => by obtain ⟨q0, q1, qP, qK, qD, qZ, qN⟩ := q; exact ⟨q0, q1, qP, va_K.moved (u := U) (U := U.calling g mk a) (Vm.Alike.refl U.vm) qK, qD, sF.moved (u := U) (U := U.calling g mk a) (Vm.Alike.refl U.vm) qZ, nF.same rfl qN⟩, va_recv hK hP (ci := 1) (q0 := a) rfl (wld_o ct ad G y96 hc hk (by decide)), fun U hU hW => ⟨rfl, by rw [hU], by rw [hU]; exact hP, va_K.moved hW.alike hK, hD.weaken (fun _ _ _ _ => trivial), by rw [hU]; exact ((hZ.kept hS.2.1).narrow hf9).moved hW.alike, hN.warm hW⟩⟩ rfl rfl hl.1 rfl (lv_room (Nat.le_of_ble_eq_true rfl)) dX1_readData_221 ⟨(Nat.zero_le _), (Nat.zero_le _)⟩) hS (fun q _ h => hf9 q h) hf9 (fun u t H locs ht hvm hw hB hz1 hk1 hS => ?_)
                  obtain ⟨hP, hK9, hD9⟩ := hB
                  rw [ht] at hP
                  have hD := hD9.weaken (fun _ q _ h => hf9 q.1 h)
                  refine lv_aload_n hx hb dX1_readData_224 rfl (lv_at hl 6 rfl) ?_
                  refine va_get (D := D) (ci := 1) (v := va_re ad (y130.2 a 2)) (C := RX1) (T := TX1) (N := 22) hx hb hts (mus hf_X1) hown hK hP a (wld_o ct ad G y130 hc hk (by decide)) rfl 2 (by decide) (hts (.fieldLink RX1 28 "VideoSuite$Decoder" "work" "LVideoSuite$Work;") (mu mw_644)) (fun _ h9 => h9) rfl dX1_readData_225 ?_
                  obtain ⟨b131, ho131, hc131, hk131, hF⟩ := dr_some hF
                  refine W_st (st' := [.ref (ad b131)]) (by rw [va_some ho131]) ?_
                  refine va_get (D := D) (ci := 9) (v := va_re ad (y130.2 b131 6)) (C := RX9) (T := TX9) (N := 20) hx hb hts (mus hf_X9) hown hK hP b131 (wld_o ct ad G y130 hc131 hk131 (by decide)) rfl 6 (by decide) (hts (.fieldLink RX1 355 "VideoSuite$Work" "info" "[I") (mu mw_444)) (fun _ h9 => h9) rfl dX1_readData_228 ?_
                  refine lv_bipush (v := (8 : Int32)) hx hb dX1_readData_231 (by decide) ?_
                  refine lv_iload hx hb dX1_readData_233 (lv_at hl 1 rfl) ?_
                  refine lv_imul hx hb dX1_readData_235 ?_
                  obtain ⟨x132, ex132, hF⟩ := ltt_some hF
                  refine lv_topi (fun zx132 ezx132 => ?_)
                  obtain rfl : x132 = zx132 := ex132.trans ezx132.symm
                  refine lv_iconst (v := (0 : Int32)) hx hb dX1_readData_236 (by decide) ?_
                  refine lv_iadd hx hb dX1_readData_237 ?_
                  obtain ⟨x133, ex133, hF⟩ := ltt_some hF
                  refine lv_topi (fun zx133 ezx133 => ?_)
                  obtain rfl : x133 = zx133 := ex133.trans ezx133.symm
                  obtain ⟨b134, ho134, hc134, hk134, hF⟩ := dr_some hF
                  refine W_st (st' := [.int x133, .ref (ad b134)]) (by rw [va_some ho134]) ?_
                  obtain ⟨hvc, hF⟩ := chk_some hF
                  refine va_iald hx hb hK hP b134 1 (wld_i ct ad G y130 hc134 hk134) rfl hvc dX1_readData_238 ?_
                  obtain ⟨x135, ex135, hF⟩ := ltt_some hF
                  refine lv_topi (fun zx135 ezx135 => ?_)
                  obtain rfl : x135 = zx135 := ex135.trans ezx135.symm
                  refine lv_iconst (v := (2 : Int32)) hx hb dX1_readData_239 (by decide) ?_
                  obtain ⟨y136, hy136, hF⟩ := bnd_some hF
                  have J136 : ∀ (H : Heap) (locs : List Loc) (ls : Array Slot), va_P D classes (wld ct ad G y136) H → va_D A (wld ct ad G y136) → va_S A s.heap H locs → lv_has ls 9 [(6, .int s17.2.1), (5, .int s17.1), (4, .int y11.2), (3, .int y9), (2, .int y5), (1, va_re ad (M.2 b2 0)), (0, .ref (ad a))] → W p l e (headSpec wuX1_readData ({ frames := 6, cells := 0, slots := 0, locals := 166 })).room s m ([.ref (ad a)] : List Value).toArray below meth c H locs 0 0 (MQ below (va_Qv (fun (_ : Unit) => True) (fun _ t => kE D ct ad G A y t) A) ([.ref (ad a)] : List Value).toArray s 0 0 A) (F0 m 257 ls []) := by
                    intro H locs ls hP hD hS hl
                    refine lv_aload_n hx hb dX1_readData_257 rfl (lv_at hl 6 rfl) ?_
                    refine lv_iload hx hb dX1_readData_258 (lv_at hl 1 rfl) ?_
                    refine lv_iconst (v := (0 : Int32)) hx hb dX1_readData_260 (by decide) ?_
                    obtain ⟨y137, hy137, hF⟩ := bnd_some hF
                    have hf9 := wA_in hD hA9 hS
                    refine va_callv (va_runV (As := [.int s17.1, .int (0 : Int32)]) (rest := []) ⟨hx, hb, hml, hown, hts⟩ (kX1_readReferences l D ct ad Z G y136 H.size a s17.1 ((0 : Int32)) y137 hc hk hy137) (cwV 2 hts gX1_readData_X1_readReferences rfl rfl rfl (by decide +kernel) ⟨Nat.le_of_ble_eq_true rfl, Nat.le_of_ble_eq_true rfl⟩) ⟨fun a U g mk q => by obtain ⟨q0, q1, qP, qK, qD, qZ, qN⟩ := q; exact ⟨q0, q1, qP, va_K.moved (u := U) (U := U.calling g mk a) (Vm.Alike.refl U.vm) qK, qD, sF.moved (u := U) (U := U.calling g mk a) (Vm.Alike.refl U.vm) qZ, nF.same rfl qN⟩, va_recv hK hP (ci := 1) (q0 := a) rfl (wld_o ct ad G y136 hc hk (by decide)), fun U hU hW => ⟨rfl, by rw [hU], by rw [hU]; exact hP, va_K.moved hW.alike hK, hD.weaken (fun _ _ _ _ => trivial), by rw [hU]; exact ((hZ.kept hS.2.1).narrow hf9).moved hW.alike, hN.warm hW⟩⟩ rfl rfl hl.1 rfl (lv_room (Nat.le_of_ble_eq_true rfl)) dX1_readData_261 ⟨(Nat.zero_le _), (Nat.zero_le _)⟩) hS (fun q _ h => hf9 q h) hf9 (fun u t H locs ht hvm hw hB hz1 hk1 hS => ?_)
                    obtain ⟨hP, hK9, hD9⟩ := hB
                    rw [ht] at hP
                    have hD := hD9.weaken (fun _ q _ h => hf9 q.1 h)
                    refine lv_aload_n hx hb dX1_readData_264 rfl (lv_at hl 6 rfl) ?_
                    refine lv_iload hx hb dX1_readData_265 (lv_at hl 1 rfl) ?_
                    refine lv_iconst (v := (1 : Int32)) hx hb dX1_readData_267 (by decide) ?_
                    obtain ⟨y138, hy138, hF⟩ := bnd_some hF
                    have hf9 := wA_in hD hA9 hS
                    refine va_callv (va_runV (As := [.int s17.1, .int (1 : Int32)]) (rest := []) ⟨hx, hb, hml, hown, hts⟩ (kX1_readReferences l D ct ad Z G y137 H.size a s17.1 ((1 : Int32)) y138 hc hk hy138) (cwV 2 hts gX1_readData_X1_readReferences rfl rfl rfl (by decide +kernel) ⟨Nat.le_of_ble_eq_true rfl, Nat.le_of_ble_eq_true rfl⟩) ⟨fun a U g mk q => by obtain ⟨q0, q1, qP, qK, qD, qZ, qN⟩ := q; exact ⟨q0, q1, qP, va_K.moved (u := U) (U := U.calling g mk a) (Vm.Alike.refl U.vm) qK, qD, sF.moved (u := U) (U := U.calling g mk a) (Vm.Alike.refl U.vm) qZ, nF.same rfl qN⟩, va_recv hK hP (ci := 1) (q0 := a) rfl (wld_o ct ad G y137 hc hk (by decide)), fun U hU hW => ⟨rfl, by rw [hU], by rw [hU]; exact hP, va_K.moved hW.alike hK, hD.weaken (fun _ _ _ _ => trivial), by rw [hU]; exact ((hZ.kept hS.2.1).narrow hf9).moved hW.alike, hN.warm hW⟩⟩ rfl rfl hl.1 rfl (lv_room (Nat.le_of_ble_eq_true rfl)) dX1_readData_268 ⟨(Nat.zero_le _), (Nat.zero_le _)⟩) hS (fun q _ h => hf9 q h) hf9 (fun u t H locs ht hvm hw hB hz1 hk1 hS => ?_)
                    obtain ⟨hP, hK9, hD9⟩ := hB
                    rw [ht] at hP
                    have hD := hD9.weaken (fun _ q _ h => hf9 q.1 h)
                    refine lv_aload_n hx hb dX1_readData_271 rfl (lv_at hl 6 rfl) ?_
                    refine lv_iload hx hb dX1_readData_272 (lv_at hl 1 rfl) ?_
                    refine lv_iconst (v := (0 : Int32)) hx hb dX1_readData_274 (by decide) ?_
                    obtain ⟨y139, hy139, hF⟩ := bnd_some hF
                    have hf9 := wA_in hD hA9 hS
                    refine va_callv (va_runV (As := [.int s17.1, .int (0 : Int32)]) (rest := []) ⟨hx, hb, hml, hown, hts⟩ (kX1_readVectors l D ct ad Z G y138 H.size a s17.1 ((0 : Int32)) y139 hc hk hy139) (cwV 2 hts gX1_readData_X1_readVectors rfl rfl rfl (by decide +kernel) ⟨Nat.le_of_ble_eq_true rfl, Nat.le_of_ble_eq_true rfl⟩) ⟨fun a U g mk q => by obtain ⟨q0, q1, qP, qK, qD, qZ, qN⟩ := q; exact ⟨q0, q1, qP, va_K.moved (u := U) (U := U.calling g mk a) (Vm.Alike.refl U.vm) qK, qD, sF.moved (u := U) (U := U.calling g mk a) (Vm.Alike.refl U.vm) qZ, nF.same rfl qN⟩, va_recv hK hP (ci := 1) (q0 := a) rfl (wld_o ct ad G y138 hc hk (by decide)), fun U hU hW => ⟨rfl, by rw [hU], by rw [hU]; exact hP, va_K.moved hW.alike hK, hD.weaken (fun _ _ _ _ => trivial), by rw [hU]; exact ((hZ.kept hS.2.1).narrow hf9).moved hW.alike, hN.warm hW⟩⟩ rfl rfl hl.1 rfl (lv_room (Nat.le_of_ble_eq_true rfl)) dX1_readData_275 ⟨(Nat.zero_le _), (Nat.zero_le _)⟩) hS (fun q _ h => hf9 q h) hf9 (fun u t H locs ht hvm hw hB hz1 hk1 hS => ?_)
                    obtain ⟨hP, hK9, hD9⟩ := hB
                    rw [ht] at hP
                    have hD := hD9.weaken (fun _ q _ h => hf9 q.1 h)
                    refine lv_aload_n hx hb dX1_readData_278 rfl (lv_at hl 6 rfl) ?_
                    refine lv_iload hx hb dX1_readData_279 (lv_at hl 1 rfl) ?_
                    refine lv_iconst (v := (1 : Int32)) hx hb dX1_readData_281 (by decide) ?_
                    obtain ⟨y140, hy140, hF⟩ := bnd_some hF
                    have hf9 := wA_in hD hA9 hS
                    refine va_callv (va_runV (As := [.int s17.1, .int (1 : Int32)]) (rest := []) ⟨hx, hb, hml, hown, hts⟩ (kX1_readVectors l D ct ad Z G y139 H.size a s17.1 ((1 : Int32)) y140 hc hk hy140) (cwV 2 hts gX1_readData_X1_readVectors rfl rfl rfl (by decide +kernel) ⟨Nat.le_of_ble_eq_true rfl, Nat.le_of_ble_eq_true rfl⟩) ⟨fun a U g mk q => by obtain ⟨q0, q1, qP, qK, qD, qZ, qN⟩ := q; exact ⟨q0, q1, qP, va_K.moved (u := U) (U := U.calling g mk a) (Vm.Alike.refl U.vm) qK, qD, sF.moved (u := U) (U := U.calling g mk a) (Vm.Alike.refl U.vm) qZ, nF.same rfl qN⟩, va_recv hK hP (ci := 1) (q0 := a) rfl (wld_o ct ad G y139 hc hk (by decide)), fun U hU hW => ⟨rfl, by rw [hU], by rw [hU]; exact hP, va_K.moved hW.alike hK, hD.weaken (fun _ _ _ _ => trivial), by rw [hU]; exact ((hZ.kept hS.2.1).narrow hf9).moved hW.alike, hN.warm hW⟩⟩ rfl rfl hl.1 rfl (lv_room (Nat.le_of_ble_eq_true rfl)) dX1_readData_282 ⟨(Nat.zero_le _), (Nat.zero_le _)⟩) hS (fun q _ h => hf9 q h) hf9 (fun u t H locs ht hvm hw hB hz1 hk1 hS => ?_)
                    obtain ⟨hP, hK9, hD9⟩ := hB
                    rw [ht] at hP
                    have hD := hD9.weaken (fun _ q _ h => hf9 q.1 h)
                    refine lv_aload_n hx hb dX1_readData_285 rfl (lv_at hl 6 rfl) ?_
                    refine lv_iload hx hb dX1_readData_286 (lv_at hl 1 rfl) ?_
                    obtain ⟨y141, hy141, hF⟩ := bnd_some hF
                    have hf9 := wA_in hD hA9 hS
                    refine va_callv (va_runV (As := [.int s17.1]) (rest := []) ⟨hx, hb, hml, hown, hts⟩ (kX1_readPattern l D ct ad Z G y140 H.size a s17.1 y141 hc hk hy141) (cwV 1 hts gX1_readData_X1_readPattern rfl rfl rfl (by decide +kernel) ⟨Nat.le_of_ble_eq_true rfl, Nat.le_of_ble_eq_true rfl⟩) ⟨fun a U g mk q => by obtain ⟨q0, q1, qP, qK, qD, qZ, qN⟩ := q; exact ⟨q0, q1, qP, va_K.moved (u := U) (U := U.calling g mk a) (Vm.Alike.refl U.vm) qK, qD, sF.moved (u := U) (U := U.calling g mk a) (Vm.Alike.refl U.vm) qZ, nF.same rfl qN⟩, va_recv hK hP (ci := 1) (q0 := a) rfl (wld_o ct ad G y140 hc hk (by decide)), fun U hU hW => ⟨rfl, by rw [hU], by rw [hU]; exact hP, va_K.moved hW.alike hK, hD.weaken (fun _ _ _ _ => trivial), by rw [hU]; exact ((hZ.kept hS.2.1).narrow hf9).moved hW.alike, hN.warm hW⟩⟩ rfl rfl hl.1 rfl (lv_room (Nat.le_of_ble_eq_true rfl)) dX1_readData_288 ⟨(Nat.zero_le _), (Nat.zero_le _)⟩) hS (fun q _ h => hf9 q h) hf9 (fun u t H locs ht hvm hw hB hz1 hk1 hS => ?_)
                    obtain ⟨hP, hK9, hD9⟩ := hB
                    rw [ht] at hP
                    have hD := hD9.weaken (fun _ q _ h => hf9 q.1 h)
                    refine lv_aload_n hx hb dX1_readData_291 rfl (lv_at hl 6 rfl) ?_
                    refine lv_iload hx hb dX1_readData_292 (lv_at hl 1 rfl) ?_
                    obtain ⟨y142, hy142, hF⟩ := bnd_some hF
                    have hf9 := wA_in hD hA9 hS
                    refine va_callv (va_runV (As := [.int s17.1]) (rest := []) ⟨hx, hb, hml, hown, hts⟩ (kX1_readLevels l D ct ad Z G y141 H.size a s17.1 y142 hc hk hy142) (cwV 1 hts gX1_readData_X1_readLevels rfl rfl rfl (by decide +kernel) ⟨Nat.le_of_ble_eq_true rfl, Nat.le_of_ble_eq_true rfl⟩) ⟨fun a U g mk q => by obtain ⟨q0, q1, qP, qK, qD, qZ, qN⟩ := q; exact ⟨q0, q1, qP, va_K.moved (u := U) (U := U.calling g mk a) (Vm.Alike.refl U.vm) qK, qD, sF.moved (u := U) (U := U.calling g mk a) (Vm.Alike.refl U.vm) qZ, nF.same rfl qN⟩, va_recv hK hP (ci := 1) (q0 := a) rfl (wld_o ct ad G y141 hc hk (by decide)), fun U hU hW => ⟨rfl, by rw [hU], by rw [hU]; exact hP, va_K.moved hW.alike hK, hD.weaken (fun _ _ _ _ => trivial), by rw [hU]; exact ((hZ.kept hS.2.1).narrow hf9).moved hW.alike, hN.warm hW⟩⟩ rfl rfl hl.1 rfl (lv_room (Nat.le_of_ble_eq_true rfl)) dX1_readData_294 ⟨(Nat.zero_le _), (Nat.zero_le _)⟩) hS (fun q _ h => hf9 q h) hf9 (fun u t H locs ht hvm hw hB hz1 hk1 hS => ?_)
                    obtain ⟨hP, hK9, hD9⟩ := hB
                    rw [ht] at hP
                    have hD := hD9.weaken (fun _ q _ h => hf9 q.1 h)
                    obtain rfl := Option.some.inj hF
                    exact J128 _ _ _ hP hD hS (lv_sub hl [0, 1, 2, 3, 4, 5, 6] rfl)
                  clear hF
                  have hF := hy136
                  clear hy136
                  refine lv_icmp_ne (tgt := 257) hx hb dX1_readData_240 (by decide) (fun c143 => ?_) (fun c143 => ?_)
                  · rw [if_neg c143] at hF
                    obtain rfl := Option.some.inj hF
                    exact J136 _ _ _ hP hD hS (lv_sub hl [0, 1, 2, 3, 4, 5, 6] rfl)
                  · rw [if_pos c143] at hF
                    refine lv_aload_n hx hb dX1_readData_243 rfl (lv_at hl 6 rfl) ?_
                    refine va_get (D := D) (ci := 1) (v := va_re ad (y130.2 a 0)) (C := RX1) (T := TX1) (N := 22) hx hb hts (mus hf_X1) hown hK hP a (wld_o ct ad G y130 hc hk (by decide)) rfl 0 (by decide) (hts (.fieldLink RX1 12 "VideoSuite$Decoder" "reader" "LVideoSuite$Reader;") (mu mw_640)) (fun _ h9 => h9) rfl dX1_readData_244 ?_
                    refine lv_aload_n hx hb dX1_readData_247 rfl (lv_at hl 6 rfl) ?_
                    refine va_get (D := D) (ci := 1) (v := va_re ad (y130.2 a 3)) (C := RX1) (T := TX1) (N := 22) hx hb hts (mus hf_X1) hown hK hP a (wld_o ct ad G y130 hc hk (by decide)) rfl 3 (by decide) (hts (.fieldLink RX1 35 "VideoSuite$Decoder" "samples" "LVideoSuite$Samples;") (mu mw_645)) (fun _ h9 => h9) rfl dX1_readData_248 ?_
                    obtain ⟨b144, ho144, hc144, hk144, hF⟩ := dr_some hF
                    refine W_st (st' := [.ref (ad b144), va_re ad (y130.2 a 0)]) (by rw [va_some ho144]) ?_
                    refine va_get (D := D) (ci := 6) (v := va_re ad (y130.2 b144 0)) (C := RX6) (T := TX6) (N := 14) hx hb hts (mus hf_X6) hown hK hP b144 (wld_o ct ad G y130 hc144 hk144 (by decide)) rfl 0 (by decide) (hts (.fieldLink RX1 358 "VideoSuite$Samples" "guess" "[I") (mu mw_534)) (fun _ h9 => h9) rfl dX1_readData_251 ?_
                    obtain ⟨b145, ho145, hc145, hk145, hF⟩ := dr_some hF
                    refine W_st (st' := [va_re ad (y130.2 b144 0), .ref (ad b145)]) (by rw [va_some ho145]) ?_
                    obtain ⟨y146, hy146, hF⟩ := bnd_some hF
                    have hf9 := wA_in hD hA9 hS
                    refine va_callv (va_runV (As := [va_re ad (y130.2 b144 0)]) (rest := []) ⟨hx, hb, hml, hown, hts⟩ (kX5_rawSamples l D ct ad Z G y130 H.size b145 ((y130.2 b144 0)) y146 hc145 hk145 hy146) (cwV 1 hts gX1_readData_X5_rawSamples rfl rfl rfl (by decide +kernel) ⟨Nat.le_of_ble_eq_true rfl, Nat.le_of_ble_eq_true rfl⟩) ⟨fun a U g mk q => by obtain ⟨q0, q1, qP, qK, qD, qZ, qN⟩ := q; exact ⟨q0, q1, qP, va_K.moved (u := U) (U := U.calling g mk a) (Vm.Alike.refl U.vm) qK, qD, sF.moved (u := U) (U := U.calling g mk a) (Vm.Alike.refl U.vm) qZ, nF.same rfl qN⟩, va_recv hK hP (ci := 5) (q0 := b145) rfl (wld_o ct ad G y130 hc145 hk145 (by decide)), fun U hU hW => ⟨rfl, by rw [hU], by rw [hU]; exact hP, va_K.moved hW.alike hK, hD.weaken (fun _ _ _ _ => trivial), by rw [hU]; exact ((hZ.kept hS.2.1).narrow hf9).moved hW.alike, hN.warm hW⟩⟩ rfl rfl hl.1 rfl (lv_room (Nat.le_of_ble_eq_true rfl)) dX1_readData_254 ⟨(Nat.zero_le _), (Nat.zero_le _)⟩) hS (fun q _ h => hf9 q h) hf9 (fun u t H locs ht hvm hw hB hz1 hk1 hS => ?_)
                    obtain ⟨hP, hK9, hD9⟩ := hB
                    rw [ht] at hP
                    have hD := hD9.weaken (fun _ q _ h => hf9 q.1 h)
                    obtain rfl := Option.some.inj hF
                    exact J136 _ _ _ hP hD hS (lv_sub hl [0, 1, 2, 3, 4, 5, 6] rfl)
                · rw [if_pos c129] at hF
                  refine lv_aload_n hx hb dX1_readData_196 rfl (lv_at hl 6 rfl) ?_
                  refine va_get (D := D) (ci := 1) (v := va_re ad (y96.2 a 0)) (C := RX1) (T := TX1) (N := 22) hx hb hts (mus hf_X1) hown hK hP a (wld_o ct ad G y96 hc hk (by decide)) rfl 0 (by decide) (hts (.fieldLink RX1 12 "VideoSuite$Decoder" "reader" "LVideoSuite$Reader;") (mu mw_640)) (fun _ h9 => h9) rfl dX1_readData_197 ?_
                  refine lv_iconst (v := (0 : Int32)) hx hb dX1_readData_200 (by decide) ?_
                  refine lv_iconst (v := (0 : Int32)) hx hb dX1_readData_201 (by decide) ?_
                  obtain ⟨b147, ho147, hc147, hk147, hF⟩ := dr_some hF
                  refine W_st (st' := [.int (0 : Int32), .int (0 : Int32), .ref (ad b147)]) (by rw [va_some ho147]) ?_
                  obtain ⟨y148, hy148, hF⟩ := bnd_some hF
                  have hf9 := wA_in hD hA9 hS
                  refine va_calli (va_runV (As := [.int (0 : Int32), .int (0 : Int32)]) (rest := []) ⟨hx, hb, hml, hown, hts⟩ (kX5_bit l D ct ad Z G y96 H.size b147 ((0 : Int32)) ((0 : Int32)) y148 hc147 hk147 hy148) (cwV 2 hts gX1_readData_X5_bit rfl rfl rfl (by decide +kernel) ⟨Nat.le_of_ble_eq_true rfl, Nat.le_of_ble_eq_true rfl⟩) ⟨fun a U g mk q => by obtain ⟨q0, q1, qP, qK, qD, qZ, qN⟩ := q; exact ⟨q0, q1, qP, va_K.moved (u := U) (U := U.calling g mk a) (Vm.Alike.refl U.vm) qK, qD, sF.moved (u := U) (U := U.calling g mk a) (Vm.Alike.refl U.vm) qZ, nF.same rfl qN⟩, va_recv hK hP (ci := 5) (q0 := b147) rfl (wld_o ct ad G y96 hc147 hk147 (by decide)), fun U hU hW => ⟨rfl, by rw [hU], by rw [hU]; exact hP, va_K.moved hW.alike hK, hD.weaken (fun _ _ _ _ => trivial), by rw [hU]; exact ((hZ.kept hS.2.1).narrow hf9).moved hW.alike, hN.warm hW⟩⟩ rfl rfl hl.1 rfl (lv_room (Nat.le_of_ble_eq_true rfl)) dX1_readData_202 ⟨(Nat.zero_le _), (Nat.zero_le _)⟩) hS (fun q _ h => hf9 q h) hf9 (fun r u t H locs ht hvm hw hB hz1 hk1 hS => ?_)
                  obtain ⟨hP, hK9, hD9⟩ := hB
                  rw [ht] at hP
                  try dsimp only at hw
                  subst hw
                  have hD := hD9.weaken (fun _ q _ h => hf9 q.1 h)
                  refine lv_iconst (v := (1 : Int32)) hx hb dX1_readData_205 (by decide) ?_
                  obtain ⟨y149, hy149, hF⟩ := bnd_some hF
                  have J149 : ∀ (H : Heap) (locs : List Loc) (ls : Array Slot), va_P D classes (wld ct ad G y149) H → va_D A (wld ct ad G y149) → va_S A s.heap H locs → lv_has ls 9 [(6, .int s17.2.1), (5, .int s17.1), (4, .int y11.2), (3, .int y9), (2, .int y5), (1, va_re ad (M.2 b2 0)), (0, .ref (ad a))] → W p l e (headSpec wuX1_readData ({ frames := 6, cells := 0, slots := 0, locals := 166 })).room s m ([.ref (ad a)] : List Value).toArray below meth c H locs 0 0 (MQ below (va_Qv (fun (_ : Unit) => True) (fun _ t => kE D ct ad G A y t) A) ([.ref (ad a)] : List Value).toArray s 0 0 A) (F0 m 297 ls []) := by
                    intro H locs ls hP hD hS hl
                    obtain rfl := Option.some.inj hF
                    exact J128 _ _ _ hP hD hS (lv_sub hl [0, 1, 2, 3, 4, 5, 6] rfl)
                  clear hF
                  have hF := hy149
                  clear hy149
                  refine lv_icmp_ne (tgt := 218) hx hb dX1_readData_206 (by decide) (fun c150 => ?_) (fun c150 => ?_)
                  · rw [if_neg c150] at hF
                    refine lv_aload_n hx hb dX1_readData_218 rfl (lv_at hl 6 rfl) ?_
                    refine lv_iload hx hb dX1_readData_219 (lv_at hl 1 rfl) ?_
                    obtain ⟨y151, hy151, hF⟩ := bnd_some hF
                    have hf9 := wA_in hD hA9 hS
                    refine va_callv (va_runV (As := [.int s17.1]) (rest := []) ⟨hx, hb, hml, hown, hts⟩ (kX1_readBlock l D ct ad Z G y148.1 H.size a s17.1 y151 hc hk hy151) (cwV 1 hts gX1_readData_X1_readBlock rfl rfl rfl (by decide +kernel) ⟨Nat.le_of_ble_eq_true rfl, Nat.le_of_ble_eq_true rfl⟩) ⟨fun a U g mk q => by obtain ⟨q0, q1, qP, qK, qD, qZ, qN⟩ := q; exact ⟨q0, q1, qP, va_K.moved (u := U) (U := U.calling g mk a) (Vm.Alike.refl U.vm) qK, qD, sF.moved (u := U) (U := U.calling g mk a) (Vm.Alike.refl U.vm) qZ, nF.same rfl qN⟩, va_recv hK hP (ci := 1) (q0 := a) rfl (wld_o ct ad G y148.1 hc hk (by decide)), fun U hU hW => ⟨rfl, by rw [hU], by rw [hU]; exact hP, va_K.moved hW.alike hK, hD.weaken (fun _ _ _ _ => trivial), by rw [hU]; exact ((hZ.kept hS.2.1).narrow hf9).moved hW.alike, hN.warm hW⟩⟩ rfl rfl hl.1 rfl (lv_room (Nat.le_of_ble_eq_true rfl)) dX1_readData_221 ⟨(Nat.zero_le _), (Nat.zero_le _)⟩) hS (fun q _ h => hf9 q h) hf9 (fun u t H locs ht hvm hw hB hz1 hk1 hS => ?_)
                    obtain ⟨hP, hK9, hD9⟩ := hB
                    rw [ht] at hP
                    have hD := hD9.weaken (fun _ q _ h => hf9 q.1 h)
                    refine lv_aload_n hx hb dX1_readData_224 rfl (lv_at hl 6 rfl) ?_
                    refine va_get (D := D) (ci := 1) (v := va_re ad (y151.2 a 2)) (C := RX1) (T := TX1) (N := 22) hx hb hts (mus hf_X1) hown hK hP a (wld_o ct ad G y151 hc hk (by decide)) rfl 2 (by decide) (hts (.fieldLink RX1 28 "VideoSuite$Decoder" "work" "LVideoSuite$Work;") (mu mw_644)) (fun _ h9 => h9) rfl dX1_readData_225 ?_
                    obtain ⟨b152, ho152, hc152, hk152, hF⟩ := dr_some hF
                    refine W_st (st' := [.ref (ad b152)]) (by rw [va_some ho152]) ?_
                    refine va_get (D := D) (ci := 9) (v := va_re ad (y151.2 b152 6)) (C := RX9) (T := TX9) (N := 20) hx hb hts (mus hf_X9) hown hK hP b152 (wld_o ct ad G y151 hc152 hk152 (by decide)) rfl 6 (by decide) (hts (.fieldLink RX1 355 "VideoSuite$Work" "info" "[I") (mu mw_444)) (fun _ h9 => h9) rfl dX1_readData_228 ?_
                    refine lv_bipush (v := (8 : Int32)) hx hb dX1_readData_231 (by decide) ?_
                    refine lv_iload hx hb dX1_readData_233 (lv_at hl 1 rfl) ?_
                    refine lv_imul hx hb dX1_readData_235 ?_
                    obtain ⟨x153, ex153, hF⟩ := ltt_some hF
                    refine lv_topi (fun zx153 ezx153 => ?_)
                    obtain rfl : x153 = zx153 := ex153.trans ezx153.symm
                    refine lv_iconst (v := (0 : Int32)) hx hb dX1_readData_236 (by decide) ?_
                    refine lv_iadd hx hb dX1_readData_237 ?_
                    obtain ⟨x154, ex154, hF⟩ := ltt_some hF
                    refine lv_topi (fun zx154 ezx154 => ?_)
                    obtain rfl : x154 = zx154 := ex154.trans ezx154.symm
                    obtain ⟨b155, ho155, hc155, hk155, hF⟩ := dr_some hF
                    refine W_st (st' := [.int x154, .ref (ad b155)]) (by rw [va_some ho155]) ?_
                    obtain ⟨hvc, hF⟩ := chk_some hF
                    refine va_iald hx hb hK hP b155 1 (wld_i ct ad G y151 hc155 hk155) rfl hvc dX1_readData_238 ?_
                    obtain ⟨x156, ex156, hF⟩ := ltt_some hF
                    refine lv_topi (fun zx156 ezx156 => ?_)
                    obtain rfl : x156 = zx156 := ex156.trans ezx156.symm
                    refine lv_iconst (v := (2 : Int32)) hx hb dX1_readData_239 (by decide) ?_
                    obtain ⟨y157, hy157, hF⟩ := bnd_some hF
                    have J157 : ∀ (H : Heap) (locs : List Loc) (ls : Array Slot), va_P D classes (wld ct ad G y157) H → va_D A (wld ct ad G y157) → va_S A s.heap H locs → lv_has ls 9 [(6, .int s17.2.1), (5, .int s17.1), (4, .int y11.2), (3, .int y9), (2, .int y5), (1, va_re ad (M.2 b2 0)), (0, .ref (ad a))] → W p l e (headSpec wuX1_readData ({ frames := 6, cells := 0, slots := 0, locals := 166 })).room s m ([.ref (ad a)] : List Value).toArray below meth c H locs 0 0 (MQ below (va_Qv (fun (_ : Unit) => True) (fun _ t => kE D ct ad G A y t) A) ([.ref (ad a)] : List Value).toArray s 0 0 A) (F0 m 257 ls []) := by
                      intro H locs ls hP hD hS hl
                      refine lv_aload_n hx hb dX1_readData_257 rfl (lv_at hl 6 rfl) ?_
                      refine lv_iload hx hb dX1_readData_258 (lv_at hl 1 rfl) ?_
                      refine lv_iconst (v := (0 : Int32)) hx hb dX1_readData_260 (by decide) ?_
                      obtain ⟨y158, hy158, hF⟩ := bnd_some hF
                      have hf9 := wA_in hD hA9 hS
                      refine va_callv (va_runV (As := [.int s17.1, .int (0 : Int32)]) (rest := []) ⟨hx, hb, hml, hown, hts⟩ (kX1_readReferences l D ct ad Z G y157 H.size a s17.1 ((0 : Int32)) y158 hc hk hy158) (cwV 2 hts gX1_readData_X1_readReferences rfl rfl rfl (by decide +kernel) ⟨Nat.le_of_ble_eq_true rfl, Nat.le_of_ble_eq_true rfl⟩) ⟨fun a U g mk q => by obtain ⟨q0, q1, qP, qK, qD, qZ, qN⟩ := q; exact ⟨q0, q1, qP, va_K.moved (u := U) (U := U.calling g mk a) (Vm.Alike.refl U.vm) qK, qD, sF.moved (u := U) (U := U.calling g mk a) (Vm.Alike.refl U.vm) qZ, nF.same rfl qN⟩, va_recv hK hP (ci := 1) (q0 := a) rfl (wld_o ct ad G y157 hc hk (by decide)), fun U hU hW => ⟨rfl, by rw [hU], by rw [hU]; exact hP, va_K.moved hW.alike hK, hD.weaken (fun _ _ _ _ => trivial), by rw [hU]; exact ((hZ.kept hS.2.1).narrow hf9).moved hW.alike, hN.warm hW⟩⟩ rfl rfl hl.1 rfl (lv_room (Nat.le_of_ble_eq_true rfl)) dX1_readData_261 ⟨(Nat.zero_le _), (Nat.zero_le _)⟩) hS (fun q _ h => hf9 q h) hf9 (fun u t H locs ht hvm hw hB hz1 hk1 hS => ?_)
                      obtain ⟨hP, hK9, hD9⟩ := hB
                      rw [ht] at hP
                      have hD := hD9.weaken (fun _ q _ h => hf9 q.1 h)
                      refine lv_aload_n hx hb dX1_readData_264 rfl (lv_at hl 6 rfl) ?_
                      refine lv_iload hx hb dX1_readData_265 (lv_at hl 1 rfl) ?_
                      refine lv_iconst (v := (1 : Int32)) hx hb dX1_readData_267 (by decide) ?_
                      obtain ⟨y159, hy159, hF⟩ := bnd_some hF
                      have hf9 := wA_in hD hA9 hS
                      refine va_callv (va_runV (As := [.int s17.1, .int (1 : Int32)]) (rest := []) ⟨hx, hb, hml, hown, hts⟩ (kX1_readReferences l D ct ad Z G y158 H.size a s17.1 ((1 : Int32)) y159 hc hk hy159) (cwV 2 hts gX1_readData_X1_readReferences rfl rfl rfl (by decide +kernel) ⟨Nat.le_of_ble_eq_true rfl, Nat.le_of_ble_eq_true rfl⟩) ⟨fun a U g mk q => by obtain ⟨q0, q1, qP, qK, qD, qZ, qN⟩ := q; exact ⟨q0, q1, qP, va_K.moved (u := U) (U := U.calling g mk a) (Vm.Alike.refl U.vm) qK, qD, sF.moved (u := U) (U := U.calling g mk a) (Vm.Alike.refl U.vm) qZ, nF.same rfl qN⟩, va_recv hK hP (ci := 1) (q0 := a) rfl (wld_o ct ad G y158 hc hk (by decide)), fun U hU hW => ⟨rfl, by rw [hU], by rw [hU]; exact hP, va_K.moved hW.alike hK, hD.weaken (fun _ _ _ _ => trivial), by rw [hU]; exact ((hZ.kept hS.2.1).narrow hf9).moved hW.alike, hN.warm hW⟩⟩ rfl rfl hl.1 rfl (lv_room (Nat.le_of_ble_eq_true rfl)) dX1_readData_268 ⟨(Nat.zero_le _), (Nat.zero_le _)⟩) hS (fun q _ h => hf9 q h) hf9 (fun u t H locs ht hvm hw hB hz1 hk1 hS => ?_)
                      obtain ⟨hP, hK9, hD9⟩ := hB
                      rw [ht] at hP
                      have hD := hD9.weaken (fun _ q _ h => hf9 q.1 h)
                      refine lv_aload_n hx hb dX1_readData_271 rfl (lv_at hl 6 rfl) ?_
                      refine lv_iload hx hb dX1_readData_272 (lv_at hl 1 rfl) ?_
                      refine lv_iconst (v := (0 : Int32)) hx hb dX1_readData_274 (by decide) ?_
                      obtain ⟨y160, hy160, hF⟩ := bnd_some hF
                      have hf9 := wA_in hD hA9 hS
                      refine va_callv (va_runV (As := [.int s17.1, .int (0 : Int32)]) (rest := []) ⟨hx, hb, hml, hown, hts⟩ (kX1_readVectors l D ct ad Z G y159 H.size a s17.1 ((0 : Int32)) y160 hc hk hy160) (cwV 2 hts gX1_readData_X1_readVectors rfl rfl rfl (by decide +kernel) ⟨Nat.le_of_ble_eq_true rfl, Nat.le_of_ble_eq_true rfl⟩) ⟨fun a U g mk q => by obtain ⟨q0, q1, qP, qK, qD, qZ, qN⟩ := q; exact ⟨q0, q1, qP, va_K.moved (u := U) (U := U.calling g mk a) (Vm.Alike.refl U.vm) qK, qD, sF.moved (u := U) (U := U.calling g mk a) (Vm.Alike.refl U.vm) qZ, nF.same rfl qN⟩, va_recv hK hP (ci := 1) (q0 := a) rfl (wld_o ct ad G y159 hc hk (by decide)), fun U hU hW => ⟨rfl, by rw [hU], by rw [hU]; exact hP, va_K.moved hW.alike hK, hD.weaken (fun _ _ _ _ => trivial), by rw [hU]; exact ((hZ.kept hS.2.1).narrow hf9).moved hW.alike, hN.warm hW⟩⟩ rfl rfl hl.1 rfl (lv_room (Nat.le_of_ble_eq_true rfl)) dX1_readData_275 ⟨(Nat.zero_le _), (Nat.zero_le _)⟩) hS (fun q _ h => hf9 q h) hf9 (fun u t H locs ht hvm hw hB hz1 hk1 hS => ?_)
                      obtain ⟨hP, hK9, hD9⟩ := hB
                      rw [ht] at hP
                      have hD := hD9.weaken (fun _ q _ h => hf9 q.1 h)
                      refine lv_aload_n hx hb dX1_readData_278 rfl (lv_at hl 6 rfl) ?_
                      refine lv_iload hx hb dX1_readData_279 (lv_at hl 1 rfl) ?_
                      refine lv_iconst (v := (1 : Int32)) hx hb dX1_readData_281 (by decide) ?_
                      obtain ⟨y161, hy161, hF⟩ := bnd_some hF
                      have hf9 := wA_in hD hA9 hS
                      refine va_callv (va_runV (As := [.int s17.1, .int (1 : Int32)]) (rest := []) ⟨hx, hb, hml, hown, hts⟩ (kX1_readVectors l D ct ad Z G y160 H.size a s17.1 ((1 : Int32)) y161 hc hk hy161) (cwV 2 hts gX1_readData_X1_readVectors rfl rfl rfl (by decide +kernel) ⟨Nat.le_of_ble_eq_true rfl, Nat.le_of_ble_eq_true rfl⟩) ⟨fun a U g mk q => by obtain ⟨q0, q1, qP, qK, qD, qZ, qN⟩ := q; exact ⟨q0, q1, qP, va_K.moved (u := U) (U := U.calling g mk a) (Vm.Alike.refl U.vm) qK, qD, sF.moved (u := U) (U := U.calling g mk a) (Vm.Alike.refl U.vm) qZ, nF.same rfl qN⟩, va_recv hK hP (ci := 1) (q0 := a) rfl (wld_o ct ad G y160 hc hk (by decide)), fun U hU hW => ⟨rfl, by rw [hU], by rw [hU]; exact hP, va_K.moved hW.alike hK, hD.weaken (fun _ _ _ _ => trivial), by rw [hU]; exact ((hZ.kept hS.2.1).narrow hf9).moved hW.alike, hN.warm hW⟩⟩ rfl rfl hl.1 rfl (lv_room (Nat.le_of_ble_eq_true rfl)) dX1_readData_282 ⟨(Nat.zero_le _), (Nat.zero_le _)⟩) hS (fun q _ h => hf9 q h) hf9 (fun u t H locs ht hvm hw hB hz1 hk1 hS => ?_)
                      obtain ⟨hP, hK9, hD9⟩ := hB
                      rw [ht] at hP
                      have hD := hD9.weaken (fun _ q _ h => hf9 q.1 h)
                      refine lv_aload_n hx hb dX1_readData_285 rfl (lv_at hl 6 rfl) ?_
                      refine lv_iload hx hb dX1_readData_286 (lv_at hl 1 rfl) ?_
                      obtain ⟨y162, hy162, hF⟩ := bnd_some hF
                      have hf9 := wA_in hD hA9 hS
                      refine va_callv (va_runV (As := [.int s17.1]) (rest := []) ⟨hx, hb, hml, hown, hts⟩ (kX1_readPattern l D ct ad Z G y161 H.size a s17.1 y162 hc hk hy162) (cwV 1 hts gX1_readData_X1_readPattern rfl rfl rfl (by decide +kernel) ⟨Nat.le_of_ble_eq_true rfl, Nat.le_of_ble_eq_true rfl⟩) ⟨fun a U g mk q => by obtain ⟨q0, q1, qP, qK, qD, qZ, qN⟩ := q; exact ⟨q0, q1, qP, va_K.moved (u := U) (U := U.calling g mk a) (Vm.Alike.refl U.vm) qK, qD, sF.moved (u := U) (U := U.calling g mk a) (Vm.Alike.refl U.vm) qZ, nF.same rfl qN⟩, va_recv hK hP (ci := 1) (q0 := a) rfl (wld_o ct ad G y161 hc hk (by decide)), fun U hU hW => ⟨rfl, by rw [hU], by rw [hU]; exact hP, va_K.moved hW.alike hK, hD.weaken (fun _ _ _ _ => trivial), by rw [hU]; exact ((hZ.kept hS.2.1).narrow hf9).moved hW.alike, hN.warm hW⟩⟩ rfl rfl hl.1 rfl (lv_room (Nat.le_of_ble_eq_true rfl)) dX1_readData_288 ⟨(Nat.zero_le _), (Nat.zero_le _)⟩) hS (fun q _ h => hf9 q h) hf9 (fun u t H locs ht hvm hw hB hz1 hk1 hS => ?_)
                      obtain ⟨hP, hK9, hD9⟩ := hB
                      rw [ht] at hP
                      have hD := hD9.weaken (fun _ q _ h => hf9 q.1 h)
                      refine lv_aload_n hx hb dX1_readData_291 rfl (lv_at hl 6 rfl) ?_
                      refine lv_iload hx hb dX1_readData_292 (lv_at hl 1 rfl) ?_
                      obtain ⟨y163, hy163, hF⟩ := bnd_some hF
                      have hf9 := wA_in hD hA9 hS
                      refine va_callv (va_runV (As := [.int s17.1]) (rest := []) ⟨hx, hb, hml, hown, hts⟩ (kX1_readLevels l D ct ad Z G y162 H.size a s17.1 y163 hc hk hy163) (cwV 1 hts gX1_readData_X1_readLevels rfl rfl rfl (by decide +kernel) ⟨Nat.le_of_ble_eq_true rfl, Nat.le_of_ble_eq_true rfl⟩) ⟨fun a U g mk q => by obtain ⟨q0, q1, qP, qK, qD, qZ, qN⟩ := q; exact ⟨q0, q1, qP, va_K.moved (u := U) (U := U.calling g mk a) (Vm.Alike.refl U.vm) qK, qD, sF.moved (u := U) (U := U.calling g mk a) (Vm.Alike.refl U.vm) qZ, nF.same rfl qN⟩, va_recv hK hP (ci := 1) (q0 := a) rfl (wld_o ct ad G y162 hc hk (by decide)), fun U hU hW => ⟨rfl, by rw [hU], by rw [hU]; exact hP, va_K.moved hW.alike hK, hD.weaken (fun _ _ _ _ => trivial), by rw [hU]; exact ((hZ.kept hS.2.1).narrow hf9).moved hW.alike, hN.warm hW⟩⟩ rfl rfl hl.1 rfl (lv_room (Nat.le_of_ble_eq_true rfl)) dX1_readData_294 ⟨(Nat.zero_le _), (Nat.zero_le _)⟩) hS (fun q _ h => hf9 q h) hf9 (fun u t H locs ht hvm hw hB hz1 hk1 hS => ?_)
                      obtain ⟨hP, hK9, hD9⟩ := hB
                      rw [ht] at hP
                      have hD := hD9.weaken (fun _ q _ h => hf9 q.1 h)
                      obtain rfl := Option.some.inj hF
                      exact J149 _ _ _ hP hD hS (lv_sub hl [0, 1, 2, 3, 4, 5, 6] rfl)
                    clear hF
                    have hF := hy157
                    clear hy157
                    refine lv_icmp_ne (tgt := 257) hx hb dX1_readData_240 (by decide) (fun c164 => ?_) (fun c164 => ?_)
                    · rw [if_neg c164] at hF
                      obtain rfl := Option.some.inj hF
                      exact J157 _ _ _ hP hD hS (lv_sub hl [0, 1, 2, 3, 4, 5, 6] rfl)
                    · rw [if_pos c164] at hF
                      refine lv_aload_n hx hb dX1_readData_243 rfl (lv_at hl 6 rfl) ?_
                      refine va_get (D := D) (ci := 1) (v := va_re ad (y151.2 a 0)) (C := RX1) (T := TX1) (N := 22) hx hb hts (mus hf_X1) hown hK hP a (wld_o ct ad G y151 hc hk (by decide)) rfl 0 (by decide) (hts (.fieldLink RX1 12 "VideoSuite$Decoder" "reader" "LVideoSuite$Reader;") (mu mw_640)) (fun _ h9 => h9) rfl dX1_readData_244 ?_
                      refine lv_aload_n hx hb dX1_readData_247 rfl (lv_at hl 6 rfl) ?_
                      refine va_get (D := D) (ci := 1) (v := va_re ad (y151.2 a 3)) (C := RX1) (T := TX1) (N := 22) hx hb hts (mus hf_X1) hown hK hP a (wld_o ct ad G y151 hc hk (by decide)) rfl 3 (by decide) (hts (.fieldLink RX1 35 "VideoSuite$Decoder" "samples" "LVideoSuite$Samples;") (mu mw_645)) (fun _ h9 => h9) rfl dX1_readData_248 ?_
                      obtain ⟨b165, ho165, hc165, hk165, hF⟩ := dr_some hF
                      refine W_st (st' := [.ref (ad b165), va_re ad (y151.2 a 0)]) (by rw [va_some ho165]) ?_
                      refine va_get (D := D) (ci := 6) (v := va_re ad (y151.2 b165 0)) (C := RX6) (T := TX6) (N := 14) hx hb hts (mus hf_X6) hown hK hP b165 (wld_o ct ad G y151 hc165 hk165 (by decide)) rfl 0 (by decide) (hts (.fieldLink RX1 358 "VideoSuite$Samples" "guess" "[I") (mu mw_534)) (fun _ h9 => h9) rfl dX1_readData_251 ?_
                      obtain ⟨b166, ho166, hc166, hk166, hF⟩ := dr_some hF
                      refine W_st (st' := [va_re ad (y151.2 b165 0), .ref (ad b166)]) (by rw [va_some ho166]) ?_
                      obtain ⟨y167, hy167, hF⟩ := bnd_some hF
                      have hf9 := wA_in hD hA9 hS
                      refine va_callv (va_runV (As := [va_re ad (y151.2 b165 0)]) (rest := []) ⟨hx, hb, hml, hown, hts⟩ (kX5_rawSamples l D ct ad Z G y151 H.size b166 ((y151.2 b165 0)) y167 hc166 hk166 hy167) (cwV 1 hts gX1_readData_X5_rawSamples rfl rfl rfl (by decide +kernel) ⟨Nat.le_of_ble_eq_true rfl, Nat.le_of_ble_eq_true rfl⟩) ⟨fun a U g mk q => by obtain ⟨q0, q1, qP, qK, qD, qZ, qN⟩ := q; exact ⟨q0, q1, qP, va_K.moved (u := U) (U := U.calling g mk a) (Vm.Alike.refl U.vm) qK, qD, sF.moved (u := U) (U := U.calling g mk a) (Vm.Alike.refl U.vm) qZ, nF.same rfl qN⟩, va_recv hK hP (ci := 5) (q0 := b166) rfl (wld_o ct ad G y151 hc166 hk166 (by decide)), fun U hU hW => ⟨rfl, by rw [hU], by rw [hU]; exact hP, va_K.moved hW.alike hK, hD.weaken (fun _ _ _ _ => trivial), by rw [hU]; exact ((hZ.kept hS.2.1).narrow hf9).moved hW.alike, hN.warm hW⟩⟩ rfl rfl hl.1 rfl (lv_room (Nat.le_of_ble_eq_true rfl)) dX1_readData_254 ⟨(Nat.zero_le _), (Nat.zero_le _)⟩) hS (fun q _ h => hf9 q h) hf9 (fun u t H locs ht hvm hw hB hz1 hk1 hS => ?_)
                      obtain ⟨hP, hK9, hD9⟩ := hB
                      rw [ht] at hP
                      have hD := hD9.weaken (fun _ q _ h => hf9 q.1 h)
                      obtain rfl := Option.some.inj hF
                      exact J157 _ _ _ hP hD hS (lv_sub hl [0, 1, 2, 3, 4, 5, 6] rfl)
                  · rw [if_pos c150] at hF
                    refine lv_aload_n hx hb dX1_readData_209 rfl (lv_at hl 6 rfl) ?_
                    refine lv_iload hx hb dX1_readData_210 (lv_at hl 1 rfl) ?_
                    obtain ⟨y168, hy168, hF⟩ := bnd_some hF
                    have hf9 := wA_in hD hA9 hS
                    refine va_callv (va_runV (As := [.int s17.1]) (rest := []) ⟨hx, hb, hml, hown, hts⟩ (kX1_readSkipped l D ct ad Z G y148.1 H.size a s17.1 y168 hc hk hy168) (cwV 1 hts gX1_readData_X1_readSkipped rfl rfl rfl (by decide +kernel) ⟨Nat.le_of_ble_eq_true rfl, Nat.le_of_ble_eq_true rfl⟩) ⟨fun a U g mk q => by obtain ⟨q0, q1, qP, qK, qD, qZ, qN⟩ := q; exact ⟨q0, q1, qP, va_K.moved (u := U) (U := U.calling g mk a) (Vm.Alike.refl U.vm) qK, qD, sF.moved (u := U) (U := U.calling g mk a) (Vm.Alike.refl U.vm) qZ, nF.same rfl qN⟩, va_recv hK hP (ci := 1) (q0 := a) rfl (wld_o ct ad G y148.1 hc hk (by decide)), fun U hU hW => ⟨rfl, by rw [hU], by rw [hU]; exact hP, va_K.moved hW.alike hK, hD.weaken (fun _ _ _ _ => trivial), by rw [hU]; exact ((hZ.kept hS.2.1).narrow hf9).moved hW.alike, hN.warm hW⟩⟩ rfl rfl hl.1 rfl (lv_room (Nat.le_of_ble_eq_true rfl)) dX1_readData_212 ⟨(Nat.zero_le _), (Nat.zero_le _)⟩) hS (fun q _ h => hf9 q h) hf9 (fun u t H locs ht hvm hw hB hz1 hk1 hS => ?_)
                    obtain ⟨hP, hK9, hD9⟩ := hB
                    rw [ht] at hP
                    have hD := hD9.weaken (fun _ q _ h => hf9 q.1 h)
                    refine lv_goto (tgt := 297) hx hb dX1_readData_215 (by decide) ?_
                    obtain rfl := Option.some.inj hF
                    exact J149 _ _ _ hP hD hS (lv_sub hl [0, 1, 2, 3, 4, 5, 6] rfl)
            · rw [if_pos c95] at hF
              refine lv_aload_n hx hb dX1_readData_94 rfl (lv_at hl 6 rfl) ?_
              refine va_get (D := D) (ci := 1) (v := va_re ad (s17.2.2.2 a 0)) (C := RX1) (T := TX1) (N := 22) hx hb hts (mus hf_X1) hown hK hP a (wld_o ct ad G s17.2.2 hc hk (by decide)) rfl 0 (by decide) (hts (.fieldLink RX1 12 "VideoSuite$Decoder" "reader" "LVideoSuite$Reader;") (mu mw_640)) (fun _ h9 => h9) rfl dX1_readData_95 ?_
              refine lv_iconst (v := (0 : Int32)) hx hb dX1_readData_98 (by decide) ?_
              refine lv_iconst (v := (0 : Int32)) hx hb dX1_readData_99 (by decide) ?_
              refine lv_lconst (v := (0 : Int64)) hx hb dX1_readData_100 rfl ?_
              refine lv_iload hx hb dX1_readData_101 (lv_at hl 1 rfl) ?_
              refine lv_iload hx hb dX1_readData_103 (lv_at hl 2 rfl) ?_
              obtain ⟨y169, hy169, hF⟩ := bnd_some hF
              have J169 : ∀ (H : Heap) (locs : List Loc) (ls : Array Slot), va_P D classes (wld ct ad G s17.2.2) H → va_D A (wld ct ad G s17.2.2) → va_S A s.heap H locs → lv_has ls 9 [(6, .int s17.2.1), (5, .int s17.1), (4, .int y11.2), (3, .int y9), (2, .int y5), (1, va_re ad (M.2 b2 0)), (0, .ref (ad a))] → W p l e (headSpec wuX1_readData ({ frames := 6, cells := 0, slots := 0, locals := 166 })).room s m ([.ref (ad a)] : List Value).toArray below meth c H locs 0 0 (MQ below (va_Qv (fun (_ : Unit) => True) (fun _ t => kE D ct ad G A y t) A) ([.ref (ad a)] : List Value).toArray s 0 0 A) (F0 m 118 ls [.long y169, .long (0 : Int64), .int (0 : Int32), .int (0 : Int32), va_re ad (s17.2.2.2 a 0)]) := by
                intro H locs ls hP hD hS hl
                obtain ⟨b170, ho170, hc170, hk170, hF⟩ := dr_some hF
                refine W_st (st' := [.long y169, .long (0 : Int64), .int (0 : Int32), .int (0 : Int32), .ref (ad b170)]) (by rw [va_some ho170]) ?_
                obtain ⟨y171, hy171, hF⟩ := bnd_some hF
                have hf9 := wA_in hD hA9 hS
                refine va_calli (va_runV (As := [.int (0 : Int32), .int (0 : Int32), .long (0 : Int64), .long y169]) (rest := []) ⟨hx, hb, hml, hown, hts⟩ (kX5_number l D ct ad Z G s17.2.2 H.size b170 ((0 : Int32)) ((0 : Int32)) ((0 : Int64)) y169 y171 hc170 hk170 hy171) (cwV 4 hts gX1_readData_X5_number rfl rfl rfl (by decide +kernel) ⟨Nat.le_of_ble_eq_true rfl, Nat.le_of_ble_eq_true rfl⟩) ⟨fun a U g mk q => by obtain ⟨q0, q1, qP, qK, qD, qZ, qN⟩ := q; exact ⟨q0, q1, qP, va_K.moved (u := U) (U := U.calling g mk a) (Vm.Alike.refl U.vm) qK, qD, sF.moved (u := U) (U := U.calling g mk a) (Vm.Alike.refl U.vm) qZ, nF.same rfl qN⟩, va_recv hK hP (ci := 5) (q0 := b170) rfl (wld_o ct ad G s17.2.2 hc170 hk170 (by decide)), fun U hU hW => ⟨rfl, by rw [hU], by rw [hU]; exact hP, va_K.moved hW.alike hK, hD.weaken (fun _ _ _ _ => trivial), by rw [hU]; exact ((hZ.kept hS.2.1).narrow hf9).moved hW.alike, hN.warm hW⟩⟩ rfl rfl hl.1 rfl (lv_room (Nat.le_of_ble_eq_true rfl)) dX1_readData_118 ⟨(Nat.zero_le _), (Nat.zero_le _)⟩) hS (fun q _ h => hf9 q h) hf9 (fun r u t H locs ht hvm hw hB hz1 hk1 hS => ?_)
                obtain ⟨hP, hK9, hD9⟩ := hB
                rw [ht] at hP
                try dsimp only at hw
                subst hw
                have hD := hD9.weaken (fun _ q _ h => hf9 q.1 h)
                refine lv_istore (lv' := [(7, .int y171.2), (6, .int s17.2.1), (5, .int s17.1), (4, .int y11.2), (3, .int y9), (2, .int y5), (1, va_re ad (M.2 b2 0)), (0, .ref (ad a))]) hx hb dX1_readData_121 hl (by decide) rfl (fun ls hl => ?_)
                refine lv_iconst (v := (0 : Int32)) hx hb dX1_readData_123 (by decide) ?_
                refine lv_istore (lv' := [(8, .int (0 : Int32)), (7, .int y171.2), (6, .int s17.2.1), (5, .int s17.1), (4, .int y11.2), (3, .int y9), (2, .int y5), (1, va_re ad (M.2 b2 0)), (0, .ref (ad a))]) hx hb dX1_readData_124 hl (by decide) rfl (fun ls hl => ?_)
                obtain ⟨y172, hy172, hF⟩ := bnd_some hF
                have K172 : ∀ (H : Heap) (locs : List Loc) (ls : Array Slot), va_P D classes (wld ct ad G y172.2.2) H → va_D A (wld ct ad G y172.2.2) → va_S A s.heap H locs → lv_has ls 9 [(8, .int y172.2.1), (7, .int y171.2), (6, .int s17.2.1), (5, .int y172.1), (4, .int y11.2), (3, .int y9), (2, .int y5), (1, va_re ad (M.2 b2 0)), (0, .ref (ad a))] → W p l e (headSpec wuX1_readData ({ frames := 6, cells := 0, slots := 0, locals := 166 })).room s m ([.ref (ad a)] : List Value).toArray below meth c H locs 0 0 (MQ below (va_Qv (fun (_ : Unit) => True) (fun _ t => kE D ct ad G A y t) A) ([.ref (ad a)] : List Value).toArray s 0 0 A) (F0 m 166 ls []) := by
                  intro H locs ls hP hD hS hl
                  refine lv_iload hx hb dX1_readData_166 (lv_at hl 1 rfl) ?_
                  refine lv_if_le (tgt := 182) hx hb dX1_readData_168 (by decide) (fun c175 => ?_) (fun c175 => ?_)
                  · rw [if_pos c175] at hF
                    refine lv_aload_n hx hb dX1_readData_182 rfl (lv_at hl 8 rfl) ?_
                    refine lv_iload hx hb dX1_readData_183 (lv_at hl 3 rfl) ?_
                    obtain ⟨y176, hy176, hF⟩ := bnd_some hF
                    have hf9 := wA_in hD hA9 hS
                    refine va_callv (va_runV (As := [.int y172.1]) (rest := []) ⟨hx, hb, hml, hown, hts⟩ (kX1_claim l D ct ad Z G y172.2.2 H.size a y172.1 y176 hc hk hy176) (cwV 1 hts gX1_readData_X1_claim rfl rfl rfl (by decide +kernel) ⟨Nat.le_of_ble_eq_true rfl, Nat.le_of_ble_eq_true rfl⟩) ⟨fun a U g mk q => by obtain ⟨q0, q1, qP, qK, qD, qZ, qN⟩ := q; exact ⟨q0, q1, qP, va_K.moved (u := U) (U := U.calling g mk a) (Vm.Alike.refl U.vm) qK, qD, sF.moved (u := U) (U := U.calling g mk a) (Vm.Alike.refl U.vm) qZ, nF.same rfl qN⟩, va_recv hK hP (ci := 1) (q0 := a) rfl (wld_o ct ad G y172.2.2 hc hk (by decide)), fun U hU hW => ⟨rfl, by rw [hU], by rw [hU]; exact hP, va_K.moved hW.alike hK, hD.weaken (fun _ _ _ _ => trivial), by rw [hU]; exact ((hZ.kept hS.2.1).narrow hf9).moved hW.alike, hN.warm hW⟩⟩ rfl rfl hl.1 rfl (lv_room (Nat.le_of_ble_eq_true rfl)) dX1_readData_185 ⟨(Nat.zero_le _), (Nat.zero_le _)⟩) hS (fun q _ h => hf9 q h) hf9 (fun u t H locs ht hvm hw hB hz1 hk1 hS => ?_)
                    obtain ⟨hP, hK9, hD9⟩ := hB
                    rw [ht] at hP
                    have hD := hD9.weaken (fun _ q _ h => hf9 q.1 h)
                    refine lv_iload_n hx hb dX1_readData_188 rfl (lv_at hl 5 rfl) ?_
                    obtain ⟨y177, hy177, hF⟩ := bnd_some hF
                    have J177 : ∀ (H : Heap) (locs : List Loc) (ls : Array Slot), va_P D classes (wld ct ad G y177) H → va_D A (wld ct ad G y177) → va_S A s.heap H locs → lv_has ls 9 [(8, .int y172.2.1), (7, .int y171.2), (6, .int s17.2.1), (5, .int y172.1), (4, .int y11.2), (3, .int y9), (2, .int y5), (1, va_re ad (M.2 b2 0)), (0, .ref (ad a))] → W p l e (headSpec wuX1_readData ({ frames := 6, cells := 0, slots := 0, locals := 166 })).room s m ([.ref (ad a)] : List Value).toArray below meth c H locs 0 0 (MQ below (va_Qv (fun (_ : Unit) => True) (fun _ t => kE D ct ad G A y t) A) ([.ref (ad a)] : List Value).toArray s 0 0 A) (F0 m 297 ls []) := by
                      intro H locs ls hP hD hS hl
                      refine lv_aload_n hx hb dX1_readData_297 rfl (lv_at hl 8 rfl) ?_
                      refine lv_iload hx hb dX1_readData_298 (lv_at hl 3 rfl) ?_
                      obtain ⟨y178, hy178, hF⟩ := bnd_some hF
                      have hf9 := wA_in hD hA9 hS
                      refine va_callv (va_runV (As := [.int y172.1]) (rest := []) ⟨hx, hb, hml, hown, hts⟩ (kX1_rebuild l D ct ad Z G y177 H.size a y172.1 y178 hc hk hy178) (cwV 1 hts gX1_readData_X1_rebuild rfl rfl rfl (by decide +kernel) ⟨Nat.le_of_ble_eq_true rfl, Nat.le_of_ble_eq_true rfl⟩) ⟨fun a U g mk q => by obtain ⟨q0, q1, qP, qK, qD, qZ, qN⟩ := q; exact ⟨q0, q1, qP, va_K.moved (u := U) (U := U.calling g mk a) (Vm.Alike.refl U.vm) qK, qD, sF.moved (u := U) (U := U.calling g mk a) (Vm.Alike.refl U.vm) qZ, nF.same rfl qN⟩, va_recv hK hP (ci := 1) (q0 := a) rfl (wld_o ct ad G y177 hc hk (by decide)), fun U hU hW => ⟨rfl, by rw [hU], by rw [hU]; exact hP, va_K.moved hW.alike hK, hD.weaken (fun _ _ _ _ => trivial), by rw [hU]; exact ((hZ.kept hS.2.1).narrow hf9).moved hW.alike, hN.warm hW⟩⟩ rfl rfl hl.1 rfl (lv_room (Nat.le_of_ble_eq_true rfl)) dX1_readData_300 ⟨(Nat.zero_le _), (Nat.zero_le _)⟩) hS (fun q _ h => hf9 q h) hf9 (fun u t H locs ht hvm hw hB hz1 hk1 hS => ?_)
                      obtain ⟨hP, hK9, hD9⟩ := hB
                      rw [ht] at hP
                      have hD := hD9.weaken (fun _ q _ h => hf9 q.1 h)
                      refine lv_aload_n hx hb dX1_readData_303 rfl (lv_at hl 8 rfl) ?_
                      refine lv_iload hx hb dX1_readData_304 (lv_at hl 3 rfl) ?_
                      obtain ⟨y179, hy179, hF⟩ := bnd_some hF
                      have hf9 := wA_in hD hA9 hS
                      refine va_callv (va_runV (As := [.int y172.1]) (rest := []) ⟨hx, hb, hml, hown, hts⟩ (kX1_endBlock l D ct ad Z G y178 H.size a y172.1 y179 hc hk hy179) (cwV 1 hts gX1_readData_X1_endBlock rfl rfl rfl (by decide +kernel) ⟨Nat.le_of_ble_eq_true rfl, Nat.le_of_ble_eq_true rfl⟩) ⟨fun a U g mk q => by obtain ⟨q0, q1, qP, qK, qD, qZ, qN⟩ := q; exact ⟨q0, q1, qP, va_K.moved (u := U) (U := U.calling g mk a) (Vm.Alike.refl U.vm) qK, qD, sF.moved (u := U) (U := U.calling g mk a) (Vm.Alike.refl U.vm) qZ, nF.same rfl qN⟩, va_recv hK hP (ci := 1) (q0 := a) rfl (wld_o ct ad G y178 hc hk (by decide)), fun U hU hW => ⟨rfl, by rw [hU], by rw [hU]; exact hP, va_K.moved hW.alike hK, hD.weaken (fun _ _ _ _ => trivial), by rw [hU]; exact ((hZ.kept hS.2.1).narrow hf9).moved hW.alike, hN.warm hW⟩⟩ rfl rfl hl.1 rfl (lv_room (Nat.le_of_ble_eq_true rfl)) dX1_readData_306 ⟨(Nat.zero_le _), (Nat.zero_le _)⟩) hS (fun q _ h => hf9 q h) hf9 (fun u t H locs ht hvm hw hB hz1 hk1 hS => ?_)
                      obtain ⟨hP, hK9, hD9⟩ := hB
                      rw [ht] at hP
                      have hD := hD9.weaken (fun _ q _ h => hf9 q.1 h)
                      obtain ⟨x180, ex180, hF⟩ := ltt_some hF
                      refine lv_iinc (v := x180) (lv' := [(5, .int x180), (8, .int y172.2.1), (7, .int y171.2), (6, .int s17.2.1), (4, .int y11.2), (3, .int y9), (2, .int y5), (1, va_re ad (M.2 b2 0)), (0, .ref (ad a))]) hx hb dX1_readData_309 hl (k := 3) rfl (by rw [ex180]; rfl) (by decide) rfl (fun ls hl => ?_)
                      refine lv_iload_n hx hb dX1_readData_312 rfl (lv_at hl 5 rfl) ?_
                      refine lv_if_eq (tgt := 329) hx hb dX1_readData_313 (by decide) (fun c181 => ?_) (fun c181 => ?_)
                      · rw [if_pos c181] at hF
                        refine lv_aload_n hx hb dX1_readData_329 rfl (lv_at hl 8 rfl) ?_
                        refine va_get (D := D) (ci := 1) (v := va_re ad (y179.2 a 0)) (C := RX1) (T := TX1) (N := 22) hx hb hts (mus hf_X1) hown hK hP a (wld_o ct ad G y179 hc hk (by decide)) rfl 0 (by decide) (hts (.fieldLink RX1 12 "VideoSuite$Decoder" "reader" "LVideoSuite$Reader;") (mu mw_640)) (fun _ h9 => h9) rfl dX1_readData_330 ?_
                        obtain ⟨b182, ho182, hc182, hk182, hF⟩ := dr_some hF
                        refine W_st (st' := [.ref (ad b182)]) (by rw [va_some ho182]) ?_
                        obtain ⟨y183, hy183, hF⟩ := bnd_some hF
                        have hf9 := wA_in hD hA9 hS
                        refine va_calli (va_runV (As := []) (rest := []) ⟨hx, hb, hml, hown, hts⟩ (kX5_more l D ct ad Z G y179 H.size b182 y183 hc182 hk182 hy183) (cwV 0 hts gX1_readData_X5_more rfl rfl rfl (by decide +kernel) ⟨Nat.le_of_ble_eq_true rfl, Nat.le_of_ble_eq_true rfl⟩) ⟨fun a U g mk q => by obtain ⟨q0, q1, qP, qK, qD, qZ, qN⟩ := q; exact ⟨q0, q1, qP, va_K.moved (u := U) (U := U.calling g mk a) (Vm.Alike.refl U.vm) qK, qD, sF.moved (u := U) (U := U.calling g mk a) (Vm.Alike.refl U.vm) qZ, nF.same rfl qN⟩, va_recv hK hP (ci := 5) (q0 := b182) rfl (wld_o ct ad G y179 hc182 hk182 (by decide)), fun U hU hW => ⟨rfl, by rw [hU], by rw [hU]; exact hP, va_K.moved hW.alike hK, hD.weaken (fun _ _ _ _ => trivial), by rw [hU]; exact ((hZ.kept hS.2.1).narrow hf9).moved hW.alike, hN.warm hW⟩⟩ rfl rfl hl.1 rfl (lv_room (Nat.le_of_ble_eq_true rfl)) dX1_readData_333 ⟨(Nat.zero_le _), (Nat.zero_le _)⟩) hS (fun q _ h => hf9 q h) hf9 (fun r u t H locs ht hvm hw hB hz1 hk1 hS => ?_)
                        obtain ⟨hP, hK9, hD9⟩ := hB
                        rw [ht] at hP
                        try dsimp only at hw
                        subst hw
                        have hD := hD9.weaken (fun _ q _ h => hf9 q.1 h)
                        refine lv_if_ne (tgt := 340) hx hb dX1_readData_336 (by decide) (fun c184 => ?_) (fun c184 => ?_)
                        · rw [if_neg c184] at hF
                          obtain ⟨x185, ex185, hF⟩ := ltt_some hF
                          refine lv_iinc (v := x185) (lv' := [(6, .int x185), (5, .int x180), (8, .int y172.2.1), (7, .int y171.2), (4, .int y11.2), (3, .int y9), (2, .int y5), (1, va_re ad (M.2 b2 0)), (0, .ref (ad a))]) hx hb dX1_readData_340 hl (k := 3) rfl (by rw [ex185]; rfl) (by decide) rfl (fun ls hl => ?_)
                          refine lv_goto (tgt := 79) hx hb dX1_readData_343 (by decide) ?_
                          obtain rfl := Option.some.inj hF
                          exact hwz19 _ _ _ hP hD hS (lv_sub hl [0, 1, 4, 5, 6, 7, 8] rfl)
                        · rw [if_pos c184] at hF
                          obtain rfl := Option.some.inj hF
                          have hF := sel_inr (hwz19 ▸ hR16)
                          obtain rfl := Option.some.inj hF
                          exact W.vret hx hb hr (fun t ht hW => ⟨⟨(), rfl, trivial, ⟨by rw [ht]; exact hP, va_K.moved hW.alike hK, hD⟩⟩, hS.F ht⟩) hS.2.2 dX1_readData_339
                      · rw [if_neg c181] at hF
                        refine lv_aload_n hx hb dX1_readData_316 rfl (lv_at hl 8 rfl) ?_
                        refine va_get (D := D) (ci := 1) (v := va_re ad (y179.2 a 0)) (C := RX1) (T := TX1) (N := 22) hx hb hts (mus hf_X1) hown hK hP a (wld_o ct ad G y179 hc hk (by decide)) rfl 0 (by decide) (hts (.fieldLink RX1 12 "VideoSuite$Decoder" "reader" "LVideoSuite$Reader;") (mu mw_640)) (fun _ h9 => h9) rfl dX1_readData_317 ?_
                        obtain ⟨b186, ho186, hc186, hk186, hF⟩ := dr_some hF
                        refine W_st (st' := [.ref (ad b186)]) (by rw [va_some ho186]) ?_
                        obtain ⟨y187, hy187, hF⟩ := bnd_some hF
                        have hf9 := wA_in hD hA9 hS
                        refine va_calli (va_runV (As := []) (rest := []) ⟨hx, hb, hml, hown, hts⟩ (kX5_isLast l D ct ad Z G y179 H.size b186 y187 hc186 hk186 hy187) (cwV 0 hts gX1_readData_X5_isLast rfl rfl rfl (by decide +kernel) ⟨Nat.le_of_ble_eq_true rfl, Nat.le_of_ble_eq_true rfl⟩) ⟨fun a U g mk q => by obtain ⟨q0, q1, qP, qK, qD, qZ, qN⟩ := q; exact ⟨q0, q1, qP, va_K.moved (u := U) (U := U.calling g mk a) (Vm.Alike.refl U.vm) qK, qD, sF.moved (u := U) (U := U.calling g mk a) (Vm.Alike.refl U.vm) qZ, nF.same rfl qN⟩, va_recv hK hP (ci := 5) (q0 := b186) rfl (wld_o ct ad G y179 hc186 hk186 (by decide)), fun U hU hW => ⟨rfl, by rw [hU], by rw [hU]; exact hP, va_K.moved hW.alike hK, hD.weaken (fun _ _ _ _ => trivial), by rw [hU]; exact ((hZ.kept hS.2.1).narrow hf9).moved hW.alike, hN.warm hW⟩⟩ rfl rfl hl.1 rfl (lv_room (Nat.le_of_ble_eq_true rfl)) dX1_readData_320 ⟨(Nat.zero_le _), (Nat.zero_le _)⟩) hS (fun q _ h => hf9 q h) hf9 (fun r u t H locs ht hvm hw hB hz1 hk1 hS => ?_)
                        obtain ⟨hP, hK9, hD9⟩ := hB
                        rw [ht] at hP
                        try dsimp only at hw
                        subst hw
                        have hD := hD9.weaken (fun _ q _ h => hf9 q.1 h)
                        refine lv_if_eq (tgt := 340) hx hb dX1_readData_323 (by decide) (fun c188 => ?_) (fun c188 => ?_)
                        · rw [if_pos c188] at hF
                          obtain ⟨x189, ex189, hF⟩ := ltt_some hF
                          refine lv_iinc (v := x189) (lv' := [(6, .int x189), (5, .int x180), (8, .int y172.2.1), (7, .int y171.2), (4, .int y11.2), (3, .int y9), (2, .int y5), (1, va_re ad (M.2 b2 0)), (0, .ref (ad a))]) hx hb dX1_readData_340 hl (k := 3) rfl (by rw [ex189]; rfl) (by decide) rfl (fun ls hl => ?_)
                          refine lv_goto (tgt := 79) hx hb dX1_readData_343 (by decide) ?_
                          obtain rfl := Option.some.inj hF
                          exact hwz19 _ _ _ hP hD hS (lv_sub hl [0, 1, 4, 5, 6, 7, 8] rfl)
                        · rw [if_neg c188] at hF
                          refine lv_goto (tgt := 339) hx hb dX1_readData_326 (by decide) ?_
                          obtain rfl := Option.some.inj hF
                          have hF := sel_inr (hwz19 ▸ hR16)
                          obtain rfl := Option.some.inj hF
                          exact W.vret hx hb hr (fun t ht hW => ⟨⟨(), rfl, trivial, ⟨by rw [ht]; exact hP, va_K.moved hW.alike hK, hD⟩⟩, hS.F ht⟩) hS.2.2 dX1_readData_339
                    clear hF
                    have hF := hy177
                    clear hy177
                    refine lv_if_eq (tgt := 218) hx hb dX1_readData_189 (by decide) (fun c190 => ?_) (fun c190 => ?_)
                    · rw [if_pos c190] at hF
                      refine lv_aload_n hx hb dX1_readData_218 rfl (lv_at hl 8 rfl) ?_
                      refine lv_iload hx hb dX1_readData_219 (lv_at hl 3 rfl) ?_
                      obtain ⟨y191, hy191, hF⟩ := bnd_some hF
                      have hf9 := wA_in hD hA9 hS
                      refine va_callv (va_runV (As := [.int y172.1]) (rest := []) ⟨hx, hb, hml, hown, hts⟩ (kX1_readBlock l D ct ad Z G y176 H.size a y172.1 y191 hc hk hy191) (cwV 1 hts gX1_readData_X1_readBlock rfl rfl rfl (by decide +kernel) ⟨Nat.le_of_ble_eq_true rfl, Nat.le_of_ble_eq_true rfl⟩) ⟨fun a U g mk q => by obtain ⟨q0, q1, qP, qK, qD, qZ, qN⟩ := q; exact ⟨q0, q1, qP, va_K.moved (u := U) (U := U.calling g mk a) (Vm.Alike.refl U.vm) qK, qD, sF.moved (u := U) (U := U.calling g mk a) (Vm.Alike.refl U.vm) qZ, nF.same rfl qN⟩, va_recv hK hP (ci := 1) (q0 := a) rfl (wld_o ct ad G y176 hc hk (by decide)), fun U hU hW => ⟨rfl, by rw [hU], by rw [hU]; exact hP, va_K.moved hW.alike hK, hD.weaken (fun _ _ _ _ => trivial), by rw [hU]; exact ((hZ.kept hS.2.1).narrow hf9).moved hW.alike, hN.warm hW⟩⟩ rfl rfl hl.1 rfl (lv_room (Nat.le_of_ble_eq_true rfl)) dX1_readData_221 ⟨(Nat.zero_le _), (Nat.zero_le _)⟩) hS (fun q _ h => hf9 q h) hf9 (fun u t H locs ht hvm hw hB hz1 hk1 hS => ?_)
                      obtain ⟨hP, hK9, hD9⟩ := hB
                      rw [ht] at hP
                      have hD := hD9.weaken (fun _ q _ h => hf9 q.1 h)
                      refine lv_aload_n hx hb dX1_readData_224 rfl (lv_at hl 8 rfl) ?_
                      refine va_get (D := D) (ci := 1) (v := va_re ad (y191.2 a 2)) (C := RX1) (T := TX1) (N := 22) hx hb hts (mus hf_X1) hown hK hP a (wld_o ct ad G y191 hc hk (by decide)) rfl 2 (by decide) (hts (.fieldLink RX1 28 "VideoSuite$Decoder" "work" "LVideoSuite$Work;") (mu mw_644)) (fun _ h9 => h9) rfl dX1_readData_225 ?_
                      obtain ⟨b192, ho192, hc192, hk192, hF⟩ := dr_some hF
                      refine W_st (st' := [.ref (ad b192)]) (by rw [va_some ho192]) ?_
                      refine va_get (D := D) (ci := 9) (v := va_re ad (y191.2 b192 6)) (C := RX9) (T := TX9) (N := 20) hx hb hts (mus hf_X9) hown hK hP b192 (wld_o ct ad G y191 hc192 hk192 (by decide)) rfl 6 (by decide) (hts (.fieldLink RX1 355 "VideoSuite$Work" "info" "[I") (mu mw_444)) (fun _ h9 => h9) rfl dX1_readData_228 ?_
                      refine lv_bipush (v := (8 : Int32)) hx hb dX1_readData_231 (by decide) ?_
                      refine lv_iload hx hb dX1_readData_233 (lv_at hl 3 rfl) ?_
                      refine lv_imul hx hb dX1_readData_235 ?_
                      obtain ⟨x193, ex193, hF⟩ := ltt_some hF
                      refine lv_topi (fun zx193 ezx193 => ?_)
                      obtain rfl : x193 = zx193 := ex193.trans ezx193.symm
                      refine lv_iconst (v := (0 : Int32)) hx hb dX1_readData_236 (by decide) ?_
                      refine lv_iadd hx hb dX1_readData_237 ?_
                      obtain ⟨x194, ex194, hF⟩ := ltt_some hF
                      refine lv_topi (fun zx194 ezx194 => ?_)
                      obtain rfl : x194 = zx194 := ex194.trans ezx194.symm
                      obtain ⟨b195, ho195, hc195, hk195, hF⟩ := dr_some hF
                      refine W_st (st' := [.int x194, .ref (ad b195)]) (by rw [va_some ho195]) ?_
                      obtain ⟨hvc, hF⟩ := chk_some hF
                      refine va_iald hx hb hK hP b195 1 (wld_i ct ad G y191 hc195 hk195) rfl hvc dX1_readData_238 ?_
                      obtain ⟨x196, ex196, hF⟩ := ltt_some hF
                      refine lv_topi (fun zx196 ezx196 => ?_)
                      obtain rfl : x196 = zx196 := ex196.trans ezx196.symm
                      refine lv_iconst (v := (2 : Int32)) hx hb dX1_readData_239 (by decide) ?_
                      obtain ⟨y197, hy197, hF⟩ := bnd_some hF
                      have J197 : ∀ (H : Heap) (locs : List Loc) (ls : Array Slot), va_P D classes (wld ct ad G y197) H → va_D A (wld ct ad G y197) → va_S A s.heap H locs → lv_has ls 9 [(8, .int y172.2.1), (7, .int y171.2), (6, .int s17.2.1), (5, .int y172.1), (4, .int y11.2), (3, .int y9), (2, .int y5), (1, va_re ad (M.2 b2 0)), (0, .ref (ad a))] → W p l e (headSpec wuX1_readData ({ frames := 6, cells := 0, slots := 0, locals := 166 })).room s m ([.ref (ad a)] : List Value).toArray below meth c H locs 0 0 (MQ below (va_Qv (fun (_ : Unit) => True) (fun _ t => kE D ct ad G A y t) A) ([.ref (ad a)] : List Value).toArray s 0 0 A) (F0 m 257 ls []) := by
                        intro H locs ls hP hD hS hl
                        refine lv_aload_n hx hb dX1_readData_257 rfl (lv_at hl 8 rfl) ?_
                        refine lv_iload hx hb dX1_readData_258 (lv_at hl 3 rfl) ?_
                        refine lv_iconst (v := (0 : Int32)) hx hb dX1_readData_260 (by decide) ?_
                        obtain ⟨y198, hy198, hF⟩ := bnd_some hF
                        have hf9 := wA_in hD hA9 hS
                        refine va_callv (va_runV (As := [.int y172.1, .int (0 : Int32)]) (rest := []) ⟨hx, hb, hml, hown, hts⟩ (kX1_readReferences l D ct ad Z G y197 H.size a y172.1 ((0 : Int32)) y198 hc hk hy198) (cwV 2 hts gX1_readData_X1_readReferences rfl rfl rfl (by decide +kernel) ⟨Nat.le_of_ble_eq_true rfl, Nat.le_of_ble_eq_true rfl⟩) ⟨fun a U g mk q => by obtain ⟨q0, q1, qP, qK, qD, qZ, qN⟩ := q; exact ⟨q0, q1, qP, va_K.moved (u := U) (U := U.calling g mk a) (Vm.Alike.refl U.vm) qK, qD, sF.moved (u := U) (U := U.calling g mk a) (Vm.Alike.refl U.vm) qZ, nF.same rfl qN⟩, va_recv hK hP (ci := 1) (q0 := a) rfl (wld_o ct ad G y197 hc hk (by decide)), fun U hU hW => ⟨rfl, by rw [hU], by rw [hU]; exact hP, va_K.moved hW.alike hK, hD.weaken (fun _ _ _ _ => trivial), by rw [hU]; exact ((hZ.kept hS.2.1).narrow hf9).moved hW.alike, hN.warm hW⟩⟩ rfl rfl hl.1 rfl (lv_room (Nat.le_of_ble_eq_true rfl)) dX1_readData_261 ⟨(Nat.zero_le _), (Nat.zero_le _)⟩) hS (fun q _ h => hf9 q h) hf9 (fun u t H locs ht hvm hw hB hz1 hk1 hS => ?_)
                        obtain ⟨hP, hK9, hD9⟩ := hB
                        rw [ht] at hP
                        have hD := hD9.weaken (fun _ q _ h => hf9 q.1 h)
                        refine lv_aload_n hx hb dX1_readData_264 rfl (lv_at hl 8 rfl) ?_
                        refine lv_iload hx hb dX1_readData_265 (lv_at hl 3 rfl) ?_
                        refine lv_iconst (v := (1 : Int32)) hx hb dX1_readData_267 (by decide) ?_
                        obtain ⟨y199, hy199, hF⟩ := bnd_some hF
                        have hf9 := wA_in hD hA9 hS
                        refine va_callv (va_runV (As := [.int y172.1, .int (1 : Int32)]) (rest := []) ⟨hx, hb, hml, hown, hts⟩ (kX1_readReferences l D ct ad Z G y198 H.size a y172.1 ((1 : Int32)) y199 hc hk hy199) (cwV 2 hts gX1_readData_X1_readReferences rfl rfl rfl (by decide +kernel) ⟨Nat.le_of_ble_eq_true rfl, Nat.le_of_ble_eq_true rfl⟩) ⟨fun a U g mk q => by obtain ⟨q0, q1, qP, qK, qD, qZ, qN⟩ := q; exact ⟨q0, q1, qP, va_K.moved (u := U) (U := U.calling g mk a) (Vm.Alike.refl U.vm) qK, qD, sF.moved (u := U) (U := U.calling g mk a) (Vm.Alike.refl U.vm) qZ, nF.same rfl qN⟩, va_recv hK hP (ci := 1) (q0 := a) rfl (wld_o ct ad G y198 hc hk (by decide)), fun U hU hW => ⟨rfl, by rw [hU], by rw [hU]; exact hP, va_K.moved hW.alike hK, hD.weaken (fun _ _ _ _ => trivial), by rw [hU]; exact ((hZ.kept hS.2.1).narrow hf9).moved hW.alike, hN.warm hW⟩⟩ rfl rfl hl.1 rfl (lv_room (Nat.le_of_ble_eq_true rfl)) dX1_readData_268 ⟨(Nat.zero_le _), (Nat.zero_le _)⟩) hS (fun q _ h => hf9 q h) hf9 (fun u t H locs ht hvm hw hB hz1 hk1 hS => ?_)
                        obtain ⟨hP, hK9, hD9⟩ := hB
                        rw [ht] at hP
                        have hD := hD9.weaken (fun _ q _ h => hf9 q.1 h)
                        refine lv_aload_n hx hb dX1_readData_271 rfl (lv_at hl 8 rfl) ?_
                        refine lv_iload hx hb dX1_readData_272 (lv_at hl 3 rfl) ?_
                        refine lv_iconst (v := (0 : Int32)) hx hb dX1_readData_274 (by decide) ?_
                        obtain ⟨y200, hy200, hF⟩ := bnd_some hF
                        have hf9 := wA_in hD hA9 hS
                        refine va_callv (va_runV (As := [.int y172.1, .int (0 : Int32)]) (rest := []) ⟨hx, hb, hml, hown, hts⟩ (kX1_readVectors l D ct ad Z G y199 H.size a y172.1 ((0 : Int32)) y200 hc hk hy200) (cwV 2 hts gX1_readData_X1_readVectors rfl rfl rfl (by decide +kernel) ⟨Nat.le_of_ble_eq_true rfl, Nat.le_of_ble_eq_true rfl⟩) ⟨fun a U g mk q => by obtain ⟨q0, q1, qP, qK, qD, qZ, qN⟩ := q; exact ⟨q0, q1, qP, va_K.moved (u := U) (U := U.calling g mk a) (Vm.Alike.refl U.vm) qK, qD, sF.moved (u := U) (U := U.calling g mk a) (Vm.Alike.refl U.vm) qZ, nF.same rfl qN⟩, va_recv hK hP (ci := 1) (q0 := a) rfl (wld_o ct ad G y199 hc hk (by decide)), fun U hU hW => ⟨rfl, by rw [hU], by rw [hU]; exact hP, va_K.moved hW.alike hK, hD.weaken (fun _ _ _ _ => trivial), by rw [hU]; exact ((hZ.kept hS.2.1).narrow hf9).moved hW.alike, hN.warm hW⟩⟩ rfl rfl hl.1 rfl (lv_room (Nat.le_of_ble_eq_true rfl)) dX1_readData_275 ⟨(Nat.zero_le _), (Nat.zero_le _)⟩) hS (fun q _ h => hf9 q h) hf9 (fun u t H locs ht hvm hw hB hz1 hk1 hS => ?_)
                        obtain ⟨hP, hK9, hD9⟩ := hB
                        rw [ht] at hP
                        have hD := hD9.weaken (fun _ q _ h => hf9 q.1 h)
                        refine lv_aload_n hx hb dX1_readData_278 rfl (lv_at hl 8 rfl) ?_
                        refine lv_iload hx hb dX1_readData_279 (lv_at hl 3 rfl) ?_
                        refine lv_iconst (v := (1 : Int32)) hx hb dX1_readData_281 (by decide) ?_
                        obtain ⟨y201, hy201, hF⟩ := bnd_some hF
                        have hf9 := wA_in hD hA9 hS
                        refine va_callv (va_runV (As := [.int y172.1, .int (1 : Int32)]) (rest := []) ⟨hx, hb, hml, hown, hts⟩ (kX1_readVectors l D ct ad Z G y200 H.size a y172.1 ((1 : Int32)) y201 hc hk hy201) (cwV 2 hts gX1_readData_X1_readVectors rfl rfl rfl (by decide +kernel) ⟨Nat.le_of_ble_eq_true rfl, Nat.le_of_ble_eq_true rfl⟩) ⟨fun a U g mk q => by obtain ⟨q0, q1, qP, qK, qD, qZ, qN⟩ := q; exact ⟨q0, q1, qP, va_K.moved (u := U) (U := U.calling g mk a) (Vm.Alike.refl U.vm) qK, qD, sF.moved (u := U) (U := U.calling g mk a) (Vm.Alike.refl U.vm) qZ, nF.same rfl qN⟩, va_recv hK hP (ci := 1) (q0 := a) rfl (wld_o ct ad G y200 hc hk (by decide)), fun U hU hW => ⟨rfl, by rw [hU], by rw [hU]; exact hP, va_K.moved hW.alike hK, hD.weaken (fun _ _ _ _ => trivial), by rw [hU]; exact ((hZ.kept hS.2.1).narrow hf9).moved hW.alike, hN.warm hW⟩⟩ rfl rfl hl.1 rfl (lv_room (Nat.le_of_ble_eq_true rfl)) dX1_readData_282 ⟨(Nat.zero_le _), (Nat.zero_le _)⟩) hS (fun q _ h => hf9 q h) hf9 (fun u t H locs ht hvm hw hB hz1 hk1 hS => ?_)
                        obtain ⟨hP, hK9, hD9⟩ := hB
                        rw [ht] at hP
                        have hD := hD9.weaken (fun _ q _ h => hf9 q.1 h)
                        refine lv_aload_n hx hb dX1_readData_285 rfl (lv_at hl 8 rfl) ?_
                        refine lv_iload hx hb dX1_readData_286 (lv_at hl 3 rfl) ?_
                        obtain ⟨y202, hy202, hF⟩ := bnd_some hF
                        have hf9 := wA_in hD hA9 hS
                        refine va_callv (va_runV (As := [.int y172.1]) (rest := []) ⟨hx, hb, hml, hown, hts⟩ (kX1_readPattern l D ct ad Z G y201 H.size a y172.1 y202 hc hk hy202) (cwV 1 hts gX1_readData_X1_readPattern rfl rfl rfl (by decide +kernel) ⟨Nat.le_of_ble_eq_true rfl, Nat.le_of_ble_eq_true rfl⟩) ⟨fun a U g mk q => by obtain ⟨q0, q1, qP, qK, qD, qZ, qN⟩ := q; exact ⟨q0, q1, qP, va_K.moved (u := U) (U := U.calling g mk a) (Vm.Alike.refl U.vm) qK, qD, sF.moved (u := U) (U := U.calling g mk a) (Vm.Alike.refl U.vm) qZ, nF.same rfl qN⟩, va_recv hK hP (ci := 1) (q0 := a) rfl (wld_o ct ad G y201 hc hk (by decide)), fun U hU hW => ⟨rfl, by rw [hU], by rw [hU]; exact hP, va_K.moved hW.alike hK, hD.weaken (fun _ _ _ _ => trivial), by rw [hU]; exact ((hZ.kept hS.2.1).narrow hf9).moved hW.alike, hN.warm hW⟩⟩ rfl rfl hl.1 rfl (lv_room (Nat.le_of_ble_eq_true rfl)) dX1_readData_288 ⟨(Nat.zero_le _), (Nat.zero_le _)⟩) hS (fun q _ h => hf9 q h) hf9 (fun u t H locs ht hvm hw hB hz1 hk1 hS => ?_)
                        obtain ⟨hP, hK9, hD9⟩ := hB
                        rw [ht] at hP
                        have hD := hD9.weaken (fun _ q _ h => hf9 q.1 h)
                        refine lv_aload_n hx hb dX1_readData_291 rfl (lv_at hl 8 rfl) ?_
                        refine lv_iload hx hb dX1_readData_292 (lv_at hl 3 rfl) ?_
                        obtain ⟨y203, hy203, hF⟩ := bnd_some hF
                        have hf9 := wA_in hD hA9 hS
                        refine va_callv (va_runV (As := [.int y172.1]) (rest := []) ⟨hx, hb, hml, hown, hts⟩ (kX1_readLevels l D ct ad Z G y202 H.size a y172.1 y203 hc hk hy203) (cwV 1 hts gX1_readData_X1_readLevels rfl rfl rfl (by decide +kernel) ⟨Nat.le_of_ble_eq_true rfl, Nat.le_of_ble_eq_true rfl⟩) ⟨fun a U g mk q => by obtain ⟨q0, q1, qP, qK, qD, qZ, qN⟩ := q; exact ⟨q0, q1, qP, va_K.moved (u := U) (U := U.calling g mk a) (Vm.Alike.refl U.vm) qK, qD, sF.moved (u := U) (U := U.calling g mk a) (Vm.Alike.refl U.vm) qZ, nF.same rfl qN⟩, va_recv hK hP (ci := 1) (q0 := a) rfl (wld_o ct ad G y202 hc hk (by decide)), fun U hU hW => ⟨rfl, by rw [hU], by rw [hU]; exact hP, va_K.moved hW.alike hK, hD.weaken (fun _ _ _ _ => trivial), by rw [hU]; exact ((hZ.kept hS.2.1).narrow hf9).moved hW.alike, hN.warm hW⟩⟩ rfl rfl hl.1 rfl (lv_room (Nat.le_of_ble_eq_true rfl)) dX1_readData_294 ⟨(Nat.zero_le _), (Nat.zero_le _)⟩) hS (fun q _ h => hf9 q h) hf9 (fun u t H locs ht hvm hw hB hz1 hk1 hS => ?_)
                        obtain ⟨hP, hK9, hD9⟩ := hB
                        rw [ht] at hP
                        have hD := hD9.weaken (fun _ q _ h => hf9 q.1 h)
                        obtain rfl := Option.some.inj hF
                        exact J177 _ _ _ hP hD hS (lv_sub hl [0, 1, 2, 3, 4, 5, 6, 7, 8] rfl)
                      clear hF
                      have hF := hy197
                      clear hy197
                      refine lv_icmp_ne (tgt := 257) hx hb dX1_readData_240 (by decide) (fun c204 => ?_) (fun c204 => ?_)
                      · rw [if_neg c204] at hF
                        obtain rfl := Option.some.inj hF
                        exact J197 _ _ _ hP hD hS (lv_sub hl [0, 1, 2, 3, 4, 5, 6, 7, 8] rfl)
                      · rw [if_pos c204] at hF
                        refine lv_aload_n hx hb dX1_readData_243 rfl (lv_at hl 8 rfl) ?_
                        refine va_get (D := D) (ci := 1) (v := va_re ad (y191.2 a 0)) (C := RX1) (T := TX1) (N := 22) hx hb hts (mus hf_X1) hown hK hP a (wld_o ct ad G y191 hc hk (by decide)) rfl 0 (by decide) (hts (.fieldLink RX1 12 "VideoSuite$Decoder" "reader" "LVideoSuite$Reader;") (mu mw_640)) (fun _ h9 => h9) rfl dX1_readData_244 ?_
                        refine lv_aload_n hx hb dX1_readData_247 rfl (lv_at hl 8 rfl) ?_
                        refine va_get (D := D) (ci := 1) (v := va_re ad (y191.2 a 3)) (C := RX1) (T := TX1) (N := 22) hx hb hts (mus hf_X1) hown hK hP a (wld_o ct ad G y191 hc hk (by decide)) rfl 3 (by decide) (hts (.fieldLink RX1 35 "VideoSuite$Decoder" "samples" "LVideoSuite$Samples;") (mu mw_645)) (fun _ h9 => h9) rfl dX1_readData_248 ?_
                        obtain ⟨b205, ho205, hc205, hk205, hF⟩ := dr_some hF
                        refine W_st (st' := [.ref (ad b205), va_re ad (y191.2 a 0)]) (by rw [va_some ho205]) ?_
                        refine va_get (D := D) (ci := 6) (v := va_re ad (y191.2 b205 0)) (C := RX6) (T := TX6) (N := 14) hx hb hts (mus hf_X6) hown hK hP b205 (wld_o ct ad G y191 hc205 hk205 (by decide)) rfl 0 (by decide) (hts (.fieldLink RX1 358 "VideoSuite$Samples" "guess" "[I") (mu mw_534)) (fun _ h9 => h9) rfl dX1_readData_251 ?_
                        obtain ⟨b206, ho206, hc206, hk206, hF⟩ := dr_some hF
                        refine W_st (st' := [va_re ad (y191.2 b205 0), .ref (ad b206)]) (by rw [va_some ho206]) ?_
                        obtain ⟨y207, hy207, hF⟩ := bnd_some hF
                        have hf9 := wA_in hD hA9 hS
                        refine va_callv (va_runV (As := [va_re ad (y191.2 b205 0)]) (rest := []) ⟨hx, hb, hml, hown, hts⟩ (kX5_rawSamples l D ct ad Z G y191 H.size b206 ((y191.2 b205 0)) y207 hc206 hk206 hy207) (cwV 1 hts gX1_readData_X5_rawSamples rfl rfl rfl (by decide +kernel) ⟨Nat.le_of_ble_eq_true rfl, Nat.le_of_ble_eq_true rfl⟩) ⟨fun a U g mk q => by obtain ⟨q0, q1, qP, qK, qD, qZ, qN⟩ := q; exact ⟨q0, q1, qP, va_K.moved (u := U) (U := U.calling g mk a) (Vm.Alike.refl U.vm) qK, qD, sF.moved (u := U) (U := U.calling g mk a) (Vm.Alike.refl U.vm) qZ, nF.same rfl qN⟩, va_recv hK hP (ci := 5) (q0 := b206) rfl (wld_o ct ad G y191 hc206 hk206 (by decide)), fun U hU hW => ⟨rfl, by rw [hU], by rw [hU]; exact hP, va_K.moved hW.alike hK, hD.weaken (fun _ _ _ _ => trivial), by rw [hU]; exact ((hZ.kept hS.2.1).narrow hf9).moved hW.alike, hN.warm hW⟩⟩ rfl rfl hl.1 rfl (lv_room (Nat.le_of_ble_eq_true rfl)) dX1_readData_254 ⟨(Nat.zero_le _), (Nat.zero_le _)⟩) hS (fun q _ h => hf9 q h) hf9 (fun u t H locs ht hvm hw hB hz1 hk1 hS => ?_)
                        obtain ⟨hP, hK9, hD9⟩ := hB
                        rw [ht] at hP
                        have hD := hD9.weaken (fun _ q _ h => hf9 q.1 h)
                        obtain rfl := Option.some.inj hF
                        exact J197 _ _ _ hP hD hS (lv_sub hl [0, 1, 2, 3, 4, 5, 6, 7, 8] rfl)
                    · rw [if_neg c190] at hF
                      refine lv_iload_n hx hb dX1_readData_192 rfl (lv_at hl 6 rfl) ?_
                      obtain ⟨y208, hy208, hF⟩ := bnd_some hF
                      have J208 : ∀ (H : Heap) (locs : List Loc) (ls : Array Slot), va_P D classes (wld ct ad G y208) H → va_D A (wld ct ad G y208) → va_S A s.heap H locs → lv_has ls 9 [(8, .int y172.2.1), (7, .int y171.2), (6, .int s17.2.1), (5, .int y172.1), (4, .int y11.2), (3, .int y9), (2, .int y5), (1, va_re ad (M.2 b2 0)), (0, .ref (ad a))] → W p l e (headSpec wuX1_readData ({ frames := 6, cells := 0, slots := 0, locals := 166 })).room s m ([.ref (ad a)] : List Value).toArray below meth c H locs 0 0 (MQ below (va_Qv (fun (_ : Unit) => True) (fun _ t => kE D ct ad G A y t) A) ([.ref (ad a)] : List Value).toArray s 0 0 A) (F0 m 297 ls []) := by
                        intro H locs ls hP hD hS hl
                        obtain rfl := Option.some.inj hF
                        exact J177 _ _ _ hP hD hS (lv_sub hl [0, 1, 2, 3, 4, 5, 6, 7, 8] rfl)
                      clear hF
                      have hF := hy208
                      clear hy208
                      refine lv_if_ne (tgt := 218) hx hb dX1_readData_193 (by decide) (fun c209 => ?_) (fun c209 => ?_)
                      · rw [if_neg c209] at hF
                        refine lv_aload_n hx hb dX1_readData_218 rfl (lv_at hl 8 rfl) ?_
                        refine lv_iload hx hb dX1_readData_219 (lv_at hl 3 rfl) ?_
                        obtain ⟨y210, hy210, hF⟩ := bnd_some hF
                        have hf9 := wA_in hD hA9 hS
                        refine va_callv (va_runV (As := [.int y172.1]) (rest := []) ⟨hx, hb, hml, hown, hts⟩ (kX1_readBlock l D ct ad Z G y176 H.size a y172.1 y210 hc hk hy210) (cwV 1 hts gX1_readData_X1_readBlock rfl rfl rfl (by decide +kernel) ⟨Nat.le_of_ble_eq_true rfl, Nat.le_of_ble_eq_true rfl⟩) ⟨fun a U g mk q => by obtain ⟨q0, q1, qP, qK, qD, qZ, qN⟩ := q; exact ⟨q0, q1, qP, va_K.moved (u := U) (U := U.calling g mk a) (Vm.Alike.refl U.vm) qK, qD, sF.moved (u := U) (U := U.calling g mk a) (Vm.Alike.refl U.vm) qZ, nF.same rfl qN⟩, va_recv hK hP (ci := 1) (q0 := a) rfl (wld_o ct ad G y176 hc hk (by decide)), fun U hU hW => ⟨rfl, by rw [hU], by rw [hU]; exact hP, va_K.moved hW.alike hK, hD.weaken (fun _ _ _ _ => trivial), by rw [hU]; exact ((hZ.kept hS.2.1).narrow hf9).moved hW.alike, hN.warm hW⟩⟩ rfl rfl hl.1 rfl (lv_room (Nat.le_of_ble_eq_true rfl)) dX1_readData_221 ⟨(Nat.zero_le _), (Nat.zero_le _)⟩) hS (fun q _ h => hf9 q h) hf9 (fun u t H locs ht hvm hw hB hz1 hk1 hS => ?_)
                        obtain ⟨hP, hK9, hD9⟩ := hB
                        rw [ht] at hP
                        have hD := hD9.weaken (fun _ q _ h => hf9 q.1 h)
                        refine lv_aload_n hx hb dX1_readData_224 rfl (lv_at hl 8 rfl) ?_
                        refine va_get (D := D) (ci := 1) (v := va_re ad (y210.2 a 2)) (C := RX1) (T := TX1) (N := 22) hx hb hts (mus hf_X1) hown hK hP a (wld_o ct ad G y210 hc hk (by decide)) rfl 2 (by decide) (hts (.fieldLink RX1 28 "VideoSuite$Decoder" "work" "LVideoSuite$Work;") (mu mw_644)) (fun _ h9 => h9) rfl dX1_readData_225 ?_
                        obtain ⟨b211, ho211, hc211, hk211, hF⟩ := dr_some hF
                        refine W_st (st' := [.ref (ad b211)]) (by rw [va_some ho211]) ?_
                        refine va_get (D := D) (ci := 9) (v := va_re ad (y210.2 b211 6)) (C := RX9) (T := TX9) (N := 20) hx hb hts (mus hf_X9) hown hK hP b211 (wld_o ct ad G y210 hc211 hk211 (by decide)) rfl 6 (by decide) (hts (.fieldLink RX1 355 "VideoSuite$Work" "info" "[I") (mu mw_444)) (fun _ h9 => h9) rfl dX1_readData_228 ?_
                        refine lv_bipush (v := (8 : Int32)) hx hb dX1_readData_231 (by decide) ?_
                        refine lv_iload hx hb dX1_readData_233 (lv_at hl 3 rfl) ?_
                        refine lv_imul hx hb dX1_readData_235 ?_
                        obtain ⟨x212, ex212, hF⟩ := ltt_some hF
                        refine lv_topi (fun zx212 ezx212 => ?_)
                        obtain rfl : x212 = zx212 := ex212.trans ezx212.symm
                        refine lv_iconst (v := (0 : Int32)) hx hb dX1_readData_236 (by decide) ?_
                        refine lv_iadd hx hb dX1_readData_237 ?_
                        obtain ⟨x213, ex213, hF⟩ := ltt_some hF
                        refine lv_topi (fun zx213 ezx213 => ?_)
                        obtain rfl : x213 = zx213 := ex213.trans ezx213.symm
                        obtain ⟨b214, ho214, hc214, hk214, hF⟩ := dr_some hF
                        refine W_st (st' := [.int x213, .ref (ad b214)]) (by rw [va_some ho214]) ?_
                        obtain ⟨hvc, hF⟩ := chk_some hF
                        refine va_iald hx hb hK hP b214 1 (wld_i ct ad G y210 hc214 hk214) rfl hvc dX1_readData_238 ?_
                        obtain ⟨x215, ex215, hF⟩ := ltt_some hF
                        refine lv_topi (fun zx215 ezx215 => ?_)
                        obtain rfl : x215 = zx215 := ex215.trans ezx215.symm
                        refine lv_iconst (v := (2 : Int32)) hx hb dX1_readData_239 (by decide) ?_
                        obtain ⟨y216, hy216, hF⟩ := bnd_some hF
                        have J216 : ∀ (H : Heap) (locs : List Loc) (ls : Array Slot), va_P D classes (wld ct ad G y216) H → va_D A (wld ct ad G y216) → va_S A s.heap H locs → lv_has ls 9 [(8, .int y172.2.1), (7, .int y171.2), (6, .int s17.2.1), (5, .int y172.1), (4, .int y11.2), (3, .int y9), (2, .int y5), (1, va_re ad (M.2 b2 0)), (0, .ref (ad a))] → W p l e (headSpec wuX1_readData ({ frames := 6, cells := 0, slots := 0, locals := 166 })).room s m ([.ref (ad a)] : List Value).toArray below meth c H locs 0 0 (MQ below (va_Qv (fun (_ : Unit) => True) (fun _ t => kE D ct ad G A y t) A) ([.ref (ad a)] : List Value).toArray s 0 0 A) (F0 m 257 ls []) := by
                          intro H locs ls hP hD hS hl
                          refine lv_aload_n hx hb dX1_readData_257 rfl (lv_at hl 8 rfl) ?_
                          refine lv_iload hx hb dX1_readData_258 (lv_at hl 3 rfl) ?_
                          refine lv_iconst (v := (0 : Int32)) hx hb dX1_readData_260 (by decide) ?_
                          obtain ⟨y217, hy217, hF⟩ := bnd_some hF
                          have hf9 := wA_in hD hA9 hS
                          refine va_callv (va_runV (As := [.int y172.1, .int (0 : Int32)]) (rest := []) ⟨hx, hb, hml, hown, hts⟩ (kX1_readReferences l D ct ad Z G y216 H.size a y172.1 ((0 : Int32)) y217 hc hk hy217) (cwV 2 hts gX1_readData_X1_readReferences rfl rfl rfl (by decide +kernel) ⟨Nat.le_of_ble_eq_true rfl, Nat.le_of_ble_eq_true rfl⟩) ⟨fun a U g mk q => by obtain ⟨q0, q1, qP, qK, qD, qZ, qN⟩ := q; exact ⟨q0, q1, qP, va_K.moved (u := U) (U := U.calling g mk a) (Vm.Alike.refl U.vm) qK, qD, sF.moved (u := U) (U := U.calling g mk a) (Vm.Alike.refl U.vm) qZ, nF.same rfl qN⟩, va_recv hK hP (ci := 1) (q0 := a) rfl (wld_o ct ad G y216 hc hk (by decide)), fun U hU hW => ⟨rfl, by rw [hU], by rw [hU]; exact hP, va_K.moved hW.alike hK, hD.weaken (fun _ _ _ _ => trivial), by rw [hU]; exact ((hZ.kept hS.2.1).narrow hf9).moved hW.alike, hN.warm hW⟩⟩ rfl rfl hl.1 rfl (lv_room (Nat.le_of_ble_eq_true rfl)) dX1_readData_261 ⟨(Nat.zero_le _), (Nat.zero_le _)⟩) hS (fun q _ h => hf9 q h) hf9 (fun u t H locs ht hvm hw hB hz1 hk1 hS => ?_)
                          obtain ⟨hP, hK9, hD9⟩ := hB
                          rw [ht] at hP
                          have hD := hD9.weaken (fun _ q _ h => hf9 q.1 h)
                          refine lv_aload_n hx hb dX1_readData_264 rfl (lv_at hl 8 rfl) ?_
                          refine lv_iload hx hb dX1_readData_265 (lv_at hl 3 rfl) ?_
                          refine lv_iconst (v := (1 : Int32)) hx hb dX1_readData_267 (by decide) ?_
                          obtain ⟨y218, hy218, hF⟩ := bnd_some hF
                          have hf9 := wA_in hD hA9 hS
                          refine va_callv (va_runV (As := [.int y172.1, .int (1 : Int32)]) (rest := []) ⟨hx, hb, hml, hown, hts⟩ (kX1_readReferences l D ct ad Z G y217 H.size a y172.1 ((1 : Int32)) y218 hc hk hy218) (cwV 2 hts gX1_readData_X1_readReferences rfl rfl rfl (by decide +kernel) ⟨Nat.le_of_ble_eq_true rfl, Nat.le_of_ble_eq_true rfl⟩) ⟨fun a U g mk q => by obtain ⟨q0, q1, qP, qK, qD, qZ, qN⟩ := q; exact ⟨q0, q1, qP, va_K.moved (u := U) (U := U.calling g mk a) (Vm.Alike.refl U.vm) qK, qD, sF.moved (u := U) (U := U.calling g mk a) (Vm.Alike.refl U.vm) qZ, nF.same rfl qN⟩, va_recv hK hP (ci := 1) (q0 := a) rfl (wld_o ct ad G y217 hc hk (by decide)), fun U hU hW => ⟨rfl, by rw [hU], by rw [hU]; exact hP, va_K.moved hW.alike hK, hD.weaken (fun _ _ _ _ => trivial), by rw [hU]; exact ((hZ.kept hS.2.1).narrow hf9).moved hW.alike, hN.warm hW⟩⟩ rfl rfl hl.1 rfl (lv_room (Nat.le_of_ble_eq_true rfl)) dX1_readData_268 ⟨(Nat.zero_le _), (Nat.zero_le _)⟩) hS (fun q _ h => hf9 q h) hf9 (fun u t H locs ht hvm hw hB hz1 hk1 hS => ?_)
                          obtain ⟨hP, hK9, hD9⟩ := hB
                          rw [ht] at hP
                          have hD := hD9.weaken (fun _ q _ h => hf9 q.1 h)
                          refine lv_aload_n hx hb dX1_readData_271 rfl (lv_at hl 8 rfl) ?_
                          refine lv_iload hx hb dX1_readData_272 (lv_at hl 3 rfl) ?_
                          refine lv_iconst (v := (0 : Int32)) hx hb dX1_readData_274 (by decide) ?_
                          obtain ⟨y219, hy219, hF⟩ := bnd_some hF
                          have hf9 := wA_in hD hA9 hS
                          refine va_callv (va_runV (As := [.int y172.1, .int (0 : Int32)]) (rest := []) ⟨hx, hb, hml, hown, hts⟩ (kX1_readVectors l D ct ad Z G y218 H.size a y172.1 ((0 : Int32)) y219 hc hk hy219) (cwV 2 hts gX1_readData_X1_readVectors rfl rfl rfl (by decide +kernel) ⟨Nat.le_of_ble_eq_true rfl, Nat.le_of_ble_eq_true rfl⟩) ⟨fun a U g mk q => by obtain ⟨q0, q1, qP, qK, qD, qZ, qN⟩ := q; exact ⟨q0, q1, qP, va_K.moved (u := U) (U := U.calling g mk a) (Vm.Alike.refl U.vm) qK, qD, sF.moved (u := U) (U := U.calling g mk a) (Vm.Alike.refl U.vm) qZ, nF.same rfl qN⟩, va_recv hK hP (ci := 1) (q0 := a) rfl (wld_o ct ad G y218 hc hk (by decide)), fun U hU hW => ⟨rfl, by rw [hU], by rw [hU]; exact hP, va_K.moved hW.alike hK, hD.weaken (fun _ _ _ _ => trivial), by rw [hU]; exact ((hZ.kept hS.2.1).narrow hf9).moved hW.alike, hN.warm hW⟩⟩ rfl rfl hl.1 rfl (lv_room (Nat.le_of_ble_eq_true rfl)) dX1_readData_275 ⟨(Nat.zero_le _), (Nat.zero_le _)⟩) hS (fun q _ h => hf9 q h) hf9 (fun u t H locs ht hvm hw hB hz1 hk1 hS => ?_)
                          obtain ⟨hP, hK9, hD9⟩ := hB
                          rw [ht] at hP
                          have hD := hD9.weaken (fun _ q _ h => hf9 q.1 h)
                          refine lv_aload_n hx hb dX1_readData_278 rfl (lv_at hl 8 rfl) ?_
                          refine lv_iload hx hb dX1_readData_279 (lv_at hl 3 rfl) ?_
                          refine lv_iconst (v := (1 : Int32)) hx hb dX1_readData_281 (by decide) ?_
                          obtain ⟨y220, hy220, hF⟩ := bnd_some hF
                          have hf9 := wA_in hD hA9 hS
                          refine va_callv (va_runV (As := [.int y172.1, .int (1 : Int32)]) (rest := []) ⟨hx, hb, hml, hown, hts⟩ (kX1_readVectors l D ct ad Z G y219 H.size a y172.1 ((1 : Int32)) y220 hc hk hy220) (cwV 2 hts gX1_readData_X1_readVectors rfl rfl rfl (by decide +kernel) ⟨Nat.le_of_ble_eq_true rfl, Nat.le_of_ble_eq_true rfl⟩) ⟨fun a U g mk q => by obtain ⟨q0, q1, qP, qK, qD, qZ, qN⟩ := q; exact ⟨q0, q1, qP, va_K.moved (u := U) (U := U.calling g mk a) (Vm.Alike.refl U.vm) qK, qD, sF.moved (u := U) (U := U.calling g mk a) (Vm.Alike.refl U.vm) qZ, nF.same rfl qN⟩, va_recv hK hP (ci := 1) (q0 := a) rfl (wld_o ct ad G y219 hc hk (by decide)), fun U hU hW => ⟨rfl, by rw [hU], by rw [hU]; exact hP, va_K.moved hW.alike hK, hD.weaken (fun _ _ _ _ => trivial), by rw [hU]; exact ((hZ.kept hS.2.1).narrow hf9).moved hW.alike, hN.warm hW⟩⟩ rfl rfl hl.1 rfl (lv_room (Nat.le_of_ble_eq_true rfl)) dX1_readData_282 ⟨(Nat.zero_le _), (Nat.zero_le _)⟩) hS (fun q _ h => hf9 q h) hf9 (fun u t H locs ht hvm hw hB hz1 hk1 hS => ?_)
                          obtain ⟨hP, hK9, hD9⟩ := hB
                          rw [ht] at hP
                          have hD := hD9.weaken (fun _ q _ h => hf9 q.1 h)
                          refine lv_aload_n hx hb dX1_readData_285 rfl (lv_at hl 8 rfl) ?_
                          refine lv_iload hx hb dX1_readData_286 (lv_at hl 3 rfl) ?_
                          obtain ⟨y221, hy221, hF⟩ := bnd_some hF
                          have hf9 := wA_in hD hA9 hS
                          refine va_callv (va_runV (As := [.int y172.1]) (rest := []) ⟨hx, hb, hml, hown, hts⟩ (kX1_readPattern l D ct ad Z G y220 H.size a y172.1 y221 hc hk hy221) (cwV 1 hts gX1_readData_X1_readPattern rfl rfl rfl (by decide +kernel) ⟨Nat.le_of_ble_eq_true rfl, Nat.le_of_ble_eq_true rfl⟩) ⟨fun a U g mk q => by obtain ⟨q0, q1, qP, qK, qD, qZ, qN⟩ := q; exact ⟨q0, q1, qP, va_K.moved (u := U) (U := U.calling g mk a) (Vm.Alike.refl U.vm) qK, qD, sF.moved (u := U) (U := U.calling g mk a) (Vm.Alike.refl U.vm) qZ, nF.same rfl qN⟩, va_recv hK hP (ci := 1) (q0 := a) rfl (wld_o ct ad G y220 hc hk (by decide)), fun U hU hW => ⟨rfl, by rw [hU], by rw [hU]; exact hP, va_K.moved hW.alike hK, hD.weaken (fun _ _ _ _ => trivial), by rw [hU]; exact ((hZ.kept hS.2.1).narrow hf9).moved hW.alike, hN.warm hW⟩⟩ rfl rfl hl.1 rfl (lv_room (Nat.le_of_ble_eq_true rfl)) dX1_readData_288 ⟨(Nat.zero_le _), (Nat.zero_le _)⟩) hS (fun q _ h => hf9 q h) hf9 (fun u t H locs ht hvm hw hB hz1 hk1 hS => ?_)
                          obtain ⟨hP, hK9, hD9⟩ := hB
                          rw [ht] at hP
                          have hD := hD9.weaken (fun _ q _ h => hf9 q.1 h)
                          refine lv_aload_n hx hb dX1_readData_291 rfl (lv_at hl 8 rfl) ?_
                          refine lv_iload hx hb dX1_readData_292 (lv_at hl 3 rfl) ?_
                          obtain ⟨y222, hy222, hF⟩ := bnd_some hF
                          have hf9 := wA_in hD hA9 hS
                          refine va_callv (va_runV (As := [.int y172.1]) (rest := []) ⟨hx, hb, hml, hown, hts⟩ (kX1_readLevels l D ct ad Z G y221 H.size a y172.1 y222 hc hk hy222) (cwV 1 hts gX1_readData_X1_readLevels rfl rfl rfl (by decide +kernel) ⟨Nat.le_of_ble_eq_true rfl, Nat.le_of_ble_eq_true rfl⟩) ⟨fun a U g mk q => by obtain ⟨q0, q1, qP, qK, qD, qZ, qN⟩ := q; exact ⟨q0, q1, qP, va_K.moved (u := U) (U := U.calling g mk a) (Vm.Alike.refl U.vm) qK, qD, sF.moved (u := U) (U := U.calling g mk a) (Vm.Alike.refl U.vm) qZ, nF.same rfl qN⟩, va_recv hK hP (ci := 1) (q0 := a) rfl (wld_o ct ad G y221 hc hk (by decide)), fun U hU hW => ⟨rfl, by rw [hU], by rw [hU]; exact hP, va_K.moved hW.alike hK, hD.weaken (fun _ _ _ _ => trivial), by rw [hU]; exact ((hZ.kept hS.2.1).narrow hf9).moved hW.alike, hN.warm hW⟩⟩ rfl rfl hl.1 rfl (lv_room (Nat.le_of_ble_eq_true rfl)) dX1_readData_294 ⟨(Nat.zero_le _), (Nat.zero_le _)⟩) hS (fun q _ h => hf9 q h) hf9 (fun u t H locs ht hvm hw hB hz1 hk1 hS => ?_)
                          obtain ⟨hP, hK9, hD9⟩ := hB
                          rw [ht] at hP
                          have hD := hD9.weaken (fun _ q _ h => hf9 q.1 h)
                          obtain rfl := Option.some.inj hF
                          exact J208 _ _ _ hP hD hS (lv_sub hl [0, 1, 2, 3, 4, 5, 6, 7, 8] rfl)
                        clear hF
                        have hF := hy216
                        clear hy216
                        refine lv_icmp_ne (tgt := 257) hx hb dX1_readData_240 (by decide) (fun c223 => ?_) (fun c223 => ?_)
                        · rw [if_neg c223] at hF
                          obtain rfl := Option.some.inj hF
                          exact J216 _ _ _ hP hD hS (lv_sub hl [0, 1, 2, 3, 4, 5, 6, 7, 8] rfl)
                        · rw [if_pos c223] at hF
                          refine lv_aload_n hx hb dX1_readData_243 rfl (lv_at hl 8 rfl) ?_
                          refine va_get (D := D) (ci := 1) (v := va_re ad (y210.2 a 0)) (C := RX1) (T := TX1) (N := 22) hx hb hts (mus hf_X1) hown hK hP a (wld_o ct ad G y210 hc hk (by decide)) rfl 0 (by decide) (hts (.fieldLink RX1 12 "VideoSuite$Decoder" "reader" "LVideoSuite$Reader;") (mu mw_640)) (fun _ h9 => h9) rfl dX1_readData_244 ?_
                          refine lv_aload_n hx hb dX1_readData_247 rfl (lv_at hl 8 rfl) ?_
                          refine va_get (D := D) (ci := 1) (v := va_re ad (y210.2 a 3)) (C := RX1) (T := TX1) (N := 22) hx hb hts (mus hf_X1) hown hK hP a (wld_o ct ad G y210 hc hk (by decide)) rfl 3 (by decide) (hts (.fieldLink RX1 35 "VideoSuite$Decoder" "samples" "LVideoSuite$Samples;") (mu mw_645)) (fun _ h9 => h9) rfl dX1_readData_248 ?_
                          obtain ⟨b224, ho224, hc224, hk224, hF⟩ := dr_some hF
                          refine W_st (st' := [.ref (ad b224), va_re ad (y210.2 a 0)]) (by rw [va_some ho224]) ?_
                          refine va_get (D := D) (ci := 6) (v := va_re ad (y210.2 b224 0)) (C := RX6) (T := TX6) (N := 14) hx hb hts (mus hf_X6) hown hK hP b224 (wld_o ct ad G y210 hc224 hk224 (by decide)) rfl 0 (by decide) (hts (.fieldLink RX1 358 "VideoSuite$Samples" "guess" "[I") (mu mw_534)) (fun _ h9 => h9) rfl dX1_readData_251 ?_
                          obtain ⟨b225, ho225, hc225, hk225, hF⟩ := dr_some hF
                          refine W_st (st' := [va_re ad (y210.2 b224 0), .ref (ad b225)]) (by rw [va_some ho225]) ?_
                          obtain ⟨y226, hy226, hF⟩ := bnd_some hF
                          have hf9 := wA_in hD hA9 hS
                          refine va_callv (va_runV (As := [va_re ad (y210.2 b224 0)]) (rest := []) ⟨hx, hb, hml, hown, hts⟩ (kX5_rawSamples l D ct ad Z G y210 H.size b225 ((y210.2 b224 0)) y226 hc225 hk225 hy226) (cwV 1 hts gX1_readData_X5_rawSamples rfl rfl rfl (by decide +kernel) ⟨Nat.le_of_ble_eq_true rfl, Nat.le_of_ble_eq_true rfl⟩) ⟨fun a U g mk q => by obtain ⟨q0, q1, qP, qK, qD, qZ, qN⟩ := q; exact ⟨q0, q1, qP, va_K.moved (u := U) (U := U.calling g mk a) (Vm.Alike.refl U.vm) qK, qD, sF.moved (u := U) (U := U.calling g mk a) (Vm.Alike.refl U.vm) qZ, nF.same rfl qN⟩, va_recv hK hP (ci := 5) (q0 := b225) rfl (wld_o ct ad G y210 hc225 hk225 (by decide)), fun U hU hW => ⟨rfl, by rw [hU], by rw [hU]; exact hP, va_K.moved hW.alike hK, hD.weaken (fun _ _ _ _ => trivial), by rw [hU]; exact ((hZ.kept hS.2.1).narrow hf9).moved hW.alike, hN.warm hW⟩⟩ rfl rfl hl.1 rfl (lv_room (Nat.le_of_ble_eq_true rfl)) dX1_readData_254 ⟨(Nat.zero_le _), (Nat.zero_le _)⟩) hS (fun q _ h => hf9 q h) hf9 (fun u t H locs ht hvm hw hB hz1 hk1 hS => ?_)
                          obtain ⟨hP, hK9, hD9⟩ := hB
                          rw [ht] at hP
                          have hD := hD9.weaken (fun _ q _ h => hf9 q.1 h)
                          obtain rfl := Option.some.inj hF
                          exact J216 _ _ _ hP hD hS (lv_sub hl [0, 1, 2, 3, 4, 5, 6, 7, 8] rfl)
                      · rw [if_pos c209] at hF
                        refine lv_aload_n hx hb dX1_readData_196 rfl (lv_at hl 8 rfl) ?_
                        refine va_get (D := D) (ci := 1) (v := va_re ad (y176.2 a 0)) (C := RX1) (T := TX1) (N := 22) hx hb hts (mus hf_X1) hown hK hP a (wld_o ct ad G y176 hc hk (by decide)) rfl 0 (by decide) (hts (.fieldLink RX1 12 "VideoSuite$Decoder" "reader" "LVideoSuite$Reader;") (mu mw_640)) (fun _ h9 => h9) rfl dX1_readData_197 ?_
                        refine lv_iconst (v := (0 : Int32)) hx hb dX1_readData_200 (by decide) ?_
                        refine lv_iconst (v := (0 : Int32)) hx hb dX1_readData_201 (by decide) ?_
                        obtain ⟨b227, ho227, hc227, hk227, hF⟩ := dr_some hF
                        refine W_st (st' := [.int (0 : Int32), .int (0 : Int32), .ref (ad b227)]) (by rw [va_some ho227]) ?_
                        obtain ⟨y228, hy228, hF⟩ := bnd_some hF
                        have hf9 := wA_in hD hA9 hS
                        refine va_calli (va_runV (As := [.int (0 : Int32), .int (0 : Int32)]) (rest := []) ⟨hx, hb, hml, hown, hts⟩ (kX5_bit l D ct ad Z G y176 H.size b227 ((0 : Int32)) ((0 : Int32)) y228 hc227 hk227 hy228) (cwV 2 hts gX1_readData_X5_bit rfl rfl rfl (by decide +kernel) ⟨Nat.le_of_ble_eq_true rfl, Nat.le_of_ble_eq_true rfl⟩) ⟨fun a U g mk q => by obtain ⟨q0, q1, qP, qK, qD, qZ, qN⟩ := q; exact ⟨q0, q1, qP, va_K.moved (u := U) (U := U.calling g mk a) (Vm.Alike.refl U.vm) qK, qD, sF.moved (u := U) (U := U.calling g mk a) (Vm.Alike.refl U.vm) qZ, nF.same rfl qN⟩, va_recv hK hP (ci := 5) (q0 := b227) rfl (wld_o ct ad G y176 hc227 hk227 (by decide)), fun U hU hW => ⟨rfl, by rw [hU], by rw [hU]; exact hP, va_K.moved hW.alike hK, hD.weaken (fun _ _ _ _ => trivial), by rw [hU]; exact ((hZ.kept hS.2.1).narrow hf9).moved hW.alike, hN.warm hW⟩⟩ rfl rfl hl.1 rfl (lv_room (Nat.le_of_ble_eq_true rfl)) dX1_readData_202 ⟨(Nat.zero_le _), (Nat.zero_le _)⟩) hS (fun q _ h => hf9 q h) hf9 (fun r u t H locs ht hvm hw hB hz1 hk1 hS => ?_)
                        obtain ⟨hP, hK9, hD9⟩ := hB
                        rw [ht] at hP
                        try dsimp only at hw
                        subst hw
                        have hD := hD9.weaken (fun _ q _ h => hf9 q.1 h)
                        refine lv_iconst (v := (1 : Int32)) hx hb dX1_readData_205 (by decide) ?_
                        obtain ⟨y229, hy229, hF⟩ := bnd_some hF
                        have J229 : ∀ (H : Heap) (locs : List Loc) (ls : Array Slot), va_P D classes (wld ct ad G y229) H → va_D A (wld ct ad G y229) → va_S A s.heap H locs → lv_has ls 9 [(8, .int y172.2.1), (7, .int y171.2), (6, .int s17.2.1), (5, .int y172.1), (4, .int y11.2), (3, .int y9), (2, .int y5), (1, va_re ad (M.2 b2 0)), (0, .ref (ad a))] → W p l e (headSpec wuX1_readData ({ frames := 6, cells := 0, slots := 0, locals := 166 })).room s m ([.ref (ad a)] : List Value).toArray below meth c H locs 0 0 (MQ below (va_Qv (fun (_ : Unit) => True) (fun _ t => kE D ct ad G A y t) A) ([.ref (ad a)] : List Value).toArray s 0 0 A) (F0 m 297 ls []) := by
                          intro H locs ls hP hD hS hl
                          obtain rfl := Option.some.inj hF
                          exact J208 _ _ _ hP hD hS (lv_sub hl [0, 1, 2, 3, 4, 5, 6, 7, 8] rfl)
                        clear hF
                        have hF := hy229
                        clear hy229
                        refine lv_icmp_ne (tgt := 218) hx hb dX1_readData_206 (by decide) (fun c230 => ?_) (fun c230 => ?_)
                        · rw [if_neg c230] at hF
                          refine lv_aload_n hx hb dX1_readData_218 rfl (lv_at hl 8 rfl) ?_
                          refine lv_iload hx hb dX1_readData_219 (lv_at hl 3 rfl) ?_
                          obtain ⟨y231, hy231, hF⟩ := bnd_some hF
                          have hf9 := wA_in hD hA9 hS
                          refine va_callv (va_runV (As := [.int y172.1]) (rest := []) ⟨hx, hb, hml, hown, hts⟩ (kX1_readBlock l D ct ad Z G y228.1 H.size a y172.1 y231 hc hk hy231) (cwV 1 hts gX1_readData_X1_readBlock rfl rfl rfl (by decide +kernel) ⟨Nat.le_of_ble_eq_true rfl, Nat.le_of_ble_eq_true rfl⟩) ⟨fun a U g mk q => by obtain ⟨q0, q1, qP, qK, qD, qZ, qN⟩ := q; exact ⟨q0, q1, qP, va_K.moved (u := U) (U := U.calling g mk a) (Vm.Alike.refl U.vm) qK, qD, sF.moved (u := U) (U := U.calling g mk a) (Vm.Alike.refl U.vm) qZ, nF.same rfl qN⟩, va_recv hK hP (ci := 1) (q0 := a) rfl (wld_o ct ad G y228.1 hc hk (by decide)), fun U hU hW => ⟨rfl, by rw [hU], by rw [hU]; exact hP, va_K.moved hW.alike hK, hD.weaken (fun _ _ _ _ => trivial), by rw [hU]; exact ((hZ.kept hS.2.1).narrow hf9).moved hW.alike, hN.warm hW⟩⟩ rfl rfl hl.1 rfl (lv_room (Nat.le_of_ble_eq_true rfl)) dX1_readData_221 ⟨(Nat.zero_le _), (Nat.zero_le _)⟩) hS (fun q _ h => hf9 q h) hf9 (fun u t H locs ht hvm hw hB hz1 hk1 hS => ?_)
                          obtain ⟨hP, hK9, hD9⟩ := hB
                          rw [ht] at hP
                          have hD := hD9.weaken (fun _ q _ h => hf9 q.1 h)
                          refine lv_aload_n hx hb dX1_readData_224 rfl (lv_at hl 8 rfl) ?_
                          refine va_get (D := D) (ci := 1) (v := va_re ad (y231.2 a 2)) (C := RX1) (T := TX1) (N := 22) hx hb hts (mus hf_X1) hown hK hP a (wld_o ct ad G y231 hc hk (by decide)) rfl 2 (by decide) (hts (.fieldLink RX1 28 "VideoSuite$Decoder" "work" "LVideoSuite$Work;") (mu mw_644)) (fun _ h9 => h9) rfl dX1_readData_225 ?_
                          obtain ⟨b232, ho232, hc232, hk232, hF⟩ := dr_some hF
                          refine W_st (st' := [.ref (ad b232)]) (by rw [va_some ho232]) ?_
                          refine va_get (D := D) (ci := 9) (v := va_re ad (y231.2 b232 6)) (C := RX9) (T := TX9) (N := 20) hx hb hts (mus hf_X9) hown hK hP b232 (wld_o ct ad G y231 hc232 hk232 (by decide)) rfl 6 (by decide) (hts (.fieldLink RX1 355 "VideoSuite$Work" "info" "[I") (mu mw_444)) (fun _ h9 => h9) rfl dX1_readData_228 ?_
                          refine lv_bipush (v := (8 : Int32)) hx hb dX1_readData_231 (by decide) ?_
                          refine lv_iload hx hb dX1_readData_233 (lv_at hl 3 rfl) ?_
                          refine lv_imul hx hb dX1_readData_235 ?_
                          obtain ⟨x233, ex233, hF⟩ := ltt_some hF
                          refine lv_topi (fun zx233 ezx233 => ?_)
                          obtain rfl : x233 = zx233 := ex233.trans ezx233.symm
                          refine lv_iconst (v := (0 : Int32)) hx hb dX1_readData_236 (by decide) ?_
                          refine lv_iadd hx hb dX1_readData_237 ?_
                          obtain ⟨x234, ex234, hF⟩ := ltt_some hF
                          refine lv_topi (fun zx234 ezx234 => ?_)
                          obtain rfl : x234 = zx234 := ex234.trans ezx234.symm
                          obtain ⟨b235, ho235, hc235, hk235, hF⟩ := dr_some hF
                          refine W_st (st' := [.int x234, .ref (ad b235)]) (by rw [va_some ho235]) ?_
                          obtain ⟨hvc, hF⟩ := chk_some hF
                          refine va_iald hx hb hK hP b235 1 (wld_i ct ad G y231 hc235 hk235) rfl hvc dX1_readData_238 ?_
                          obtain ⟨x236, ex236, hF⟩ := ltt_some hF
                          refine lv_topi (fun zx236 ezx236 => ?_)
                          obtain rfl : x236 = zx236 := ex236.trans ezx236.symm
                          refine lv_iconst (v := (2 : Int32)) hx hb dX1_readData_239 (by decide) ?_
                          obtain ⟨y237, hy237, hF⟩ := bnd_some hF
                          have J237 : ∀ (H : Heap) (locs : List Loc) (ls : Array Slot), va_P D classes (wld ct ad G y237) H → va_D A (wld ct ad G y237) → va_S A s.heap H locs → lv_has ls 9 [(8, .int y172.2.1), (7, .int y171.2), (6, .int s17.2.1), (5, .int y172.1), (4, .int y11.2), (3, .int y9), (2, .int y5), (1, va_re ad (M.2 b2 0)), (0, .ref (ad a))] → W p l e (headSpec wuX1_readData ({ frames := 6, cells := 0, slots := 0, locals := 166 })).room s m ([.ref (ad a)] : List Value).toArray below meth c H locs 0 0 (MQ below (va_Qv (fun (_ : Unit) => True) (fun _ t => kE D ct ad G A y t) A) ([.ref (ad a)] : List Value).toArray s 0 0 A) (F0 m 257 ls []) := by
                            intro H locs ls hP hD hS hl
                            refine lv_aload_n hx hb dX1_readData_257 rfl (lv_at hl 8 rfl) ?_
                            refine lv_iload hx hb dX1_readData_258 (lv_at hl 3 rfl) ?_
                            refine lv_iconst (v := (0 : Int32)) hx hb dX1_readData_260 (by decide) ?_
                            obtain ⟨y238, hy238, hF⟩ := bnd_some hF
                            have hf9 := wA_in hD hA9 hS
                            refine va_callv (va_runV (As := [.int y172.1, .int (0 : Int32)]) (rest := []) ⟨hx, hb, hml, hown, hts⟩ (kX1_readReferences l D ct ad Z G y237 H.size a y172.1 ((0 : Int32)) y238 hc hk hy238) (cwV 2 hts gX1_readData_X1_readReferences rfl rfl rfl (by decide +kernel) ⟨Nat.le_of_ble_eq_true rfl, Nat.le_of_ble_eq_true rfl⟩) ⟨fun a U g mk q => by obtain ⟨q0, q1, qP, qK, qD, qZ, qN⟩ := q; exact ⟨q0, q1, qP, va_K.moved (u := U) (U := U.calling g mk a) (Vm.Alike.refl U.vm) qK, qD, sF.moved (u := U) (U := U.calling g mk a) (Vm.Alike.refl U.vm) qZ, nF.same rfl qN⟩, va_recv hK hP (ci := 1) (q0 := a) rfl (wld_o ct ad G y237 hc hk (by decide)), fun U hU hW => ⟨rfl, by rw [hU], by rw [hU]; exact hP, va_K.moved hW.alike hK, hD.weaken (fun _ _ _ _ => trivial), by rw [hU]; exact ((hZ.kept hS.2.1).narrow hf9).moved hW.alike, hN.warm hW⟩⟩ rfl rfl hl.1 rfl (lv_room (Nat.le_of_ble_eq_true rfl)) dX1_readData_261 ⟨(Nat.zero_le _), (Nat.zero_le _)⟩) hS (fun q _ h => hf9 q h) hf9 (fun u t H locs ht hvm hw hB hz1 hk1 hS => ?_)
                            obtain ⟨hP, hK9, hD9⟩ := hB
                            rw [ht] at hP
                            have hD := hD9.weaken (fun _ q _ h => hf9 q.1 h)
                            refine lv_aload_n hx hb dX1_readData_264 rfl (lv_at hl 8 rfl) ?_
                            refine lv_iload hx hb dX1_readData_265 (lv_at hl 3 rfl) ?_
                            refine lv_iconst (v := (1 : Int32)) hx hb dX1_readData_267 (by decide) ?_
                            obtain ⟨y239, hy239, hF⟩ := bnd_some hF
                            have hf9 := wA_in hD hA9 hS
                            refine va_callv (va_runV (As := [.int y172.1, .int (1 : Int32)]) (rest := []) ⟨hx, hb, hml, hown, hts⟩ (kX1_readReferences l D ct ad Z G y238 H.size a y172.1 ((1 : Int32)) y239 hc hk hy239) (cwV 2 hts gX1_readData_X1_readReferences rfl rfl rfl (by decide +kernel) ⟨Nat.le_of_ble_eq_true rfl, Nat.le_of_ble_eq_true rfl⟩) ⟨fun a U g mk q => by obtain ⟨q0, q1, qP, qK, qD, qZ, qN⟩ := q; exact ⟨q0, q1, qP, va_K.moved (u := U) (U := U.calling g mk a) (Vm.Alike.refl U.vm) qK, qD, sF.moved (u := U) (U := U.calling g mk a) (Vm.Alike.refl U.vm) qZ, nF.same rfl qN⟩, va_recv hK hP (ci := 1) (q0 := a) rfl (wld_o ct ad G y238 hc hk (by decide)), fun U hU hW => ⟨rfl, by rw [hU], by rw [hU]; exact hP, va_K.moved hW.alike hK, hD.weaken (fun _ _ _ _ => trivial), by rw [hU]; exact ((hZ.kept hS.2.1).narrow hf9).moved hW.alike, hN.warm hW⟩⟩ rfl rfl hl.1 rfl (lv_room (Nat.le_of_ble_eq_true rfl)) dX1_readData_268 ⟨(Nat.zero_le _), (Nat.zero_le _)⟩) hS (fun q _ h => hf9 q h) hf9 (fun u t H locs ht hvm hw hB hz1 hk1 hS => ?_)
                            obtain ⟨hP, hK9, hD9⟩ := hB
                            rw [ht] at hP
                            have hD := hD9.weaken (fun _ q _ h => hf9 q.1 h)
                            refine lv_aload_n hx hb dX1_readData_271 rfl (lv_at hl 8 rfl) ?_
                            refine lv_iload hx hb dX1_readData_272 (lv_at hl 3 rfl) ?_
                            refine lv_iconst (v := (0 : Int32)) hx hb dX1_readData_274 (by decide) ?_
                            obtain ⟨y240, hy240, hF⟩ := bnd_some hF
                            have hf9 := wA_in hD hA9 hS
                            refine va_callv (va_runV (As := [.int y172.1, .int (0 : Int32)]) (rest := []) ⟨hx, hb, hml, hown, hts⟩ (kX1_readVectors l D ct ad Z G y239 H.size a y172.1 ((0 : Int32)) y240 hc hk hy240) (cwV 2 hts gX1_readData_X1_readVectors rfl rfl rfl (by decide +kernel) ⟨Nat.le_of_ble_eq_true rfl, Nat.le_of_ble_eq_true rfl⟩) ⟨fun a U g mk q => by obtain ⟨q0, q1, qP, qK, qD, qZ, qN⟩ := q; exact ⟨q0, q1, qP, va_K.moved (u := U) (U := U.calling g mk a) (Vm.Alike.refl U.vm) qK, qD, sF.moved (u := U) (U := U.calling g mk a) (Vm.Alike.refl U.vm) qZ, nF.same rfl qN⟩, va_recv hK hP (ci := 1) (q0 := a) rfl (wld_o ct ad G y239 hc hk (by decide)), fun U hU hW => ⟨rfl, by rw [hU], by rw [hU]; exact hP, va_K.moved hW.alike hK, hD.weaken (fun _ _ _ _ => trivial), by rw [hU]; exact ((hZ.kept hS.2.1).narrow hf9).moved hW.alike, hN.warm hW⟩⟩ rfl rfl hl.1 rfl (lv_room (Nat.le_of_ble_eq_true rfl)) dX1_readData_275 ⟨(Nat.zero_le _), (Nat.zero_le _)⟩) hS (fun q _ h => hf9 q h) hf9 (fun u t H locs ht hvm hw hB hz1 hk1 hS => ?_)
                            obtain ⟨hP, hK9, hD9⟩ := hB
                            rw [ht] at hP
                            have hD := hD9.weaken (fun _ q _ h => hf9 q.1 h)
                            refine lv_aload_n hx hb dX1_readData_278 rfl (lv_at hl 8 rfl) ?_
                            refine lv_iload hx hb dX1_readData_279 (lv_at hl 3 rfl) ?_
                            refine lv_iconst (v := (1 : Int32)) hx hb dX1_readData_281 (by decide) ?_
                            obtain ⟨y241, hy241, hF⟩ := bnd_some hF
                            have hf9 := wA_in hD hA9 hS
                            refine va_callv (va_runV (As := [.int y172.1, .int (1 : Int32)]) (rest := []) ⟨hx, hb, hml, hown, hts⟩ (kX1_readVectors l D ct ad Z G y240 H.size a y172.1 ((1 : Int32)) y241 hc hk hy241) (cwV 2 hts gX1_readData_X1_readVectors rfl rfl rfl (by decide +kernel) ⟨Nat.le_of_ble_eq_true rfl, Nat.le_of_ble_eq_true rfl⟩) ⟨fun a U g mk q => by obtain ⟨q0, q1, qP, qK, qD, qZ, qN⟩ := q; exact ⟨q0, q1, qP, va_K.moved (u := U) (U := U.calling g mk a) (Vm.Alike.refl U.vm) qK, qD, sF.moved (u := U) (U := U.calling g mk a) (Vm.Alike.refl U.vm) qZ, nF.same rfl qN⟩, va_recv hK hP (ci := 1) (q0 := a) rfl (wld_o ct ad G y240 hc hk (by decide)), fun U hU hW => ⟨rfl, by rw [hU], by rw [hU]; exact hP, va_K.moved hW.alike hK, hD.weaken (fun _ _ _ _ => trivial), by rw [hU]; exact ((hZ.kept hS.2.1).narrow hf9).moved hW.alike, hN.warm hW⟩⟩ rfl rfl hl.1 rfl (lv_room (Nat.le_of_ble_eq_true rfl)) dX1_readData_282 ⟨(Nat.zero_le _), (Nat.zero_le _)⟩) hS (fun q _ h => hf9 q h) hf9 (fun u t H locs ht hvm hw hB hz1 hk1 hS => ?_)
                            obtain ⟨hP, hK9, hD9⟩ := hB
                            rw [ht] at hP
                            have hD := hD9.weaken (fun _ q _ h => hf9 q.1 h)
                            refine lv_aload_n hx hb dX1_readData_285 rfl (lv_at hl 8 rfl) ?_
                            refine lv_iload hx hb dX1_readData_286 (lv_at hl 3 rfl) ?_
                            obtain ⟨y242, hy242, hF⟩ := bnd_some hF
                            have hf9 := wA_in hD hA9 hS
                            refine va_callv (va_runV (As := [.int y172.1]) (rest := []) ⟨hx, hb, hml, hown, hts⟩ (kX1_readPattern l D ct ad Z G y241 H.size a y172.1 y242 hc hk hy242) (cwV 1 hts gX1_readData_X1_readPattern rfl rfl rfl (by decide +kernel) ⟨Nat.le_of_ble_eq_true rfl, Nat.le_of_ble_eq_true rfl⟩) ⟨fun a U g mk q => by obtain ⟨q0, q1, qP, qK, qD, qZ, qN⟩ := q; exact ⟨q0, q1, qP, va_K.moved (u := U) (U := U.calling g mk a) (Vm.Alike.refl U.vm) qK, qD, sF.moved (u := U) (U := U.calling g mk a) (Vm.Alike.refl U.vm) qZ, nF.same rfl qN⟩, va_recv hK hP (ci := 1) (q0 := a) rfl (wld_o ct ad G y241 hc hk (by decide)), fun U hU hW => ⟨rfl, by rw [hU], by rw [hU]; exact hP, va_K.moved hW.alike hK, hD.weaken (fun _ _ _ _ => trivial), by rw [hU]; exact ((hZ.kept hS.2.1).narrow hf9).moved hW.alike, hN.warm hW⟩⟩ rfl rfl hl.1 rfl (lv_room (Nat.le_of_ble_eq_true rfl)) dX1_readData_288 ⟨(Nat.zero_le _), (Nat.zero_le _)⟩) hS (fun q _ h => hf9 q h) hf9 (fun u t H locs ht hvm hw hB hz1 hk1 hS => ?_)
                            obtain ⟨hP, hK9, hD9⟩ := hB
                            rw [ht] at hP
                            have hD := hD9.weaken (fun _ q _ h => hf9 q.1 h)
                            refine lv_aload_n hx hb dX1_readData_291 rfl (lv_at hl 8 rfl) ?_
                            refine lv_iload hx hb dX1_readData_292 (lv_at hl 3 rfl) ?_
                            obtain ⟨y243, hy243, hF⟩ := bnd_some hF
                            have hf9 := wA_in hD hA9 hS
                            refine va_callv (va_runV (As := [.int y172.1]) (rest := []) ⟨hx, hb, hml, hown, hts⟩ (kX1_readLevels l D ct ad Z G y242 H.size a y172.1 y243 hc hk hy243) (cwV 1 hts gX1_readData_X1_readLevels rfl rfl rfl (by decide +kernel) ⟨Nat.le_of_ble_eq_true rfl, Nat.le_of_ble_eq_true rfl⟩) ⟨fun a U g mk q => by obtain ⟨q0, q1, qP, qK, qD, qZ, qN⟩ := q; exact ⟨q0, q1, qP, va_K.moved (u := U) (U := U.calling g mk a) (Vm.Alike.refl U.vm) qK, qD, sF.moved (u := U) (U := U.calling g mk a) (Vm.Alike.refl U.vm) qZ, nF.same rfl qN⟩, va_recv hK hP (ci := 1) (q0 := a) rfl (wld_o ct ad G y242 hc hk (by decide)), fun U hU hW => ⟨rfl, by rw [hU], by rw [hU]; exact hP, va_K.moved hW.alike hK, hD.weaken (fun _ _ _ _ => trivial), by rw [hU]; exact ((hZ.kept hS.2.1).narrow hf9).moved hW.alike, hN.warm hW⟩⟩ rfl rfl hl.1 rfl (lv_room (Nat.le_of_ble_eq_true rfl)) dX1_readData_294 ⟨(Nat.zero_le _), (Nat.zero_le _)⟩) hS (fun q _ h => hf9 q h) hf9 (fun u t H locs ht hvm hw hB hz1 hk1 hS => ?_)
                            obtain ⟨hP, hK9, hD9⟩ := hB
                            rw [ht] at hP
                            have hD := hD9.weaken (fun _ q _ h => hf9 q.1 h)
                            obtain rfl := Option.some.inj hF
                            exact J229 _ _ _ hP hD hS (lv_sub hl [0, 1, 2, 3, 4, 5, 6, 7, 8] rfl)
                          clear hF
                          have hF := hy237
                          clear hy237
                          refine lv_icmp_ne (tgt := 257) hx hb dX1_readData_240 (by decide) (fun c244 => ?_) (fun c244 => ?_)
                          · rw [if_neg c244] at hF
                            obtain rfl := Option.some.inj hF
                            exact J237 _ _ _ hP hD hS (lv_sub hl [0, 1, 2, 3, 4, 5, 6, 7, 8] rfl)
                          · rw [if_pos c244] at hF
                            refine lv_aload_n hx hb dX1_readData_243 rfl (lv_at hl 8 rfl) ?_
                            refine va_get (D := D) (ci := 1) (v := va_re ad (y231.2 a 0)) (C := RX1) (T := TX1) (N := 22) hx hb hts (mus hf_X1) hown hK hP a (wld_o ct ad G y231 hc hk (by decide)) rfl 0 (by decide) (hts (.fieldLink RX1 12 "VideoSuite$Decoder" "reader" "LVideoSuite$Reader;") (mu mw_640)) (fun _ h9 => h9) rfl dX1_readData_244 ?_
                            refine lv_aload_n hx hb dX1_readData_247 rfl (lv_at hl 8 rfl) ?_
                            refine va_get (D := D) (ci := 1) (v := va_re ad (y231.2 a 3)) (C := RX1) (T := TX1) (N := 22) hx hb hts (mus hf_X1) hown hK hP a (wld_o ct ad G y231 hc hk (by decide)) rfl 3 (by decide) (hts (.fieldLink RX1 35 "VideoSuite$Decoder" "samples" "LVideoSuite$Samples;") (mu mw_645)) (fun _ h9 => h9) rfl dX1_readData_248 ?_
                            obtain ⟨b245, ho245, hc245, hk245, hF⟩ := dr_some hF
                            refine W_st (st' := [.ref (ad b245), va_re ad (y231.2 a 0)]) (by rw [va_some ho245]) ?_
                            refine va_get (D := D) (ci := 6) (v := va_re ad (y231.2 b245 0)) (C := RX6) (T := TX6) (N := 14) hx hb hts (mus hf_X6) hown hK hP b245 (wld_o ct ad G y231 hc245 hk245 (by decide)) rfl 0 (by decide) (hts (.fieldLink RX1 358 "VideoSuite$Samples" "guess" "[I") (mu mw_534)) (fun _ h9 => h9) rfl dX1_readData_251 ?_
                            obtain ⟨b246, ho246, hc246, hk246, hF⟩ := dr_some hF
                            refine W_st (st' := [va_re ad (y231.2 b245 0), .ref (ad b246)]) (by rw [va_some ho246]) ?_
                            obtain ⟨y247, hy247, hF⟩ := bnd_some hF
                            have hf9 := wA_in hD hA9 hS
                            refine va_callv (va_runV (As := [va_re ad (y231.2 b245 0)]) (rest := []) ⟨hx, hb, hml, hown, hts⟩ (kX5_rawSamples l D ct ad Z G y231 H.size b246 ((y231.2 b245 0)) y247 hc246 hk246 hy247) (cwV 1 hts gX1_readData_X5_rawSamples rfl rfl rfl (by decide +kernel) ⟨Nat.le_of_ble_eq_true rfl, Nat.le_of_ble_eq_true rfl⟩) ⟨fun a U g mk q => by obtain ⟨q0, q1, qP, qK, qD, qZ, qN⟩ := q; exact ⟨q0, q1, qP, va_K.moved (u := U) (U := U.calling g mk a) (Vm.Alike.refl U.vm) qK, qD, sF.moved (u := U) (U := U.calling g mk a) (Vm.Alike.refl U.vm) qZ, nF.same rfl qN⟩, va_recv hK hP (ci := 5) (q0 := b246) rfl (wld_o ct ad G y231 hc246 hk246 (by decide)), fun U hU hW => ⟨rfl, by rw [hU], by rw [hU]; exact hP, va_K.moved hW.alike hK, hD.weaken (fun _ _ _ _ => trivial), by rw [hU]; exact ((hZ.kept hS.2.1).narrow hf9).moved hW.alike, hN.warm hW⟩⟩ rfl rfl hl.1 rfl (lv_room (Nat.le_of_ble_eq_true rfl)) dX1_readData_254 ⟨(Nat.zero_le _), (Nat.zero_le _)⟩) hS (fun q _ h => hf9 q h) hf9 (fun u t H locs ht hvm hw hB hz1 hk1 hS => ?_)
                            obtain ⟨hP, hK9, hD9⟩ := hB
                            rw [ht] at hP
                            have hD := hD9.weaken (fun _ q _ h => hf9 q.1 h)
                            obtain rfl := Option.some.inj hF
                            exact J237 _ _ _ hP hD hS (lv_sub hl [0, 1, 2, 3, 4, 5, 6, 7, 8] rfl)
                        · rw [if_pos c230] at hF
                          refine lv_aload_n hx hb dX1_readData_209 rfl (lv_at hl 8 rfl) ?_
                          refine lv_iload hx hb dX1_readData_210 (lv_at hl 3 rfl) ?_
                          obtain ⟨y248, hy248, hF⟩ := bnd_some hF
                          have hf9 := wA_in hD hA9 hS
                          refine va_callv (va_runV (As := [.int y172.1]) (rest := []) ⟨hx, hb, hml, hown, hts⟩ (kX1_readSkipped l D ct ad Z G y228.1 H.size a y172.1 y248 hc hk hy248) (cwV 1 hts gX1_readData_X1_readSkipped rfl rfl rfl (by decide +kernel) ⟨Nat.le_of_ble_eq_true rfl, Nat.le_of_ble_eq_true rfl⟩) ⟨fun a U g mk q => by obtain ⟨q0, q1, qP, qK, qD, qZ, qN⟩ := q; exact ⟨q0, q1, qP, va_K.moved (u := U) (U := U.calling g mk a) (Vm.Alike.refl U.vm) qK, qD, sF.moved (u := U) (U := U.calling g mk a) (Vm.Alike.refl U.vm) qZ, nF.same rfl qN⟩, va_recv hK hP (ci := 1) (q0 := a) rfl (wld_o ct ad G y228.1 hc hk (by decide)), fun U hU hW => ⟨rfl, by rw [hU], by rw [hU]; exact hP, va_K.moved hW.alike hK, hD.weaken (fun _ _ _ _ => trivial), by rw [hU]; exact ((hZ.kept hS.2.1).narrow hf9).moved hW.alike, hN.warm hW⟩⟩ rfl rfl hl.1 rfl (lv_room (Nat.le_of_ble_eq_true rfl)) dX1_readData_212 ⟨(Nat.zero_le _), (Nat.zero_le _)⟩) hS (fun q _ h => hf9 q h) hf9 (fun u t H locs ht hvm hw hB hz1 hk1 hS => ?_)
                          obtain ⟨hP, hK9, hD9⟩ := hB
                          rw [ht] at hP
                          have hD := hD9.weaken (fun _ q _ h => hf9 q.1 h)
                          refine lv_goto (tgt := 297) hx hb dX1_readData_215 (by decide) ?_
                          obtain rfl := Option.some.inj hF
                          exact J229 _ _ _ hP hD hS (lv_sub hl [0, 1, 2, 3, 4, 5, 6, 7, 8] rfl)
                  · rw [if_neg c175] at hF
                    refine lv_aload_n hx hb dX1_readData_171 rfl (lv_at hl 8 rfl) ?_
                    refine va_get (D := D) (ci := 1) (v := va_re ad (y172.2.2.2 a 0)) (C := RX1) (T := TX1) (N := 22) hx hb hts (mus hf_X1) hown hK hP a (wld_o ct ad G y172.2.2 hc hk (by decide)) rfl 0 (by decide) (hts (.fieldLink RX1 12 "VideoSuite$Decoder" "reader" "LVideoSuite$Reader;") (mu mw_640)) (fun _ h9 => h9) rfl dX1_readData_172 ?_
                    obtain ⟨b249, ho249, hc249, hk249, hF⟩ := dr_some hF
                    refine W_st (st' := [.ref (ad b249)]) (by rw [va_some ho249]) ?_
                    obtain ⟨y250, hy250, hF⟩ := bnd_some hF
                    have hf9 := wA_in hD hA9 hS
                    refine va_calli (va_runV (As := []) (rest := []) ⟨hx, hb, hml, hown, hts⟩ (kX5_more l D ct ad Z G y172.2.2 H.size b249 y250 hc249 hk249 hy250) (cwV 0 hts gX1_readData_X5_more rfl rfl rfl (by decide +kernel) ⟨Nat.le_of_ble_eq_true rfl, Nat.le_of_ble_eq_true rfl⟩) ⟨fun a U g mk q => by obtain ⟨q0, q1, qP, qK, qD, qZ, qN⟩ := q; exact ⟨q0, q1, qP, va_K.moved (u := U) (U := U.calling g mk a) (Vm.Alike.refl U.vm) qK, qD, sF.moved (u := U) (U := U.calling g mk a) (Vm.Alike.refl U.vm) qZ, nF.same rfl qN⟩, va_recv hK hP (ci := 5) (q0 := b249) rfl (wld_o ct ad G y172.2.2 hc249 hk249 (by decide)), fun U hU hW => ⟨rfl, by rw [hU], by rw [hU]; exact hP, va_K.moved hW.alike hK, hD.weaken (fun _ _ _ _ => trivial), by rw [hU]; exact ((hZ.kept hS.2.1).narrow hf9).moved hW.alike, hN.warm hW⟩⟩ rfl rfl hl.1 rfl (lv_room (Nat.le_of_ble_eq_true rfl)) dX1_readData_175 ⟨(Nat.zero_le _), (Nat.zero_le _)⟩) hS (fun q _ h => hf9 q h) hf9 (fun r u t H locs ht hvm hw hB hz1 hk1 hS => ?_)
                    obtain ⟨hP, hK9, hD9⟩ := hB
                    rw [ht] at hP
                    try dsimp only at hw
                    subst hw
                    have hD := hD9.weaken (fun _ q _ h => hf9 q.1 h)
                    refine lv_if_ne (tgt := 182) hx hb dX1_readData_178 (by decide) (fun c251 => ?_) (fun c251 => ?_)
                    · rw [if_neg c251] at hF
                      refine lv_aload_n hx hb dX1_readData_182 rfl (lv_at hl 8 rfl) ?_
                      refine lv_iload hx hb dX1_readData_183 (lv_at hl 3 rfl) ?_
                      obtain ⟨y252, hy252, hF⟩ := bnd_some hF
                      have hf9 := wA_in hD hA9 hS
                      refine va_callv (va_runV (As := [.int y172.1]) (rest := []) ⟨hx, hb, hml, hown, hts⟩ (kX1_claim l D ct ad Z G y250.1 H.size a y172.1 y252 hc hk hy252) (cwV 1 hts gX1_readData_X1_claim rfl rfl rfl (by decide +kernel) ⟨Nat.le_of_ble_eq_true rfl, Nat.le_of_ble_eq_true rfl⟩) ⟨fun a U g mk q => by obtain ⟨q0, q1, qP, qK, qD, qZ, qN⟩ := q; exact ⟨q0, q1, qP, va_K.moved (u := U) (U := U.calling g mk a) (Vm.Alike.refl U.vm) qK, qD, sF.moved (u := U) (U := U.calling g mk a) (Vm.Alike.refl U.vm) qZ, nF.same rfl qN⟩, va_recv hK hP (ci := 1) (q0 := a) rfl (wld_o ct ad G y250.1 hc hk (by decide)), fun U hU hW => ⟨rfl, by rw [hU], by rw [hU]; exact hP, va_K.moved hW.alike hK, hD.weaken (fun _ _ _ _ => trivial), by rw [hU]; exact ((hZ.kept hS.2.1).narrow hf9).moved hW.alike, hN.warm hW⟩⟩ rfl rfl hl.1 rfl (lv_room (Nat.le_of_ble_eq_true rfl)) dX1_readData_185 ⟨(Nat.zero_le _), (Nat.zero_le _)⟩) hS (fun q _ h => hf9 q h) hf9 (fun u t H locs ht hvm hw hB hz1 hk1 hS => ?_)
                      obtain ⟨hP, hK9, hD9⟩ := hB
                      rw [ht] at hP
                      have hD := hD9.weaken (fun _ q _ h => hf9 q.1 h)
                      refine lv_iload_n hx hb dX1_readData_188 rfl (lv_at hl 5 rfl) ?_
                      obtain ⟨y253, hy253, hF⟩ := bnd_some hF
                      have J253 : ∀ (H : Heap) (locs : List Loc) (ls : Array Slot), va_P D classes (wld ct ad G y253) H → va_D A (wld ct ad G y253) → va_S A s.heap H locs → lv_has ls 9 [(8, .int y172.2.1), (7, .int y171.2), (6, .int s17.2.1), (5, .int y172.1), (4, .int y11.2), (3, .int y9), (2, .int y5), (1, va_re ad (M.2 b2 0)), (0, .ref (ad a))] → W p l e (headSpec wuX1_readData ({ frames := 6, cells := 0, slots := 0, locals := 166 })).room s m ([.ref (ad a)] : List Value).toArray below meth c H locs 0 0 (MQ below (va_Qv (fun (_ : Unit) => True) (fun _ t => kE D ct ad G A y t) A) ([.ref (ad a)] : List Value).toArray s 0 0 A) (F0 m 297 ls []) := by
                        intro H locs ls hP hD hS hl
                        refine lv_aload_n hx hb dX1_readData_297 rfl (lv_at hl 8 rfl) ?_
                        refine lv_iload hx hb dX1_readData_298 (lv_at hl 3 rfl) ?_
                        obtain ⟨y254, hy254, hF⟩ := bnd_some hF
                        have hf9 := wA_in hD hA9 hS
                        refine va_callv (va_runV (As := [.int y172.1]) (rest := []) ⟨hx, hb, hml, hown, hts⟩ (kX1_rebuild l D ct ad Z G y253 H.size a y172.1 y254 hc hk hy254) (cwV 1 hts gX1_readData_X1_rebuild rfl rfl rfl (by decide +kernel) ⟨Nat.le_of_ble_eq_true rfl, Nat.le_of_ble_eq_true rfl⟩) ⟨fun a U g mk q => by obtain ⟨q0, q1, qP, qK, qD, qZ, qN⟩ := q; exact ⟨q0, q1, qP, va_K.moved (u := U) (U := U.calling g mk a) (Vm.Alike.refl U.vm) qK, qD, sF.moved (u := U) (U := U.calling g mk a) (Vm.Alike.refl U.vm) qZ, nF.same rfl qN⟩, va_recv hK hP (ci := 1) (q0 := a) rfl (wld_o ct ad G y253 hc hk (by decide)), fun U hU hW => ⟨rfl, by rw [hU], by rw [hU]; exact hP, va_K.moved hW.alike hK, hD.weaken (fun _ _ _ _ => trivial), by rw [hU]; exact ((hZ.kept hS.2.1).narrow hf9).moved hW.alike, hN.warm hW⟩⟩ rfl rfl hl.1 rfl (lv_room (Nat.le_of_ble_eq_true rfl)) dX1_readData_300 ⟨(Nat.zero_le _), (Nat.zero_le _)⟩) hS (fun q _ h => hf9 q h) hf9 (fun u t H locs ht hvm hw hB hz1 hk1 hS => ?_)
                        obtain ⟨hP, hK9, hD9⟩ := hB
                        rw [ht] at hP
                        have hD := hD9.weaken (fun _ q _ h => hf9 q.1 h)
                        refine lv_aload_n hx hb dX1_readData_303 rfl (lv_at hl 8 rfl) ?_
                        refine lv_iload hx hb dX1_readData_304 (lv_at hl 3 rfl) ?_
                        obtain ⟨y255, hy255, hF⟩ := bnd_some hF
                        have hf9 := wA_in hD hA9 hS
                        refine va_callv (va_runV (As := [.int y172.1]) (rest := []) ⟨hx, hb, hml, hown, hts⟩ (kX1_endBlock l D ct ad Z G y254 H.size a y172.1 y255 hc hk hy255) (cwV 1 hts gX1_readData_X1_endBlock rfl rfl rfl (by decide +kernel) ⟨Nat.le_of_ble_eq_true rfl, Nat.le_of_ble_eq_true rfl⟩) ⟨fun a U g mk q => by obtain ⟨q0, q1, qP, qK, qD, qZ, qN⟩ := q; exact ⟨q0, q1, qP, va_K.moved (u := U) (U := U.calling g mk a) (Vm.Alike.refl U.vm) qK, qD, sF.moved (u := U) (U := U.calling g mk a) (Vm.Alike.refl U.vm) qZ, nF.same rfl qN⟩, va_recv hK hP (ci := 1) (q0 := a) rfl (wld_o ct ad G y254 hc hk (by decide)), fun U hU hW => ⟨rfl, by rw [hU], by rw [hU]; exact hP, va_K.moved hW.alike hK, hD.weaken (fun _ _ _ _ => trivial), by rw [hU]; exact ((hZ.kept hS.2.1).narrow hf9).moved hW.alike, hN.warm hW⟩⟩ rfl rfl hl.1 rfl (lv_room (Nat.le_of_ble_eq_true rfl)) dX1_readData_306 ⟨(Nat.zero_le _), (Nat.zero_le _)⟩) hS (fun q _ h => hf9 q h) hf9 (fun u t H locs ht hvm hw hB hz1 hk1 hS => ?_)
                        obtain ⟨hP, hK9, hD9⟩ := hB
                        rw [ht] at hP
                        have hD := hD9.weaken (fun _ q _ h => hf9 q.1 h)
                        obtain ⟨x256, ex256, hF⟩ := ltt_some hF
                        refine lv_iinc (v := x256) (lv' := [(5, .int x256), (8, .int y172.2.1), (7, .int y171.2), (6, .int s17.2.1), (4, .int y11.2), (3, .int y9), (2, .int y5), (1, va_re ad (M.2 b2 0)), (0, .ref (ad a))]) hx hb dX1_readData_309 hl (k := 3) rfl (by rw [ex256]; rfl) (by decide) rfl (fun ls hl => ?_)
                        refine lv_iload_n hx hb dX1_readData_312 rfl (lv_at hl 5 rfl) ?_
                        refine lv_if_eq (tgt := 329) hx hb dX1_readData_313 (by decide) (fun c257 => ?_) (fun c257 => ?_)
                        · rw [if_pos c257] at hF
                          refine lv_aload_n hx hb dX1_readData_329 rfl (lv_at hl 8 rfl) ?_
                          refine va_get (D := D) (ci := 1) (v := va_re ad (y255.2 a 0)) (C := RX1) (T := TX1) (N := 22) hx hb hts (mus hf_X1) hown hK hP a (wld_o ct ad G y255 hc hk (by decide)) rfl 0 (by decide) (hts (.fieldLink RX1 12 "VideoSuite$Decoder" "reader" "LVideoSuite$Reader;") (mu mw_640)) (fun _ h9 => h9) rfl dX1_readData_330 ?_
                          obtain ⟨b258, ho258, hc258, hk258, hF⟩ := dr_some hF
                          refine W_st (st' := [.ref (ad b258)]) (by rw [va_some ho258]) ?_
                          obtain ⟨y259, hy259, hF⟩ := bnd_some hF
                          have hf9 := wA_in hD hA9 hS
                          refine va_calli (va_runV (As := []) (rest := []) ⟨hx, hb, hml, hown, hts⟩ (kX5_more l D ct ad Z G y255 H.size b258 y259 hc258 hk258 hy259) (cwV 0 hts gX1_readData_X5_more rfl rfl rfl (by decide +kernel) ⟨Nat.le_of_ble_eq_true rfl, Nat.le_of_ble_eq_true rfl⟩) ⟨fun a U g mk q => by obtain ⟨q0, q1, qP, qK, qD, qZ, qN⟩ := q; exact ⟨q0, q1, qP, va_K.moved (u := U) (U := U.calling g mk a) (Vm.Alike.refl U.vm) qK, qD, sF.moved (u := U) (U := U.calling g mk a) (Vm.Alike.refl U.vm) qZ, nF.same rfl qN⟩, va_recv hK hP (ci := 5) (q0 := b258) rfl (wld_o ct ad G y255 hc258 hk258 (by decide)), fun U hU hW => ⟨rfl, by rw [hU], by rw [hU]; exact hP, va_K.moved hW.alike hK, hD.weaken (fun _ _ _ _ => trivial), by rw [hU]; exact ((hZ.kept hS.2.1).narrow hf9).moved hW.alike, hN.warm hW⟩⟩ rfl rfl hl.1 rfl (lv_room (Nat.le_of_ble_eq_true rfl)) dX1_readData_333 ⟨(Nat.zero_le _), (Nat.zero_le _)⟩) hS (fun q _ h => hf9 q h) hf9 (fun r u t H locs ht hvm hw hB hz1 hk1 hS => ?_)
                          obtain ⟨hP, hK9, hD9⟩ := hB
                          rw [ht] at hP
                          try dsimp only at hw
                          subst hw
                          have hD := hD9.weaken (fun _ q _ h => hf9 q.1 h)
                          refine lv_if_ne (tgt := 340) hx hb dX1_readData_336 (by decide) (fun c260 => ?_) (fun c260 => ?_)
                          · rw [if_neg c260] at hF
                            obtain ⟨x261, ex261, hF⟩ := ltt_some hF
                            refine lv_iinc (v := x261) (lv' := [(6, .int x261), (5, .int x256), (8, .int y172.2.1), (7, .int y171.2), (4, .int y11.2), (3, .int y9), (2, .int y5), (1, va_re ad (M.2 b2 0)), (0, .ref (ad a))]) hx hb dX1_readData_340 hl (k := 3) rfl (by rw [ex261]; rfl) (by decide) rfl (fun ls hl => ?_)
                            refine lv_goto (tgt := 79) hx hb dX1_readData_343 (by decide) ?_
                            obtain rfl := Option.some.inj hF
                            exact hwz19 _ _ _ hP hD hS (lv_sub hl [0, 1, 4, 5, 6, 7, 8] rfl)
                          · rw [if_pos c260] at hF
                            obtain rfl := Option.some.inj hF
                            have hF := sel_inr (hwz19 ▸ hR16)
                            obtain rfl := Option.some.inj hF
                            exact W.vret hx hb hr (fun t ht hW => ⟨⟨(), rfl, trivial, ⟨by rw [ht]; exact hP, va_K.moved hW.alike hK, hD⟩⟩, hS.F ht⟩) hS.2.2 dX1_readData_339
                        · rw [if_neg c257] at hF
                          refine lv_aload_n hx hb dX1_readData_316 rfl (lv_at hl 8 rfl) ?_
                          refine va_get (D := D) (ci := 1) (v := va_re ad (y255.2 a 0)) (C := RX1) (T := TX1) (N := 22) hx hb hts (mus hf_X1) hown hK hP a (wld_o ct ad G y255 hc hk (by decide)) rfl 0 (by decide) (hts (.fieldLink RX1 12 "VideoSuite$Decoder" "reader" "LVideoSuite$Reader;") (mu mw_640)) (fun _ h9 => h9) rfl dX1_readData_317 ?_
                          obtain ⟨b262, ho262, hc262, hk262, hF⟩ := dr_some hF
                          refine W_st (st' := [.ref (ad b262)]) (by rw [va_some ho262]) ?_
                          obtain ⟨y263, hy263, hF⟩ := bnd_some hF
                          have hf9 := wA_in hD hA9 hS
                          refine va_calli (va_runV (As := []) (rest := []) ⟨hx, hb, hml, hown, hts⟩ (kX5_isLast l D ct ad Z G y255 H.size b262 y263 hc262 hk262 hy263) (cwV 0 hts gX1_readData_X5_isLast rfl rfl rfl (by decide +kernel) ⟨Nat.le_of_ble_eq_true rfl, Nat.le_of_ble_eq_true rfl⟩) ⟨fun a U g mk q => by obtain ⟨q0, q1, qP, qK, qD, qZ, qN⟩ := q; exact ⟨q0, q1, qP, va_K.moved (u := U) (U := U.calling g mk a) (Vm.Alike.refl U.vm) qK, qD, sF.moved (u := U) (U := U.calling g mk a) (Vm.Alike.refl U.vm) qZ, nF.same rfl qN⟩, va_recv hK hP (ci := 5) (q0 := b262) rfl (wld_o ct ad G y255 hc262 hk262 (by decide)), fun U hU hW => ⟨rfl, by rw [hU], by rw [hU]; exact hP, va_K.moved hW.alike hK, hD.weaken (fun _ _ _ _ => trivial), by rw [hU]; exact ((hZ.kept hS.2.1).narrow hf9).moved hW.alike, hN.warm hW⟩⟩ rfl rfl hl.1 rfl (lv_room (Nat.le_of_ble_eq_true rfl)) dX1_readData_320 ⟨(Nat.zero_le _), (Nat.zero_le _)⟩) hS (fun q _ h => hf9 q h) hf9 (fun r u t H locs ht hvm hw hB hz1 hk1 hS => ?_)
                          obtain ⟨hP, hK9, hD9⟩ := hB
                          rw [ht] at hP
                          try dsimp only at hw
                          subst hw
                          have hD := hD9.weaken (fun _ q _ h => hf9 q.1 h)
                          refine lv_if_eq (tgt := 340) hx hb dX1_readData_323 (by decide) (fun c264 => ?_) (fun c264 => ?_)
                          · rw [if_pos c264] at hF
                            obtain ⟨x265, ex265, hF⟩ := ltt_some hF
                            refine lv_iinc (v := x265) (lv' := [(6, .int x265), (5, .int x256), (8, .int y172.2.1), (7, .int y171.2), (4, .int y11.2), (3, .int y9), (2, .int y5), (1, va_re ad (M.2 b2 0)), (0, .ref (ad a))]) hx hb dX1_readData_340 hl (k := 3) rfl (by rw [ex265]; rfl) (by decide) rfl (fun ls hl => ?_)
                            refine lv_goto (tgt := 79) hx hb dX1_readData_343 (by decide) ?_
                            obtain rfl := Option.some.inj hF
                            exact hwz19 _ _ _ hP hD hS (lv_sub hl [0, 1, 4, 5, 6, 7, 8] rfl)
                          · rw [if_neg c264] at hF
                            refine lv_goto (tgt := 339) hx hb dX1_readData_326 (by decide) ?_
                            obtain rfl := Option.some.inj hF
                            have hF := sel_inr (hwz19 ▸ hR16)
                            obtain rfl := Option.some.inj hF
                            exact W.vret hx hb hr (fun t ht hW => ⟨⟨(), rfl, trivial, ⟨by rw [ht]; exact hP, va_K.moved hW.alike hK, hD⟩⟩, hS.F ht⟩) hS.2.2 dX1_readData_339
                      clear hF
                      have hF := hy253
                      clear hy253
                      refine lv_if_eq (tgt := 218) hx hb dX1_readData_189 (by decide) (fun c266 => ?_) (fun c266 => ?_)
                      · rw [if_pos c266] at hF
                        refine lv_aload_n hx hb dX1_readData_218 rfl (lv_at hl 8 rfl) ?_
                        refine lv_iload hx hb dX1_readData_219 (lv_at hl 3 rfl) ?_
                        obtain ⟨y267, hy267, hF⟩ := bnd_some hF
                        have hf9 := wA_in hD hA9 hS
                        refine va_callv (va_runV (As := [.int y172.1]) (rest := []) ⟨hx, hb, hml, hown, hts⟩ (kX1_readBlock l D ct ad Z G y252 H.size a y172.1 y267 hc hk hy267) (cwV 1 hts gX1_readData_X1_readBlock rfl rfl rfl (by decide +kernel) ⟨Nat.le_of_ble_eq_true rfl, Nat.le_of_ble_eq_true rfl⟩) ⟨fun a U g mk q => by obtain ⟨q0, q1, qP, qK, qD, qZ, qN⟩ := q; exact ⟨q0, q1, qP, va_K.moved (u := U) (U := U.calling g mk a) (Vm.Alike.refl U.vm) qK, qD, sF.moved (u := U) (U := U.calling g mk a) (Vm.Alike.refl U.vm) qZ, nF.same rfl qN⟩, va_recv hK hP (ci := 1) (q0 := a) rfl (wld_o ct ad G y252 hc hk (by decide)), fun U hU hW => ⟨rfl, by rw [hU], by rw [hU]; exact hP, va_K.moved hW.alike hK, hD.weaken (fun _ _ _ _ => trivial), by rw [hU]; exact ((hZ.kept hS.2.1).narrow hf9).moved hW.alike, hN.warm hW⟩⟩ rfl rfl hl.1 rfl (lv_room (Nat.le_of_ble_eq_true rfl)) dX1_readData_221 ⟨(Nat.zero_le _), (Nat.zero_le _)⟩) hS (fun q _ h => hf9 q h) hf9 (fun u t H locs ht hvm hw hB hz1 hk1 hS => ?_)
                        obtain ⟨hP, hK9, hD9⟩ := hB
                        rw [ht] at hP
                        have hD := hD9.weaken (fun _ q _ h => hf9 q.1 h)
                        refine lv_aload_n hx hb dX1_readData_224 rfl (lv_at hl 8 rfl) ?_
                        refine va_get (D := D) (ci := 1) (v := va_re ad (y267.2 a 2)) (C := RX1) (T := TX1) (N := 22) hx hb hts (mus hf_X1) hown hK hP a (wld_o ct ad G y267 hc hk (by decide)) rfl 2 (by decide) (hts (.fieldLink RX1 28 "VideoSuite$Decoder" "work" "LVideoSuite$Work;") (mu mw_644)) (fun _ h9 => h9) rfl dX1_readData_225 ?_
                        obtain ⟨b268, ho268, hc268, hk268, hF⟩ := dr_some hF
                        refine W_st (st' := [.ref (ad b268)]) (by rw [va_some ho268]) ?_
                        refine va_get (D := D) (ci := 9) (v := va_re ad (y267.2 b268 6)) (C := RX9) (T := TX9) (N := 20) hx hb hts (mus hf_X9) hown hK hP b268 (wld_o ct ad G y267 hc268 hk268 (by decide)) rfl 6 (by decide) (hts (.fieldLink RX1 355 "VideoSuite$Work" "info" "[I") (mu mw_444)) (fun _ h9 => h9) rfl dX1_readData_228 ?_
                        refine lv_bipush (v := (8 : Int32)) hx hb dX1_readData_231 (by decide) ?_
                        refine lv_iload hx hb dX1_readData_233 (lv_at hl 3 rfl) ?_
                        refine lv_imul hx hb dX1_readData_235 ?_
                        obtain ⟨x269, ex269, hF⟩ := ltt_some hF
                        refine lv_topi (fun zx269 ezx269 => ?_)
                        obtain rfl : x269 = zx269 := ex269.trans ezx269.symm
                        refine lv_iconst (v := (0 : Int32)) hx hb dX1_readData_236 (by decide) ?_
                        refine lv_iadd hx hb dX1_readData_237 ?_
                        obtain ⟨x270, ex270, hF⟩ := ltt_some hF
                        refine lv_topi (fun zx270 ezx270 => ?_)
                        obtain rfl : x270 = zx270 := ex270.trans ezx270.symm
                        obtain ⟨b271, ho271, hc271, hk271, hF⟩ := dr_some hF
                        refine W_st (st' := [.int x270, .ref (ad b271)]) (by rw [va_some ho271]) ?_
                        obtain ⟨hvc, hF⟩ := chk_some hF
                        refine va_iald hx hb hK hP b271 1 (wld_i ct ad G y267 hc271 hk271) rfl hvc dX1_readData_238 ?_
                        obtain ⟨x272, ex272, hF⟩ := ltt_some hF
                        refine lv_topi (fun zx272 ezx272 => ?_)
                        obtain rfl : x272 = zx272 := ex272.trans ezx272.symm
                        refine lv_iconst (v := (2 : Int32)) hx hb dX1_readData_239 (by decide) ?_
                        obtain ⟨y273, hy273, hF⟩ := bnd_some hF
                        have J273 : ∀ (H : Heap) (locs : List Loc) (ls : Array Slot), va_P D classes (wld ct ad G y273) H → va_D A (wld ct ad G y273) → va_S A s.heap H locs → lv_has ls 9 [(8, .int y172.2.1), (7, .int y171.2), (6, .int s17.2.1), (5, .int y172.1), (4, .int y11.2), (3, .int y9), (2, .int y5), (1, va_re ad (M.2 b2 0)), (0, .ref (ad a))] → W p l e (headSpec wuX1_readData ({ frames := 6, cells := 0, slots := 0, locals := 166 })).room s m ([.ref (ad a)] : List Value).toArray below meth c H locs 0 0 (MQ below (va_Qv (fun (_ : Unit) => True) (fun _ t => kE D ct ad G A y t) A) ([.ref (ad a)] : List Value).toArray s 0 0 A) (F0 m 257 ls []) := by
                          intro H locs ls hP hD hS hl
                          refine lv_aload_n hx hb dX1_readData_257 rfl (lv_at hl 8 rfl) ?_
                          refine lv_iload hx hb dX1_readData_258 (lv_at hl 3 rfl) ?_
                          refine lv_iconst (v := (0 : Int32)) hx hb dX1_readData_260 (by decide) ?_
                          obtain ⟨y274, hy274, hF⟩ := bnd_some hF
                          have hf9 := wA_in hD hA9 hS
                          refine va_callv (va_runV (As := [.int y172.1, .int (0 : Int32)]) (rest := []) ⟨hx, hb, hml, hown, hts⟩ (kX1_readReferences l D ct ad Z G y273 H.size a y172.1 ((0 : Int32)) y274 hc hk hy274) (cwV 2 hts gX1_readData_X1_readReferences rfl rfl rfl (by decide +kernel) ⟨Nat.le_of_ble_eq_true rfl, Nat.le_of_ble_eq_true rfl⟩) ⟨fun a U g mk q => by obtain ⟨q0, q1, qP, qK, qD, qZ, qN⟩ := q; exact ⟨q0, q1, qP, va_K.moved (u := U) (U := U.calling g mk a) (Vm.Alike.refl U.vm) qK, qD, sF.moved (u := U) (U := U.calling g mk a) (Vm.Alike.refl U.vm) qZ, nF.same rfl qN⟩, va_recv hK hP (ci := 1) (q0 := a) rfl (wld_o ct ad G y273 hc hk (by decide)), fun U hU hW => ⟨rfl, by rw [hU], by rw [hU]; exact hP, va_K.moved hW.alike hK, hD.weaken (fun _ _ _ _ => trivial), by rw [hU]; exact ((hZ.kept hS.2.1).narrow hf9).moved hW.alike, hN.warm hW⟩⟩ rfl rfl hl.1 rfl (lv_room (Nat.le_of_ble_eq_true rfl)) dX1_readData_261 ⟨(Nat.zero_le _), (Nat.zero_le _)⟩) hS (fun q _ h => hf9 q h) hf9 (fun u t H locs ht hvm hw hB hz1 hk1 hS => ?_)
                          obtain ⟨hP, hK9, hD9⟩ := hB
                          rw [ht] at hP
                          have hD := hD9.weaken (fun _ q _ h => hf9 q.1 h)
                          refine lv_aload_n hx hb dX1_readData_264 rfl (lv_at hl 8 rfl) ?_
                          refine lv_iload hx hb dX1_readData_265 (lv_at hl 3 rfl) ?_
                          refine lv_iconst (v := (1 : Int32)) hx hb dX1_readData_267 (by decide) ?_
                          obtain ⟨y275, hy275, hF⟩ := bnd_some hF
                          have hf9 := wA_in hD hA9 hS
                          refine va_callv (va_runV (As := [.int y172.1, .int (1 : Int32)]) (rest := []) ⟨hx, hb, hml, hown, hts⟩ (kX1_readReferences l D ct ad Z G y274 H.size a y172.1 ((1 : Int32)) y275 hc hk hy275) (cwV 2 hts gX1_readData_X1_readReferences rfl rfl rfl (by decide +kernel) ⟨Nat.le_of_ble_eq_true rfl, Nat.le_of_ble_eq_true rfl⟩) ⟨fun a U g mk q => by obtain ⟨q0, q1, qP, qK, qD, qZ, qN⟩ := q; exact ⟨q0, q1, qP, va_K.moved (u := U) (U := U.calling g mk a) (Vm.Alike.refl U.vm) qK, qD, sF.moved (u := U) (U := U.calling g mk a) (Vm.Alike.refl U.vm) qZ, nF.same rfl qN⟩, va_recv hK hP (ci := 1) (q0 := a) rfl (wld_o ct ad G y274 hc hk (by decide)), fun U hU hW => ⟨rfl, by rw [hU], by rw [hU]; exact hP, va_K.moved hW.alike hK, hD.weaken (fun _ _ _ _ => trivial), by rw [hU]; exact ((hZ.kept hS.2.1).narrow hf9).moved hW.alike, hN.warm hW⟩⟩ rfl rfl hl.1 rfl (lv_room (Nat.le_of_ble_eq_true rfl)) dX1_readData_268 ⟨(Nat.zero_le _), (Nat.zero_le _)⟩) hS (fun q _ h => hf9 q h) hf9 (fun u t H locs ht hvm hw hB hz1 hk1 hS => ?_)
                          obtain ⟨hP, hK9, hD9⟩ := hB
                          rw [ht] at hP
                          have hD := hD9.weaken (fun _ q _ h => hf9 q.1 h)
                          refine lv_aload_n hx hb dX1_readData_271 rfl (lv_at hl 8 rfl) ?_
                          refine lv_iload hx hb dX1_readData_272 (lv_at hl 3 rfl) ?_
                          refine lv_iconst (v := (0 : Int32)) hx hb dX1_readData_274 (by decide) ?_
                          obtain ⟨y276, hy276, hF⟩ := bnd_some hF
                          have hf9 := wA_in hD hA9 hS
                          refine va_callv (va_runV (As := [.int y172.1, .int (0 : Int32)]) (rest := []) ⟨hx, hb, hml, hown, hts⟩ (kX1_readVectors l D ct ad Z G y275 H.size a y172.1 ((0 : Int32)) y276 hc hk hy276) (cwV 2 hts gX1_readData_X1_readVectors rfl rfl rfl (by decide +kernel) ⟨Nat.le_of_ble_eq_true rfl, Nat.le_of_ble_eq_true rfl⟩) ⟨fun a U g mk q => by obtain ⟨q0, q1, qP, qK, qD, qZ, qN⟩ := q; exact ⟨q0, q1, qP, va_K.moved (u := U) (U := U.calling g mk a) (Vm.Alike.refl U.vm) qK, qD, sF.moved (u := U) (U := U.calling g mk a) (Vm.Alike.refl U.vm) qZ, nF.same rfl qN⟩, va_recv hK hP (ci := 1) (q0 := a) rfl (wld_o ct ad G y275 hc hk (by decide)), fun U hU hW => ⟨rfl, by rw [hU], by rw [hU]; exact hP, va_K.moved hW.alike hK, hD.weaken (fun _ _ _ _ => trivial), by rw [hU]; exact ((hZ.kept hS.2.1).narrow hf9).moved hW.alike, hN.warm hW⟩⟩ rfl rfl hl.1 rfl (lv_room (Nat.le_of_ble_eq_true rfl)) dX1_readData_275 ⟨(Nat.zero_le _), (Nat.zero_le _)⟩) hS (fun q _ h => hf9 q h) hf9 (fun u t H locs ht hvm hw hB hz1 hk1 hS => ?_)
                          obtain ⟨hP, hK9, hD9⟩ := hB
                          rw [ht] at hP
                          have hD := hD9.weaken (fun _ q _ h => hf9 q.1 h)
                          refine lv_aload_n hx hb dX1_readData_278 rfl (lv_at hl 8 rfl) ?_
                          refine lv_iload hx hb dX1_readData_279 (lv_at hl 3 rfl) ?_
                          refine lv_iconst (v := (1 : Int32)) hx hb dX1_readData_281 (by decide) ?_
                          obtain ⟨y277, hy277, hF⟩ := bnd_some hF
                          have hf9 := wA_in hD hA9 hS
                          refine va_callv (va_runV (As := [.int y172.1, .int (1 : Int32)]) (rest := []) ⟨hx, hb, hml, hown, hts⟩ (kX1_readVectors l D ct ad Z G y276 H.size a y172.1 ((1 : Int32)) y277 hc hk hy277) (cwV 2 hts gX1_readData_X1_readVectors rfl rfl rfl (by decide +kernel) ⟨Nat.le_of_ble_eq_true rfl, Nat.le_of_ble_eq_true rfl⟩) ⟨fun a U g mk q => by obtain ⟨q0, q1, qP, qK, qD, qZ, qN⟩ := q; exact ⟨q0, q1, qP, va_K.moved (u := U) (U := U.calling g mk a) (Vm.Alike.refl U.vm) qK, qD, sF.moved (u := U) (U := U.calling g mk a) (Vm.Alike.refl U.vm) qZ, nF.same rfl qN⟩, va_recv hK hP (ci := 1) (q0 := a) rfl (wld_o ct ad G y276 hc hk (by decide)), fun U hU hW => ⟨rfl, by rw [hU], by rw [hU]; exact hP, va_K.moved hW.alike hK, hD.weaken (fun _ _ _ _ => trivial), by rw [hU]; exact ((hZ.kept hS.2.1).narrow hf9).moved hW.alike, hN.warm hW⟩⟩ rfl rfl hl.1 rfl (lv_room (Nat.le_of_ble_eq_true rfl)) dX1_readData_282 ⟨(Nat.zero_le _), (Nat.zero_le _)⟩) hS (fun q _ h => hf9 q h) hf9 (fun u t H locs ht hvm hw hB hz1 hk1 hS => ?_)
                          obtain ⟨hP, hK9, hD9⟩ := hB
                          rw [ht] at hP
                          have hD := hD9.weaken (fun _ q _ h => hf9 q.1 h)
                          refine lv_aload_n hx hb dX1_readData_285 rfl (lv_at hl 8 rfl) ?_
                          refine lv_iload hx hb dX1_readData_286 (lv_at hl 3 rfl) ?_
                          obtain ⟨y278, hy278, hF⟩ := bnd_some hF
                          have hf9 := wA_in hD hA9 hS
                          refine va_callv (va_runV (As := [.int y172.1]) (rest := []) ⟨hx, hb, hml, hown, hts⟩ (kX1_readPattern l D ct ad Z G y277 H.size a y172.1 y278 hc hk hy278) (cwV 1 hts gX1_readData_X1_readPattern rfl rfl rfl (by decide +kernel) ⟨Nat.le_of_ble_eq_true rfl, Nat.le_of_ble_eq_true rfl⟩) ⟨fun a U g mk q => by obtain ⟨q0, q1, qP, qK, qD, qZ, qN⟩ := q; exact ⟨q0, q1, qP, va_K.moved (u := U) (U := U.calling g mk a) (Vm.Alike.refl U.vm) qK, qD, sF.moved (u := U) (U := U.calling g mk a) (Vm.Alike.refl U.vm) qZ, nF.same rfl qN⟩, va_recv hK hP (ci := 1) (q0 := a) rfl (wld_o ct ad G y277 hc hk (by decide)), fun U hU hW => ⟨rfl, by rw [hU], by rw [hU]; exact hP, va_K.moved hW.alike hK, hD.weaken (fun _ _ _ _ => trivial), by rw [hU]; exact ((hZ.kept hS.2.1).narrow hf9).moved hW.alike, hN.warm hW⟩⟩ rfl rfl hl.1 rfl (lv_room (Nat.le_of_ble_eq_true rfl)) dX1_readData_288 ⟨(Nat.zero_le _), (Nat.zero_le _)⟩) hS (fun q _ h => hf9 q h) hf9 (fun u t H locs ht hvm hw hB hz1 hk1 hS => ?_)
                          obtain ⟨hP, hK9, hD9⟩ := hB
                          rw [ht] at hP
                          have hD := hD9.weaken (fun _ q _ h => hf9 q.1 h)
                          refine lv_aload_n hx hb dX1_readData_291 rfl (lv_at hl 8 rfl) ?_
                          refine lv_iload hx hb dX1_readData_292 (lv_at hl 3 rfl) ?_
                          obtain ⟨y279, hy279, hF⟩ := bnd_some hF
                          have hf9 := wA_in hD hA9 hS
                          refine va_callv (va_runV (As := [.int y172.1]) (rest := []) ⟨hx, hb, hml, hown, hts⟩ (kX1_readLevels l D ct ad Z G y278 H.size a y172.1 y279 hc hk hy279) (cwV 1 hts gX1_readData_X1_readLevels rfl rfl rfl (by decide +kernel) ⟨Nat.le_of_ble_eq_true rfl, Nat.le_of_ble_eq_true rfl⟩) ⟨fun a U g mk q => by obtain ⟨q0, q1, qP, qK, qD, qZ, qN⟩ := q; exact ⟨q0, q1, qP, va_K.moved (u := U) (U := U.calling g mk a) (Vm.Alike.refl U.vm) qK, qD, sF.moved (u := U) (U := U.calling g mk a) (Vm.Alike.refl U.vm) qZ, nF.same rfl qN⟩, va_recv hK hP (ci := 1) (q0 := a) rfl (wld_o ct ad G y278 hc hk (by decide)), fun U hU hW => ⟨rfl, by rw [hU], by rw [hU]; exact hP, va_K.moved hW.alike hK, hD.weaken (fun _ _ _ _ => trivial), by rw [hU]; exact ((hZ.kept hS.2.1).narrow hf9).moved hW.alike, hN.warm hW⟩⟩ rfl rfl hl.1 rfl (lv_room (Nat.le_of_ble_eq_true rfl)) dX1_readData_294 ⟨(Nat.zero_le _), (Nat.zero_le _)⟩) hS (fun q _ h => hf9 q h) hf9 (fun u t H locs ht hvm hw hB hz1 hk1 hS => ?_)
                          obtain ⟨hP, hK9, hD9⟩ := hB
                          rw [ht] at hP
                          have hD := hD9.weaken (fun _ q _ h => hf9 q.1 h)
                          obtain rfl := Option.some.inj hF
                          exact J253 _ _ _ hP hD hS (lv_sub hl [0, 1, 2, 3, 4, 5, 6, 7, 8] rfl)
                        clear hF
                        have hF := hy273
                        clear hy273
                        refine lv_icmp_ne (tgt := 257) hx hb dX1_readData_240 (by decide) (fun c280 => ?_) (fun c280 => ?_)
                        · rw [if_neg c280] at hF
                          obtain rfl := Option.some.inj hF
                          exact J273 _ _ _ hP hD hS (lv_sub hl [0, 1, 2, 3, 4, 5, 6, 7, 8] rfl)
                        · rw [if_pos c280] at hF
                          refine lv_aload_n hx hb dX1_readData_243 rfl (lv_at hl 8 rfl) ?_
                          refine va_get (D := D) (ci := 1) (v := va_re ad (y267.2 a 0)) (C := RX1) (T := TX1) (N := 22) hx hb hts (mus hf_X1) hown hK hP a (wld_o ct ad G y267 hc hk (by decide)) rfl 0 (by decide) (hts (.fieldLink RX1 12 "VideoSuite$Decoder" "reader" "LVideoSuite$Reader;") (mu mw_640)) (fun _ h9 => h9) rfl dX1_readData_244 ?_
                          refine lv_aload_n hx hb dX1_readData_247 rfl (lv_at hl 8 rfl) ?_
                          refine va_get (D := D) (ci := 1) (v := va_re ad (y267.2 a 3)) (C := RX1) (T := TX1) (N := 22) hx hb hts (mus hf_X1) hown hK hP a (wld_o ct ad G y267 hc hk (by decide)) rfl 3 (by decide) (hts (.fieldLink RX1 35 "VideoSuite$Decoder" "samples" "LVideoSuite$Samples;") (mu mw_645)) (fun _ h9 => h9) rfl dX1_readData_248 ?_
                          obtain ⟨b281, ho281, hc281, hk281, hF⟩ := dr_some hF
                          refine W_st (st' := [.ref (ad b281), va_re ad (y267.2 a 0)]) (by rw [va_some ho281]) ?_
                          refine va_get (D := D) (ci := 6) (v := va_re ad (y267.2 b281 0)) (C := RX6) (T := TX6) (N := 14) hx hb hts (mus hf_X6) hown hK hP b281 (wld_o ct ad G y267 hc281 hk281 (by decide)) rfl 0 (by decide) (hts (.fieldLink RX1 358 "VideoSuite$Samples" "guess" "[I") (mu mw_534)) (fun _ h9 => h9) rfl dX1_readData_251 ?_
                          obtain ⟨b282, ho282, hc282, hk282, hF⟩ := dr_some hF
                          refine W_st (st' := [va_re ad (y267.2 b281 0), .ref (ad b282)]) (by rw [va_some ho282]) ?_
                          obtain ⟨y283, hy283, hF⟩ := bnd_some hF
                          have hf9 := wA_in hD hA9 hS
                          refine va_callv (va_runV (As := [va_re ad (y267.2 b281 0)]) (rest := []) ⟨hx, hb, hml, hown, hts⟩ (kX5_rawSamples l D ct ad Z G y267 H.size b282 ((y267.2 b281 0)) y283 hc282 hk282 hy283) (cwV 1 hts gX1_readData_X5_rawSamples rfl rfl rfl (by decide +kernel) ⟨Nat.le_of_ble_eq_true rfl, Nat.le_of_ble_eq_true rfl⟩) ⟨fun a U g mk q => by obtain ⟨q0, q1, qP, qK, qD, qZ, qN⟩ := q; exact ⟨q0, q1, qP, va_K.moved (u := U) (U := U.calling g mk a) (Vm.Alike.refl U.vm) qK, qD, sF.moved (u := U) (U := U.calling g mk a) (Vm.Alike.refl U.vm) qZ, nF.same rfl qN⟩, va_recv hK hP (ci := 5) (q0 := b282) rfl (wld_o ct ad G y267 hc282 hk282 (by decide)), fun U hU hW => ⟨rfl, by rw [hU], by rw [hU]; exact hP, va_K.moved hW.alike hK, hD.weaken (fun _ _ _ _ => trivial), by rw [hU]; exact ((hZ.kept hS.2.1).narrow hf9).moved hW.alike, hN.warm hW⟩⟩ rfl rfl hl.1 rfl (lv_room (Nat.le_of_ble_eq_true rfl)) dX1_readData_254 ⟨(Nat.zero_le _), (Nat.zero_le _)⟩) hS (fun q _ h => hf9 q h) hf9 (fun u t H locs ht hvm hw hB hz1 hk1 hS => ?_)
                          obtain ⟨hP, hK9, hD9⟩ := hB
                          rw [ht] at hP
                          have hD := hD9.weaken (fun _ q _ h => hf9 q.1 h)
                          obtain rfl := Option.some.inj hF
                          exact J273 _ _ _ hP hD hS (lv_sub hl [0, 1, 2, 3, 4, 5, 6, 7, 8] rfl)
                      · rw [if_neg c266] at hF
                        refine lv_iload_n hx hb dX1_readData_192 rfl (lv_at hl 6 rfl) ?_
                        obtain ⟨y284, hy284, hF⟩ := bnd_some hF
                        have J284 : ∀ (H : Heap) (locs : List Loc) (ls : Array Slot), va_P D classes (wld ct ad G y284) H → va_D A (wld ct ad G y284) → va_S A s.heap H locs → lv_has ls 9 [(8, .int y172.2.1), (7, .int y171.2), (6, .int s17.2.1), (5, .int y172.1), (4, .int y11.2), (3, .int y9), (2, .int y5), (1, va_re ad (M.2 b2 0)), (0, .ref (ad a))] → W p l e (headSpec wuX1_readData ({ frames := 6, cells := 0, slots := 0, locals := 166 })).room s m ([.ref (ad a)] : List Value).toArray below meth c H locs 0 0 (MQ below (va_Qv (fun (_ : Unit) => True) (fun _ t => kE D ct ad G A y t) A) ([.ref (ad a)] : List Value).toArray s 0 0 A) (F0 m 297 ls []) := by
                          intro H locs ls hP hD hS hl
                          obtain rfl := Option.some.inj hF
                          exact J253 _ _ _ hP hD hS (lv_sub hl [0, 1, 2, 3, 4, 5, 6, 7, 8] rfl)
                        clear hF
                        have hF := hy284
                        clear hy284
                        refine lv_if_ne (tgt := 218) hx hb dX1_readData_193 (by decide) (fun c285 => ?_) (fun c285 => ?_)
                        · rw [if_neg c285] at hF
                          refine lv_aload_n hx hb dX1_readData_218 rfl (lv_at hl 8 rfl) ?_
                          refine lv_iload hx hb dX1_readData_219 (lv_at hl 3 rfl) ?_
                          obtain ⟨y286, hy286, hF⟩ := bnd_some hF
                          have hf9 := wA_in hD hA9 hS
                          refine va_callv (va_runV (As := [.int y172.1]) (rest := []) ⟨hx, hb, hml, hown, hts⟩ (kX1_readBlock l D ct ad Z G y252 H.size a y172.1 y286 hc hk hy286) (cwV 1 hts gX1_readData_X1_readBlock rfl rfl rfl (by decide +kernel) ⟨Nat.le_of_ble_eq_true rfl, Nat.le_of_ble_eq_true rfl⟩) ⟨fun a U g mk q => by obtain ⟨q0, q1, qP, qK, qD, qZ, qN⟩ := q; exact ⟨q0, q1, qP, va_K.moved (u := U) (U := U.calling g mk a) (Vm.Alike.refl U.vm) qK, qD, sF.moved (u := U) (U := U.calling g mk a) (Vm.Alike.refl U.vm) qZ, nF.same rfl qN⟩, va_recv hK hP (ci := 1) (q0 := a) rfl (wld_o ct ad G y252 hc hk (by decide)), fun U hU hW => ⟨rfl, by rw [hU], by rw [hU]; exact hP, va_K.moved hW.alike hK, hD.weaken (fun _ _ _ _ => trivial), by rw [hU]; exact ((hZ.kept hS.2.1).narrow hf9).moved hW.alike, hN.warm hW⟩⟩ rfl rfl hl.1 rfl (lv_room (Nat.le_of_ble_eq_true rfl)) dX1_readData_221 ⟨(Nat.zero_le _), (Nat.zero_le _)⟩) hS (fun q _ h => hf9 q h) hf9 (fun u t H locs ht hvm hw hB hz1 hk1 hS => ?_)
                          obtain ⟨hP, hK9, hD9⟩ := hB
                          rw [ht] at hP
                          have hD := hD9.weaken (fun _ q _ h => hf9 q.1 h)
                          refine lv_aload_n hx hb dX1_readData_224 rfl (lv_at hl 8 rfl) ?_
                          refine va_get (D := D) (ci := 1) (v := va_re ad (y286.2 a 2)) (C := RX1) (T := TX1) (N := 22) hx hb hts (mus hf_X1) hown hK hP a (wld_o ct ad G y286 hc hk (by decide)) rfl 2 (by decide) (hts (.fieldLink RX1 28 "VideoSuite$Decoder" "work" "LVideoSuite$Work;") (mu mw_644)) (fun _ h9 => h9) rfl dX1_readData_225 ?_
                          obtain ⟨b287, ho287, hc287, hk287, hF⟩ := dr_some hF
                          refine W_st (st' := [.ref (ad b287)]) (by rw [va_some ho287]) ?_
                          refine va_get (D := D) (ci := 9) (v := va_re ad (y286.2 b287 6)) (C := RX9) (T := TX9) (N := 20) hx hb hts (mus hf_X9) hown hK hP b287 (wld_o ct ad G y286 hc287 hk287 (by decide)) rfl 6 (by decide) (hts (.fieldLink RX1 355 "VideoSuite$Work" "info" "[I") (mu mw_444)) (fun _ h9 => h9) rfl dX1_readData_228 ?_
                          refine lv_bipush (v := (8 : Int32)) hx hb dX1_readData_231 (by decide) ?_
                          refine lv_iload hx hb dX1_readData_233 (lv_at hl 3 rfl) ?_
                          refine lv_imul hx hb dX1_readData_235 ?_
                          obtain ⟨x288, ex288, hF⟩ := ltt_some hF
                          refine lv_topi (fun zx288 ezx288 => ?_)
                          obtain rfl : x288 = zx288 := ex288.trans ezx288.symm
                          refine lv_iconst (v := (0 : Int32)) hx hb dX1_readData_236 (by decide) ?_
                          refine lv_iadd hx hb dX1_readData_237 ?_
                          obtain ⟨x289, ex289, hF⟩ := ltt_some hF
                          refine lv_topi (fun zx289 ezx289 => ?_)
                          obtain rfl : x289 = zx289 := ex289.trans ezx289.symm
                          obtain ⟨b290, ho290, hc290, hk290, hF⟩ := dr_some hF
                          refine W_st (st' := [.int x289, .ref (ad b290)]) (by rw [va_some ho290]) ?_
                          obtain ⟨hvc, hF⟩ := chk_some hF
                          refine va_iald hx hb hK hP b290 1 (wld_i ct ad G y286 hc290 hk290) rfl hvc dX1_readData_238 ?_
                          obtain ⟨x291, ex291, hF⟩ := ltt_some hF
                          refine lv_topi (fun zx291 ezx291 => ?_)
                          obtain rfl : x291 = zx291 := ex291.trans ezx291.symm
                          refine lv_iconst (v := (2 : Int32)) hx hb dX1_readData_239 (by decide) ?_
                          obtain ⟨y292, hy292, hF⟩ := bnd_some hF
                          have J292 : ∀ (H : Heap) (locs : List Loc) (ls : Array Slot), va_P D classes (wld ct ad G y292) H → va_D A (wld ct ad G y292) → va_S A s.heap H locs → lv_has ls 9 [(8, .int y172.2.1), (7, .int y171.2), (6, .int s17.2.1), (5, .int y172.1), (4, .int y11.2), (3, .int y9), (2, .int y5), (1, va_re ad (M.2 b2 0)), (0, .ref (ad a))] → W p l e (headSpec wuX1_readData ({ frames := 6, cells := 0, slots := 0, locals := 166 })).room s m ([.ref (ad a)] : List Value).toArray below meth c H locs 0 0 (MQ below (va_Qv (fun (_ : Unit) => True) (fun _ t => kE D ct ad G A y t) A) ([.ref (ad a)] : List Value).toArray s 0 0 A) (F0 m 257 ls []) := by
                            intro H locs ls hP hD hS hl
                            refine lv_aload_n hx hb dX1_readData_257 rfl (lv_at hl 8 rfl) ?_
                            refine lv_iload hx hb dX1_readData_258 (lv_at hl 3 rfl) ?_
                            refine lv_iconst (v := (0 : Int32)) hx hb dX1_readData_260 (by decide) ?_
                            obtain ⟨y293, hy293, hF⟩ := bnd_some hF
                            have hf9 := wA_in hD hA9 hS
                            refine va_callv (va_runV (As := [.int y172.1, .int (0 : Int32)]) (rest := []) ⟨hx, hb, hml, hown, hts⟩ (kX1_readReferences l D ct ad Z G y292 H.size a y172.1 ((0 : Int32)) y293 hc hk hy293) (cwV 2 hts gX1_readData_X1_readReferences rfl rfl rfl (by decide +kernel) ⟨Nat.le_of_ble_eq_true rfl, Nat.le_of_ble_eq_true rfl⟩) ⟨fun a U g mk q => by obtain ⟨q0, q1, qP, qK, qD, qZ, qN⟩ := q; exact ⟨q0, q1, qP, va_K.moved (u := U) (U := U.calling g mk a) (Vm.Alike.refl U.vm) qK, qD, sF.moved (u := U) (U := U.calling g mk a) (Vm.Alike.refl U.vm) qZ, nF.same rfl qN⟩, va_recv hK hP (ci := 1) (q0 := a) rfl (wld_o ct ad G y292 hc hk (by decide)), fun U hU hW => ⟨rfl, by rw [hU], by rw [hU]; exact hP, va_K.moved hW.alike hK, hD.weaken (fun _ _ _ _ => trivial), by rw [hU]; exact ((hZ.kept hS.2.1).narrow hf9).moved hW.alike, hN.warm hW⟩⟩ rfl rfl hl.1 rfl (lv_room (Nat.le_of_ble_eq_true rfl)) dX1_readData_261 ⟨(Nat.zero_le _), (Nat.zero_le _)⟩) hS (fun q _ h => hf9 q h) hf9 (fun u t H locs ht hvm hw hB hz1 hk1 hS => ?_)
                            obtain ⟨hP, hK9, hD9⟩ := hB
                            rw [ht] at hP
                            have hD := hD9.weaken (fun _ q _ h => hf9 q.1 h)
                            refine lv_aload_n hx hb dX1_readData_264 rfl (lv_at hl 8 rfl) ?_
                            refine lv_iload hx hb dX1_readData_265 (lv_at hl 3 rfl) ?_
                            refine lv_iconst (v := (1 : Int32)) hx hb dX1_readData_267 (by decide) ?_
                            obtain ⟨y294, hy294, hF⟩ := bnd_some hF
                            have hf9 := wA_in hD hA9 hS
                            refine va_callv (va_runV (As := [.int y172.1, .int (1 : Int32)]) (rest := []) ⟨hx, hb, hml, hown, hts⟩ (kX1_readReferences l D ct ad Z G y293 H.size a y172.1 ((1 : Int32)) y294 hc hk hy294) (cwV 2 hts gX1_readData_X1_readReferences rfl rfl rfl (by decide +kernel) ⟨Nat.le_of_ble_eq_true rfl, Nat.le_of_ble_eq_true rfl⟩) ⟨fun a U g mk q => by obtain ⟨q0, q1, qP, qK, qD, qZ, qN⟩ := q; exact ⟨q0, q1, qP, va_K.moved (u := U) (U := U.calling g mk a) (Vm.Alike.refl U.vm) qK, qD, sF.moved (u := U) (U := U.calling g mk a) (Vm.Alike.refl U.vm) qZ, nF.same rfl qN⟩, va_recv hK hP (ci := 1) (q0 := a) rfl (wld_o ct ad G y293 hc hk (by decide)), fun U hU hW => ⟨rfl, by rw [hU], by rw [hU]; exact hP, va_K.moved hW.alike hK, hD.weaken (fun _ _ _ _ => trivial), by rw [hU]; exact ((hZ.kept hS.2.1).narrow hf9).moved hW.alike, hN.warm hW⟩⟩ rfl rfl hl.1 rfl (lv_room (Nat.le_of_ble_eq_true rfl)) dX1_readData_268 ⟨(Nat.zero_le _), (Nat.zero_le _)⟩) hS (fun q _ h => hf9 q h) hf9 (fun u t H locs ht hvm hw hB hz1 hk1 hS => ?_)
                            obtain ⟨hP, hK9, hD9⟩ := hB
                            rw [ht] at hP
                            have hD := hD9.weaken (fun _ q _ h => hf9 q.1 h)
                            refine lv_aload_n hx hb dX1_readData_271 rfl (lv_at hl 8 rfl) ?_
                            refine lv_iload hx hb dX1_readData_272 (lv_at hl 3 rfl) ?_
                            refine lv_iconst (v := (0 : Int32)) hx hb dX1_readData_274 (by decide) ?_
                            obtain ⟨y295, hy295, hF⟩ := bnd_some hF
                            have hf9 := wA_in hD hA9 hS
                            refine va_callv (va_runV (As := [.int y172.1, .int (0 : Int32)]) (rest := []) ⟨hx, hb, hml, hown, hts⟩ (kX1_readVectors l D ct ad Z G y294 H.size a y172.1 ((0 : Int32)) y295 hc hk hy295) (cwV 2 hts gX1_readData_X1_readVectors rfl rfl rfl (by decide +kernel) ⟨Nat.le_of_ble_eq_true rfl, Nat.le_of_ble_eq_true rfl⟩) ⟨fun a U g mk q => by obtain ⟨q0, q1, qP, qK, qD, qZ, qN⟩ := q; exact ⟨q0, q1, qP, va_K.moved (u := U) (U := U.calling g mk a) (Vm.Alike.refl U.vm) qK, qD, sF.moved (u := U) (U := U.calling g mk a) (Vm.Alike.refl U.vm) qZ, nF.same rfl qN⟩, va_recv hK hP (ci := 1) (q0 := a) rfl (wld_o ct ad G y294 hc hk (by decide)), fun U hU hW => ⟨rfl, by rw [hU], by rw [hU]; exact hP, va_K.moved hW.alike hK, hD.weaken (fun _ _ _ _ => trivial), by rw [hU]; exact ((hZ.kept hS.2.1).narrow hf9).moved hW.alike, hN.warm hW⟩⟩ rfl rfl hl.1 rfl (lv_room (Nat.le_of_ble_eq_true rfl)) dX1_readData_275 ⟨(Nat.zero_le _), (Nat.zero_le _)⟩) hS (fun q _ h => hf9 q h) hf9 (fun u t H locs ht hvm hw hB hz1 hk1 hS => ?_)
                            obtain ⟨hP, hK9, hD9⟩ := hB
                            rw [ht] at hP
                            have hD := hD9.weaken (fun _ q _ h => hf9 q.1 h)
                            refine lv_aload_n hx hb dX1_readData_278 rfl (lv_at hl 8 rfl) ?_
                            refine lv_iload hx hb dX1_readData_279 (lv_at hl 3 rfl) ?_
                            refine lv_iconst (v := (1 : Int32)) hx hb dX1_readData_281 (by decide) ?_
                            obtain ⟨y296, hy296, hF⟩ := bnd_some hF
                            have hf9 := wA_in hD hA9 hS
                            refine va_callv (va_runV (As := [.int y172.1, .int (1 : Int32)]) (rest := []) ⟨hx, hb, hml, hown, hts⟩ (kX1_readVectors l D ct ad Z G y295 H.size a y172.1 ((1 : Int32)) y296 hc hk hy296) (cwV 2 hts gX1_readData_X1_readVectors rfl rfl rfl (by decide +kernel) ⟨Nat.le_of_ble_eq_true rfl, Nat.le_of_ble_eq_true rfl⟩) ⟨fun a U g mk q => by obtain ⟨q0, q1, qP, qK, qD, qZ, qN⟩ := q; exact ⟨q0, q1, qP, va_K.moved (u := U) (U := U.calling g mk a) (Vm.Alike.refl U.vm) qK, qD, sF.moved (u := U) (U := U.calling g mk a) (Vm.Alike.refl U.vm) qZ, nF.same rfl qN⟩, va_recv hK hP (ci := 1) (q0 := a) rfl (wld_o ct ad G y295 hc hk (by decide)), fun U hU hW => ⟨rfl, by rw [hU], by rw [hU]; exact hP, va_K.moved hW.alike hK, hD.weaken (fun _ _ _ _ => trivial), by rw [hU]; exact ((hZ.kept hS.2.1).narrow hf9).moved hW.alike, hN.warm hW⟩⟩ rfl rfl hl.1 rfl (lv_room (Nat.le_of_ble_eq_true rfl)) dX1_readData_282 ⟨(Nat.zero_le _), (Nat.zero_le _)⟩) hS (fun q _ h => hf9 q h) hf9 (fun u t H locs ht hvm hw hB hz1 hk1 hS => ?_)
                            obtain ⟨hP, hK9, hD9⟩ := hB
                            rw [ht] at hP
                            have hD := hD9.weaken (fun _ q _ h => hf9 q.1 h)
                            refine lv_aload_n hx hb dX1_readData_285 rfl (lv_at hl 8 rfl) ?_
                            refine lv_iload hx hb dX1_readData_286 (lv_at hl 3 rfl) ?_
                            obtain ⟨y297, hy297, hF⟩ := bnd_some hF
                            have hf9 := wA_in hD hA9 hS
                            refine va_callv (va_runV (As := [.int y172.1]) (rest := []) ⟨hx, hb, hml, hown, hts⟩ (kX1_readPattern l D ct ad Z G y296 H.size a y172.1 y297 hc hk hy297) (cwV 1 hts gX1_readData_X1_readPattern rfl rfl rfl (by decide +kernel) ⟨Nat.le_of_ble_eq_true rfl, Nat.le_of_ble_eq_true rfl⟩) ⟨fun a U g mk q => by obtain ⟨q0, q1, qP, qK, qD, qZ, qN⟩ := q; exact ⟨q0, q1, qP, va_K.moved (u := U) (U := U.calling g mk a) (Vm.Alike.refl U.vm) qK, qD, sF.moved (u := U) (U := U.calling g mk a) (Vm.Alike.refl U.vm) qZ, nF.same rfl qN⟩, va_recv hK hP (ci := 1) (q0 := a) rfl (wld_o ct ad G y296 hc hk (by decide)), fun U hU hW => ⟨rfl, by rw [hU], by rw [hU]; exact hP, va_K.moved hW.alike hK, hD.weaken (fun _ _ _ _ => trivial), by rw [hU]; exact ((hZ.kept hS.2.1).narrow hf9).moved hW.alike, hN.warm hW⟩⟩ rfl rfl hl.1 rfl (lv_room (Nat.le_of_ble_eq_true rfl)) dX1_readData_288 ⟨(Nat.zero_le _), (Nat.zero_le _)⟩) hS (fun q _ h => hf9 q h) hf9 (fun u t H locs ht hvm hw hB hz1 hk1 hS => ?_)
                            obtain ⟨hP, hK9, hD9⟩ := hB
                            rw [ht] at hP
                            have hD := hD9.weaken (fun _ q _ h => hf9 q.1 h)
                            refine lv_aload_n hx hb dX1_readData_291 rfl (lv_at hl 8 rfl) ?_
                            refine lv_iload hx hb dX1_readData_292 (lv_at hl 3 rfl) ?_
                            obtain ⟨y298, hy298, hF⟩ := bnd_some hF
                            have hf9 := wA_in hD hA9 hS
                            refine va_callv (va_runV (As := [.int y172.1]) (rest := []) ⟨hx, hb, hml, hown, hts⟩ (kX1_readLevels l D ct ad Z G y297 H.size a y172.1 y298 hc hk hy298) (cwV 1 hts gX1_readData_X1_readLevels rfl rfl rfl (by decide +kernel) ⟨Nat.le_of_ble_eq_true rfl, Nat.le_of_ble_eq_true rfl⟩) ⟨fun a U g mk q => by obtain ⟨q0, q1, qP, qK, qD, qZ, qN⟩ := q; exact ⟨q0, q1, qP, va_K.moved (u := U) (U := U.calling g mk a) (Vm.Alike.refl U.vm) qK, qD, sF.moved (u := U) (U := U.calling g mk a) (Vm.Alike.refl U.vm) qZ, nF.same rfl qN⟩, va_recv hK hP (ci := 1) (q0 := a) rfl (wld_o ct ad G y297 hc hk (by decide)), fun U hU hW => ⟨rfl, by rw [hU], by rw [hU]; exact hP, va_K.moved hW.alike hK, hD.weaken (fun _ _ _ _ => trivial), by rw [hU]; exact ((hZ.kept hS.2.1).narrow hf9).moved hW.alike, hN.warm hW⟩⟩ rfl rfl hl.1 rfl (lv_room (Nat.le_of_ble_eq_true rfl)) dX1_readData_294 ⟨(Nat.zero_le _), (Nat.zero_le _)⟩) hS (fun q _ h => hf9 q h) hf9 (fun u t H locs ht hvm hw hB hz1 hk1 hS => ?_)
                            obtain ⟨hP, hK9, hD9⟩ := hB
                            rw [ht] at hP
                            have hD := hD9.weaken (fun _ q _ h => hf9 q.1 h)
                            obtain rfl := Option.some.inj hF
                            exact J284 _ _ _ hP hD hS (lv_sub hl [0, 1, 2, 3, 4, 5, 6, 7, 8] rfl)
                          clear hF
                          have hF := hy292
                          clear hy292
                          refine lv_icmp_ne (tgt := 257) hx hb dX1_readData_240 (by decide) (fun c299 => ?_) (fun c299 => ?_)
                          · rw [if_neg c299] at hF
                            obtain rfl := Option.some.inj hF
                            exact J292 _ _ _ hP hD hS (lv_sub hl [0, 1, 2, 3, 4, 5, 6, 7, 8] rfl)
                          · rw [if_pos c299] at hF
                            refine lv_aload_n hx hb dX1_readData_243 rfl (lv_at hl 8 rfl) ?_
                            refine va_get (D := D) (ci := 1) (v := va_re ad (y286.2 a 0)) (C := RX1) (T := TX1) (N := 22) hx hb hts (mus hf_X1) hown hK hP a (wld_o ct ad G y286 hc hk (by decide)) rfl 0 (by decide) (hts (.fieldLink RX1 12 "VideoSuite$Decoder" "reader" "LVideoSuite$Reader;") (mu mw_640)) (fun _ h9 => h9) rfl dX1_readData_244 ?_
                            refine lv_aload_n hx hb dX1_readData_247 rfl (lv_at hl 8 rfl) ?_
                            refine va_get (D := D) (ci := 1) (v := va_re ad (y286.2 a 3)) (C := RX1) (T := TX1) (N := 22) hx hb hts (mus hf_X1) hown hK hP a (wld_o ct ad G y286 hc hk (by decide)) rfl 3 (by decide) (hts (.fieldLink RX1 35 "VideoSuite$Decoder" "samples" "LVideoSuite$Samples;") (mu mw_645)) (fun _ h9 => h9) rfl dX1_readData_248 ?_
                            obtain ⟨b300, ho300, hc300, hk300, hF⟩ := dr_some hF
                            refine W_st (st' := [.ref (ad b300), va_re ad (y286.2 a 0)]) (by rw [va_some ho300]) ?_
                            refine va_get (D := D) (ci := 6) (v := va_re ad (y286.2 b300 0)) (C := RX6) (T := TX6) (N := 14) hx hb hts (mus hf_X6) hown hK hP b300 (wld_o ct ad G y286 hc300 hk300 (by decide)) rfl 0 (by decide) (hts (.fieldLink RX1 358 "VideoSuite$Samples" "guess" "[I") (mu mw_534)) (fun _ h9 => h9) rfl dX1_readData_251 ?_
                            obtain ⟨b301, ho301, hc301, hk301, hF⟩ := dr_some hF
                            refine W_st (st' := [va_re ad (y286.2 b300 0), .ref (ad b301)]) (by rw [va_some ho301]) ?_
                            obtain ⟨y302, hy302, hF⟩ := bnd_some hF
                            have hf9 := wA_in hD hA9 hS
                            refine va_callv (va_runV (As := [va_re ad (y286.2 b300 0)]) (rest := []) ⟨hx, hb, hml, hown, hts⟩ (kX5_rawSamples l D ct ad Z G y286 H.size b301 ((y286.2 b300 0)) y302 hc301 hk301 hy302) (cwV 1 hts gX1_readData_X5_rawSamples rfl rfl rfl (by decide +kernel) ⟨Nat.le_of_ble_eq_true rfl, Nat.le_of_ble_eq_true rfl⟩) ⟨fun a U g mk q => by obtain ⟨q0, q1, qP, qK, qD, qZ, qN⟩ := q; exact ⟨q0, q1, qP, va_K.moved (u := U) (U := U.calling g mk a) (Vm.Alike.refl U.vm) qK, qD, sF.moved (u := U) (U := U.calling g mk a) (Vm.Alike.refl U.vm) qZ, nF.same rfl qN⟩, va_recv hK hP (ci := 5) (q0 := b301) rfl (wld_o ct ad G y286 hc301 hk301 (by decide)), fun U hU hW => ⟨rfl, by rw [hU], by rw [hU]; exact hP, va_K.moved hW.alike hK, hD.weaken (fun _ _ _ _ => trivial), by rw [hU]; exact ((hZ.kept hS.2.1).narrow hf9).moved hW.alike, hN.warm hW⟩⟩ rfl rfl hl.1 rfl (lv_room (Nat.le_of_ble_eq_true rfl)) dX1_readData_254 ⟨(Nat.zero_le _), (Nat.zero_le _)⟩) hS (fun q _ h => hf9 q h) hf9 (fun u t H locs ht hvm hw hB hz1 hk1 hS => ?_)
                            obtain ⟨hP, hK9, hD9⟩ := hB
                            rw [ht] at hP
                            have hD := hD9.weaken (fun _ q _ h => hf9 q.1 h)
                            obtain rfl := Option.some.inj hF
                            exact J292 _ _ _ hP hD hS (lv_sub hl [0, 1, 2, 3, 4, 5, 6, 7, 8] rfl)
                        · rw [if_pos c285] at hF
                          refine lv_aload_n hx hb dX1_readData_196 rfl (lv_at hl 8 rfl) ?_
                          refine va_get (D := D) (ci := 1) (v := va_re ad (y252.2 a 0)) (C := RX1) (T := TX1) (N := 22) hx hb hts (mus hf_X1) hown hK hP a (wld_o ct ad G y252 hc hk (by decide)) rfl 0 (by decide) (hts (.fieldLink RX1 12 "VideoSuite$Decoder" "reader" "LVideoSuite$Reader;") (mu mw_640)) (fun _ h9 => h9) rfl dX1_readData_197 ?_
                          refine lv_iconst (v := (0 : Int32)) hx hb dX1_readData_200 (by decide) ?_
                          refine lv_iconst (v := (0 : Int32)) hx hb dX1_readData_201 (by decide) ?_
                          obtain ⟨b303, ho303, hc303, hk303, hF⟩ := dr_some hF
                          refine W_st (st' := [.int (0 : Int32), .int (0 : Int32), .ref (ad b303)]) (by rw [va_some ho303]) ?_
                          obtain ⟨y304, hy304, hF⟩ := bnd_some hF
                          have hf9 := wA_in hD hA9 hS
                          refine va_calli (va_runV (As := [.int (0 : Int32), .int (0 : Int32)]) (rest := []) ⟨hx, hb, hml, hown, hts⟩ (kX5_bit l D ct ad Z G y252 H.size b303 ((0 : Int32)) ((0 : Int32)) y304 hc303 hk303 hy304) (cwV 2 hts gX1_readData_X5_bit rfl rfl rfl (by decide +kernel) ⟨Nat.le_of_ble_eq_true rfl, Nat.le_of_ble_eq_true rfl⟩) ⟨fun a U g mk q => by obtain ⟨q0, q1, qP, qK, qD, qZ, qN⟩ := q; exact ⟨q0, q1, qP, va_K.moved (u := U) (U := U.calling g mk a) (Vm.Alike.refl U.vm) qK, qD, sF.moved (u := U) (U := U.calling g mk a) (Vm.Alike.refl U.vm) qZ, nF.same rfl qN⟩, va_recv hK hP (ci := 5) (q0 := b303) rfl (wld_o ct ad G y252 hc303 hk303 (by decide)), fun U hU hW => ⟨rfl, by rw [hU], by rw [hU]; exact hP, va_K.moved hW.alike hK, hD.weaken (fun _ _ _ _ => trivial), by rw [hU]; exact ((hZ.kept hS.2.1).narrow hf9).moved hW.alike, hN.warm hW⟩⟩ rfl rfl hl.1 rfl (lv_room (Nat.le_of_ble_eq_true rfl)) dX1_readData_202 ⟨(Nat.zero_le _), (Nat.zero_le _)⟩) hS (fun q _ h => hf9 q h) hf9 (fun r u t H locs ht hvm hw hB hz1 hk1 hS => ?_)
                          obtain ⟨hP, hK9, hD9⟩ := hB
                          rw [ht] at hP
                          try dsimp only at hw
                          subst hw
                          have hD := hD9.weaken (fun _ q _ h => hf9 q.1 h)
                          refine lv_iconst (v := (1 : Int32)) hx hb dX1_readData_205 (by decide) ?_
                          obtain ⟨y305, hy305, hF⟩ := bnd_some hF
                          have J305 : ∀ (H : Heap) (locs : List Loc) (ls : Array Slot), va_P D classes (wld ct ad G y305) H → va_D A (wld ct ad G y305) → va_S A s.heap H locs → lv_has ls 9 [(8, .int y172.2.1), (7, .int y171.2), (6, .int s17.2.1), (5, .int y172.1), (4, .int y11.2), (3, .int y9), (2, .int y5), (1, va_re ad (M.2 b2 0)), (0, .ref (ad a))] → W p l e (headSpec wuX1_readData ({ frames := 6, cells := 0, slots := 0, locals := 166 })).room s m ([.ref (ad a)] : List Value).toArray below meth c H locs 0 0 (MQ below (va_Qv (fun (_ : Unit) => True) (fun _ t => kE D ct ad G A y t) A) ([.ref (ad a)] : List Value).toArray s 0 0 A) (F0 m 297 ls []) := by
                            intro H locs ls hP hD hS hl
                            obtain rfl := Option.some.inj hF
                            exact J284 _ _ _ hP hD hS (lv_sub hl [0, 1, 2, 3, 4, 5, 6, 7, 8] rfl)
                          clear hF
                          have hF := hy305
                          clear hy305
                          refine lv_icmp_ne (tgt := 218) hx hb dX1_readData_206 (by decide) (fun c306 => ?_) (fun c306 => ?_)
                          · rw [if_neg c306] at hF
                            refine lv_aload_n hx hb dX1_readData_218 rfl (lv_at hl 8 rfl) ?_
                            refine lv_iload hx hb dX1_readData_219 (lv_at hl 3 rfl) ?_
                            obtain ⟨y307, hy307, hF⟩ := bnd_some hF
                            have hf9 := wA_in hD hA9 hS
                            refine va_callv (va_runV (As := [.int y172.1]) (rest := []) ⟨hx, hb, hml, hown, hts⟩ (kX1_readBlock l D ct ad Z G y304.1 H.size a y172.1 y307 hc hk hy307) (cwV 1 hts gX1_readData_X1_readBlock rfl rfl rfl (by decide +kernel) ⟨Nat.le_of_ble_eq_true rfl, Nat.le_of_ble_eq_true rfl⟩) ⟨fun a U g mk q => by obtain ⟨q0, q1, qP, qK, qD, qZ, qN⟩ := q; exact ⟨q0, q1, qP, va_K.moved (u := U) (U := U.calling g mk a) (Vm.Alike.refl U.vm) qK, qD, sF.moved (u := U) (U := U.calling g mk a) (Vm.Alike.refl U.vm) qZ, nF.same rfl qN⟩, va_recv hK hP (ci := 1) (q0 := a) rfl (wld_o ct ad G y304.1 hc hk (by decide)), fun U hU hW => ⟨rfl, by rw [hU], by rw [hU]; exact hP, va_K.moved hW.alike hK, hD.weaken (fun _ _ _ _ => trivial), by rw [hU]; exact ((hZ.kept hS.2.1).narrow hf9).moved hW.alike, hN.warm hW⟩⟩ rfl rfl hl.1 rfl (lv_room (Nat.le_of_ble_eq_true rfl)) dX1_readData_221 ⟨(Nat.zero_le _), (Nat.zero_le _)⟩) hS (fun q _ h => hf9 q h) hf9 (fun u t H locs ht hvm hw hB hz1 hk1 hS => ?_)
                            obtain ⟨hP, hK9, hD9⟩ := hB
                            rw [ht] at hP
                            have hD := hD9.weaken (fun _ q _ h => hf9 q.1 h)
                            refine lv_aload_n hx hb dX1_readData_224 rfl (lv_at hl 8 rfl) ?_
                            refine va_get (D := D) (ci := 1) (v := va_re ad (y307.2 a 2)) (C := RX1) (T := TX1) (N := 22) hx hb hts (mus hf_X1) hown hK hP a (wld_o ct ad G y307 hc hk (by decide)) rfl 2 (by decide) (hts (.fieldLink RX1 28 "VideoSuite$Decoder" "work" "LVideoSuite$Work;") (mu mw_644)) (fun _ h9 => h9) rfl dX1_readData_225 ?_
                            obtain ⟨b308, ho308, hc308, hk308, hF⟩ := dr_some hF
                            refine W_st (st' := [.ref (ad b308)]) (by rw [va_some ho308]) ?_
                            refine va_get (D := D) (ci := 9) (v := va_re ad (y307.2 b308 6)) (C := RX9) (T := TX9) (N := 20) hx hb hts (mus hf_X9) hown hK hP b308 (wld_o ct ad G y307 hc308 hk308 (by decide)) rfl 6 (by decide) (hts (.fieldLink RX1 355 "VideoSuite$Work" "info" "[I") (mu mw_444)) (fun _ h9 => h9) rfl dX1_readData_228 ?_
                            refine lv_bipush (v := (8 : Int32)) hx hb dX1_readData_231 (by decide) ?_
                            refine lv_iload hx hb dX1_readData_233 (lv_at hl 3 rfl) ?_
                            refine lv_imul hx hb dX1_readData_235 ?_
                            obtain ⟨x309, ex309, hF⟩ := ltt_some hF
                            refine lv_topi (fun zx309 ezx309 => ?_)
                            obtain rfl : x309 = zx309 := ex309.trans ezx309.symm
                            refine lv_iconst (v := (0 : Int32)) hx hb dX1_readData_236 (by decide) ?_
                            refine lv_iadd hx hb dX1_readData_237 ?_
                            obtain ⟨x310, ex310, hF⟩ := ltt_some hF
                            refine lv_topi (fun zx310 ezx310 => ?_)
                            obtain rfl : x310 = zx310 := ex310.trans ezx310.symm
                            obtain ⟨b311, ho311, hc311, hk311, hF⟩ := dr_some hF
                            refine W_st (st' := [.int x310, .ref (ad b311)]) (by rw [va_some ho311]) ?_
                            obtain ⟨hvc, hF⟩ := chk_some hF
                            refine va_iald hx hb hK hP b311 1 (wld_i ct ad G y307 hc311 hk311) rfl hvc dX1_readData_238 ?_
                            obtain ⟨x312, ex312, hF⟩ := ltt_some hF
                            refine lv_topi (fun zx312 ezx312 => ?_)
                            obtain rfl : x312 = zx312 := ex312.trans ezx312.symm
                            refine lv_iconst (v := (2 : Int32)) hx hb dX1_readData_239 (by decide) ?_
                            obtain ⟨y313, hy313, hF⟩ := bnd_some hF
                            have J313 : ∀ (H : Heap) (locs : List Loc) (ls : Array Slot), va_P D classes (wld ct ad G y313) H → va_D A (wld ct ad G y313) → va_S A s.heap H locs → lv_has ls 9 [(8, .int y172.2.1), (7, .int y171.2), (6, .int s17.2.1), (5, .int y172.1), (4, .int y11.2), (3, .int y9), (2, .int y5), (1, va_re ad (M.2 b2 0)), (0, .ref (ad a))] → W p l e (headSpec wuX1_readData ({ frames := 6, cells := 0, slots := 0, locals := 166 })).room s m ([.ref (ad a)] : List Value).toArray below meth c H locs 0 0 (MQ below (va_Qv (fun (_ : Unit) => True) (fun _ t => kE D ct ad G A y t) A) ([.ref (ad a)] : List Value).toArray s 0 0 A) (F0 m 257 ls []) := by
                              intro H locs ls hP hD hS hl
                              refine lv_aload_n hx hb dX1_readData_257 rfl (lv_at hl 8 rfl) ?_
                              refine lv_iload hx hb dX1_readData_258 (lv_at hl 3 rfl) ?_
                              refine lv_iconst (v := (0 : Int32)) hx hb dX1_readData_260 (by decide) ?_
                              obtain ⟨y314, hy314, hF⟩ := bnd_some hF
                              have hf9 := wA_in hD hA9 hS
                              refine va_callv (va_runV (As := [.int y172.1, .int (0 : Int32)]) (rest := []) ⟨hx, hb, hml, hown, hts⟩ (kX1_readReferences l D ct ad Z G y313 H.size a y172.1 ((0 : Int32)) y314 hc hk hy314) (cwV 2 hts gX1_readData_X1_readReferences rfl rfl rfl (by decide +kernel) ⟨Nat.le_of_ble_eq_true rfl, Nat.le_of_ble_eq_true rfl⟩) ⟨fun a U g mk q => by obtain ⟨q0, q1, qP, qK, qD, qZ, qN⟩ := q; exact ⟨q0, q1, qP, va_K.moved (u := U) (U := U.calling g mk a) (Vm.Alike.refl U.vm) qK, qD, sF.moved (u := U) (U := U.calling g mk a) (Vm.Alike.refl U.vm) qZ, nF.same rfl qN⟩, va_recv hK hP (ci := 1) (q0 := a) rfl (wld_o ct ad G y313 hc hk (by decide)), fun U hU hW => ⟨rfl, by rw [hU], by rw [hU]; exact hP, va_K.moved hW.alike hK, hD.weaken (fun _ _ _ _ => trivial), by rw [hU]; exact ((hZ.kept hS.2.1).narrow hf9).moved hW.alike, hN.warm hW⟩⟩ rfl rfl hl.1 rfl (lv_room (Nat.le_of_ble_eq_true rfl)) dX1_readData_261 ⟨(Nat.zero_le _), (Nat.zero_le _)⟩) hS (fun q _ h => hf9 q h) hf9 (fun u t H locs ht hvm hw hB hz1 hk1 hS => ?_)
                              obtain ⟨hP, hK9, hD9⟩ := hB
                              rw [ht] at hP
                              have hD := hD9.weaken (fun _ q _ h => hf9 q.1 h)
                              refine lv_aload_n hx hb dX1_readData_264 rfl (lv_at hl 8 rfl) ?_
                              refine lv_iload hx hb dX1_readData_265 (lv_at hl 3 rfl) ?_
                              refine lv_iconst (v := (1 : Int32)) hx hb dX1_readData_267 (by decide) ?_
                              obtain ⟨y315, hy315, hF⟩ := bnd_some hF
                              have hf9 := wA_in hD hA9 hS
                              refine va_callv (va_runV (As := [.int y172.1, .int (1 : Int32)]) (rest := []) ⟨hx, hb, hml, hown, hts⟩ (kX1_readReferences l D ct ad Z G y314 H.size a y172.1 ((1 : Int32)) y315 hc hk hy315) (cwV 2 hts gX1_readData_X1_readReferences rfl rfl rfl (by decide +kernel) ⟨Nat.le_of_ble_eq_true rfl, Nat.le_of_ble_eq_true rfl⟩) ⟨fun a U g mk q => by obtain ⟨q0, q1, qP, qK, qD, qZ, qN⟩ := q; exact ⟨q0, q1, qP, va_K.moved (u := U) (U := U.calling g mk a) (Vm.Alike.refl U.vm) qK, qD, sF.moved (u := U) (U := U.calling g mk a) (Vm.Alike.refl U.vm) qZ, nF.same rfl qN⟩, va_recv hK hP (ci := 1) (q0 := a) rfl (wld_o ct ad G y314 hc hk (by decide)), fun U hU hW => ⟨rfl, by rw [hU], by rw [hU]; exact hP, va_K.moved hW.alike hK, hD.weaken (fun _ _ _ _ => trivial), by rw [hU]; exact ((hZ.kept hS.2.1).narrow hf9).moved hW.alike, hN.warm hW⟩⟩ rfl rfl hl.1 rfl (lv_room (Nat.le_of_ble_eq_true rfl)) dX1_readData_268 ⟨(Nat.zero_le _), (Nat.zero_le _)⟩) hS (fun q _ h => hf9 q h) hf9 (fun u t H locs ht hvm hw hB hz1 hk1 hS => ?_)
                              obtain ⟨hP, hK9, hD9⟩ := hB
                              rw [ht] at hP
                              have hD := hD9.weaken (fun _ q _ h => hf9 q.1 h)
                              refine lv_aload_n hx hb dX1_readData_271 rfl (lv_at hl 8 rfl) ?_
                              refine lv_iload hx hb dX1_readData_272 (lv_at hl 3 rfl) ?_
                              refine lv_iconst (v := (0 : Int32)) hx hb dX1_readData_274 (by decide) ?_
                              obtain ⟨y316, hy316, hF⟩ := bnd_some hF
                              have hf9 := wA_in hD hA9 hS
                              refine va_callv (va_runV (As := [.int y172.1, .int (0 : Int32)]) (rest := []) ⟨hx, hb, hml, hown, hts⟩ (kX1_readVectors l D ct ad Z G y315 H.size a y172.1 ((0 : Int32)) y316 hc hk hy316) (cwV 2 hts gX1_readData_X1_readVectors rfl rfl rfl (by decide +kernel) ⟨Nat.le_of_ble_eq_true rfl, Nat.le_of_ble_eq_true rfl⟩) ⟨fun a U g mk q => by obtain ⟨q0, q1, qP, qK, qD, qZ, qN⟩ := q; exact ⟨q0, q1, qP, va_K.moved (u := U) (U := U.calling g mk a) (Vm.Alike.refl U.vm) qK, qD, sF.moved (u := U) (U := U.calling g mk a) (Vm.Alike.refl U.vm) qZ, nF.same rfl qN⟩, va_recv hK hP (ci := 1) (q0 := a) rfl (wld_o ct ad G y315 hc hk (by decide)), fun U hU hW => ⟨rfl, by rw [hU], by rw [hU]; exact hP, va_K.moved hW.alike hK, hD.weaken (fun _ _ _ _ => trivial), by rw [hU]; exact ((hZ.kept hS.2.1).narrow hf9).moved hW.alike, hN.warm hW⟩⟩ rfl rfl hl.1 rfl (lv_room (Nat.le_of_ble_eq_true rfl)) dX1_readData_275 ⟨(Nat.zero_le _), (Nat.zero_le _)⟩) hS (fun q _ h => hf9 q h) hf9 (fun u t H locs ht hvm hw hB hz1 hk1 hS => ?_)
                              obtain ⟨hP, hK9, hD9⟩ := hB
                              rw [ht] at hP
                              have hD := hD9.weaken (fun _ q _ h => hf9 q.1 h)
                              refine lv_aload_n hx hb dX1_readData_278 rfl (lv_at hl 8 rfl) ?_
                              refine lv_iload hx hb dX1_readData_279 (lv_at hl 3 rfl) ?_
                              refine lv_iconst (v := (1 : Int32)) hx hb dX1_readData_281 (by decide) ?_
                              obtain ⟨y317, hy317, hF⟩ := bnd_some hF
                              have hf9 := wA_in hD hA9 hS
                              refine va_callv (va_runV (As := [.int y172.1, .int (1 : Int32)]) (rest := []) ⟨hx, hb, hml, hown, hts⟩ (kX1_readVectors l D ct ad Z G y316 H.size a y172.1 ((1 : Int32)) y317 hc hk hy317) (cwV 2 hts gX1_readData_X1_readVectors rfl rfl rfl (by decide +kernel) ⟨Nat.le_of_ble_eq_true rfl, Nat.le_of_ble_eq_true rfl⟩) ⟨fun a U g mk q => by obtain ⟨q0, q1, qP, qK, qD, qZ, qN⟩ := q; exact ⟨q0, q1, qP, va_K.moved (u := U) (U := U.calling g mk a) (Vm.Alike.refl U.vm) qK, qD, sF.moved (u := U) (U := U.calling g mk a) (Vm.Alike.refl U.vm) qZ, nF.same rfl qN⟩, va_recv hK hP (ci := 1) (q0 := a) rfl (wld_o ct ad G y316 hc hk (by decide)), fun U hU hW => ⟨rfl, by rw [hU], by rw [hU]; exact hP, va_K.moved hW.alike hK, hD.weaken (fun _ _ _ _ => trivial), by rw [hU]; exact ((hZ.kept hS.2.1).narrow hf9).moved hW.alike, hN.warm hW⟩⟩ rfl rfl hl.1 rfl (lv_room (Nat.le_of_ble_eq_true rfl)) dX1_readData_282 ⟨(Nat.zero_le _), (Nat.zero_le _)⟩) hS (fun q _ h => hf9 q h) hf9 (fun u t H locs ht hvm hw hB hz1 hk1 hS => ?_)
                              obtain ⟨hP, hK9, hD9⟩ := hB
                              rw [ht] at hP
                              have hD := hD9.weaken (fun _ q _ h => hf9 q.1 h)
                              refine lv_aload_n hx hb dX1_readData_285 rfl (lv_at hl 8 rfl) ?_
                              refine lv_iload hx hb dX1_readData_286 (lv_at hl 3 rfl) ?_
                              obtain ⟨y318, hy318, hF⟩ := bnd_some hF
                              have hf9 := wA_in hD hA9 hS
                              refine va_callv (va_runV (As := [.int y172.1]) (rest := []) ⟨hx, hb, hml, hown, hts⟩ (kX1_readPattern l D ct ad Z G y317 H.size a y172.1 y318 hc hk hy318) (cwV 1 hts gX1_readData_X1_readPattern rfl rfl rfl (by decide +kernel) ⟨Nat.le_of_ble_eq_true rfl, Nat.le_of_ble_eq_true rfl⟩) ⟨fun a U g mk q => by obtain ⟨q0, q1, qP, qK, qD, qZ, qN⟩ := q; exact ⟨q0, q1, qP, va_K.moved (u := U) (U := U.calling g mk a) (Vm.Alike.refl U.vm) qK, qD, sF.moved (u := U) (U := U.calling g mk a) (Vm.Alike.refl U.vm) qZ, nF.same rfl qN⟩, va_recv hK hP (ci := 1) (q0 := a) rfl (wld_o ct ad G y317 hc hk (by decide)), fun U hU hW => ⟨rfl, by rw [hU], by rw [hU]; exact hP, va_K.moved hW.alike hK, hD.weaken (fun _ _ _ _ => trivial), by rw [hU]; exact ((hZ.kept hS.2.1).narrow hf9).moved hW.alike, hN.warm hW⟩⟩ rfl rfl hl.1 rfl (lv_room (Nat.le_of_ble_eq_true rfl)) dX1_readData_288 ⟨(Nat.zero_le _), (Nat.zero_le _)⟩) hS (fun q _ h => hf9 q h) hf9 (fun u t H locs ht hvm hw hB hz1 hk1 hS => ?_)
                              obtain ⟨hP, hK9, hD9⟩ := hB
                              rw [ht] at hP
                              have hD := hD9.weaken (fun _ q _ h => hf9 q.1 h)
                              refine lv_aload_n hx hb dX1_readData_291 rfl (lv_at hl 8 rfl) ?_
                              refine lv_iload hx hb dX1_readData_292 (lv_at hl 3 rfl) ?_
                              obtain ⟨y319, hy319, hF⟩ := bnd_some hF
                              have hf9 := wA_in hD hA9 hS
                              refine va_callv (va_runV (As := [.int y172.1]) (rest := []) ⟨hx, hb, hml, hown, hts⟩ (kX1_readLevels l D ct ad Z G y318 H.size a y172.1 y319 hc hk hy319) (cwV 1 hts gX1_readData_X1_readLevels rfl rfl rfl (by decide +kernel) ⟨Nat.le_of_ble_eq_true rfl, Nat.le_of_ble_eq_true rfl⟩) ⟨fun a U g mk q => by obtain ⟨q0, q1, qP, qK, qD, qZ, qN⟩ := q; exact ⟨q0, q1, qP, va_K.moved (u := U) (U := U.calling g mk a) (Vm.Alike.refl U.vm) qK, qD, sF.moved (u := U) (U := U.calling g mk a) (Vm.Alike.refl U.vm) qZ, nF.same rfl qN⟩, va_recv hK hP (ci := 1) (q0 := a) rfl (wld_o ct ad G y318 hc hk (by decide)), fun U hU hW => ⟨rfl, by rw [hU], by rw [hU]; exact hP, va_K.moved hW.alike hK, hD.weaken (fun _ _ _ _ => trivial), by rw [hU]; exact ((hZ.kept hS.2.1).narrow hf9).moved hW.alike, hN.warm hW⟩⟩ rfl rfl hl.1 rfl (lv_room (Nat.le_of_ble_eq_true rfl)) dX1_readData_294 ⟨(Nat.zero_le _), (Nat.zero_le _)⟩) hS (fun q _ h => hf9 q h) hf9 (fun u t H locs ht hvm hw hB hz1 hk1 hS => ?_)
                              obtain ⟨hP, hK9, hD9⟩ := hB
                              rw [ht] at hP
                              have hD := hD9.weaken (fun _ q _ h => hf9 q.1 h)
                              obtain rfl := Option.some.inj hF
                              exact J305 _ _ _ hP hD hS (lv_sub hl [0, 1, 2, 3, 4, 5, 6, 7, 8] rfl)
                            clear hF
                            have hF := hy313
                            clear hy313
                            refine lv_icmp_ne (tgt := 257) hx hb dX1_readData_240 (by decide) (fun c320 => ?_) (fun c320 => ?_)
                            · rw [if_neg c320] at hF
                              obtain rfl := Option.some.inj hF
                              exact J313 _ _ _ hP hD hS (lv_sub hl [0, 1, 2, 3, 4, 5, 6, 7, 8] rfl)
                            · rw [if_pos c320] at hF
                              refine lv_aload_n hx hb dX1_readData_243 rfl (lv_at hl 8 rfl) ?_
                              refine va_get (D := D) (ci := 1) (v := va_re ad (y307.2 a 0)) (C := RX1) (T := TX1) (N := 22) hx hb hts (mus hf_X1) hown hK hP a (wld_o ct ad G y307 hc hk (by decide)) rfl 0 (by decide) (hts (.fieldLink RX1 12 "VideoSuite$Decoder" "reader" "LVideoSuite$Reader;") (mu mw_640)) (fun _ h9 => h9) rfl dX1_readData_244 ?_
                              refine lv_aload_n hx hb dX1_readData_247 rfl (lv_at hl 8 rfl) ?_
                              refine va_get (D := D) (ci := 1) (v := va_re ad (y307.2 a 3)) (C := RX1) (T := TX1) (N := 22) hx hb hts (mus hf_X1) hown hK hP a (wld_o ct ad G y307 hc hk (by decide)) rfl 3 (by decide) (hts (.fieldLink RX1 35 "VideoSuite$Decoder" "samples" "LVideoSuite$Samples;") (mu mw_645)) (fun _ h9 => h9) rfl dX1_readData_248 ?_
                              obtain ⟨b321, ho321, hc321, hk321, hF⟩ := dr_some hF
                              refine W_st (st' := [.ref (ad b321), va_re ad (y307.2 a 0)]) (by rw [va_some ho321]) ?_
                              refine va_get (D := D) (ci := 6) (v := va_re ad (y307.2 b321 0)) (C := RX6) (T := TX6) (N := 14) hx hb hts (mus hf_X6) hown hK hP b321 (wld_o ct ad G y307 hc321 hk321 (by decide)) rfl 0 (by decide) (hts (.fieldLink RX1 358 "VideoSuite$Samples" "guess" "[I") (mu mw_534)) (fun _ h9 => h9) rfl dX1_readData_251 ?_
                              obtain ⟨b322, ho322, hc322, hk322, hF⟩ := dr_some hF
                              refine W_st (st' := [va_re ad (y307.2 b321 0), .ref (ad b322)]) (by rw [va_some ho322]) ?_
                              obtain ⟨y323, hy323, hF⟩ := bnd_some hF
                              have hf9 := wA_in hD hA9 hS
                              refine va_callv (va_runV (As := [va_re ad (y307.2 b321 0)]) (rest := []) ⟨hx, hb, hml, hown, hts⟩ (kX5_rawSamples l D ct ad Z G y307 H.size b322 ((y307.2 b321 0)) y323 hc322 hk322 hy323) (cwV 1 hts gX1_readData_X5_rawSamples rfl rfl rfl (by decide +kernel) ⟨Nat.le_of_ble_eq_true rfl, Nat.le_of_ble_eq_true rfl⟩) ⟨fun a U g mk q => by obtain ⟨q0, q1, qP, qK, qD, qZ, qN⟩ := q; exact ⟨q0, q1, qP, va_K.moved (u := U) (U := U.calling g mk a) (Vm.Alike.refl U.vm) qK, qD, sF.moved (u := U) (U := U.calling g mk a) (Vm.Alike.refl U.vm) qZ, nF.same rfl qN⟩, va_recv hK hP (ci := 5) (q0 := b322) rfl (wld_o ct ad G y307 hc322 hk322 (by decide)), fun U hU hW => ⟨rfl, by rw [hU], by rw [hU]; exact hP, va_K.moved hW.alike hK, hD.weaken (fun _ _ _ _ => trivial), by rw [hU]; exact ((hZ.kept hS.2.1).narrow hf9).moved hW.alike, hN.warm hW⟩⟩ rfl rfl hl.1 rfl (lv_room (Nat.le_of_ble_eq_true rfl)) dX1_readData_254 ⟨(Nat.zero_le _), (Nat.zero_le _)⟩) hS (fun q _ h => hf9 q h) hf9 (fun u t H locs ht hvm hw hB hz1 hk1 hS => ?_)
                              obtain ⟨hP, hK9, hD9⟩ := hB
                              rw [ht] at hP
                              have hD := hD9.weaken (fun _ q _ h => hf9 q.1 h)
                              obtain rfl := Option.some.inj hF
                              exact J313 _ _ _ hP hD hS (lv_sub hl [0, 1, 2, 3, 4, 5, 6, 7, 8] rfl)
                          · rw [if_pos c306] at hF
                            refine lv_aload_n hx hb dX1_readData_209 rfl (lv_at hl 8 rfl) ?_
                            refine lv_iload hx hb dX1_readData_210 (lv_at hl 3 rfl) ?_
                            obtain ⟨y324, hy324, hF⟩ := bnd_some hF
                            have hf9 := wA_in hD hA9 hS
                            refine va_callv (va_runV (As := [.int y172.1]) (rest := []) ⟨hx, hb, hml, hown, hts⟩ (kX1_readSkipped l D ct ad Z G y304.1 H.size a y172.1 y324 hc hk hy324) (cwV 1 hts gX1_readData_X1_readSkipped rfl rfl rfl (by decide +kernel) ⟨Nat.le_of_ble_eq_true rfl, Nat.le_of_ble_eq_true rfl⟩) ⟨fun a U g mk q => by obtain ⟨q0, q1, qP, qK, qD, qZ, qN⟩ := q; exact ⟨q0, q1, qP, va_K.moved (u := U) (U := U.calling g mk a) (Vm.Alike.refl U.vm) qK, qD, sF.moved (u := U) (U := U.calling g mk a) (Vm.Alike.refl U.vm) qZ, nF.same rfl qN⟩, va_recv hK hP (ci := 1) (q0 := a) rfl (wld_o ct ad G y304.1 hc hk (by decide)), fun U hU hW => ⟨rfl, by rw [hU], by rw [hU]; exact hP, va_K.moved hW.alike hK, hD.weaken (fun _ _ _ _ => trivial), by rw [hU]; exact ((hZ.kept hS.2.1).narrow hf9).moved hW.alike, hN.warm hW⟩⟩ rfl rfl hl.1 rfl (lv_room (Nat.le_of_ble_eq_true rfl)) dX1_readData_212 ⟨(Nat.zero_le _), (Nat.zero_le _)⟩) hS (fun q _ h => hf9 q h) hf9 (fun u t H locs ht hvm hw hB hz1 hk1 hS => ?_)
                            obtain ⟨hP, hK9, hD9⟩ := hB
                            rw [ht] at hP
                            have hD := hD9.weaken (fun _ q _ h => hf9 q.1 h)
                            refine lv_goto (tgt := 297) hx hb dX1_readData_215 (by decide) ?_
                            obtain rfl := Option.some.inj hF
                            exact J305 _ _ _ hP hD hS (lv_sub hl [0, 1, 2, 3, 4, 5, 6, 7, 8] rfl)
                    · rw [if_pos c251] at hF
                      obtain rfl := Option.some.inj hF
                      have hF := sel_inr (hwz19 ▸ hR16)
                      obtain rfl := Option.some.inj hF
                      exact W.vret hx hb hr (fun t ht hW => ⟨⟨(), rfl, trivial, ⟨by rw [ht]; exact hP, va_K.moved hW.alike hK, hD⟩⟩, hS.F ht⟩) hS.2.2 dX1_readData_181
                clear hF
                refine itr_rule (fun (s173 : Int32 × Int32 × DD) => ∀ (H : Heap) (locs : List Loc) (ls : Array Slot), va_P D classes (wld ct ad G s173.2.2) H → va_D A (wld ct ad G s173.2.2) → va_S A s.heap H locs → lv_has ls 9 [(8, .int s173.2.1), (7, .int y171.2), (6, .int s17.2.1), (5, .int s173.1), (4, .int y11.2), (3, .int y9), (2, .int y5), (1, va_re ad (M.2 b2 0)), (0, .ref (ad a))] → W p l e (headSpec wuX1_readData ({ frames := 6, cells := 0, slots := 0, locals := 166 })).room s m ([.ref (ad a)] : List Value).toArray below meth c H locs 0 0 (MQ below (va_Qv (fun (_ : Unit) => True) (fun _ t => kE D ct ad G A y t) A) ([.ref (ad a)] : List Value).toArray s 0 0 A) (F0 m 126 ls [])) ?_ _ _ hy172 _ _ _ hP hD hS (lv_sub hl [0, 1, 2, 3, 4, 5, 6, 7, 8] rfl)
                rintro s173 ⟨z325, hF, hwz325⟩ H locs ls hP hD hS hl
                try dsimp only at hF
                refine lv_iload hx hb dX1_readData_126 (lv_at hl 0 rfl) ?_
                refine lv_iload hx hb dX1_readData_128 (lv_at hl 1 rfl) ?_
                refine lv_icmp_ge (tgt := 166) hx hb dX1_readData_130 (by decide) (fun c326 => ?_) (fun c326 => ?_)
                · rw [if_pos c326] at hF
                  obtain rfl := Option.some.inj hF
                  subst hwz325
                  exact K172 _ _ _ hP hD hS (lv_sub hl [0, 1, 2, 3, 4, 5, 6, 7, 8] rfl)
                · rw [if_neg c326] at hF
                  refine lv_aload_n hx hb dX1_readData_133 rfl (lv_at hl 8 rfl) ?_
                  refine lv_iload hx hb dX1_readData_134 (lv_at hl 3 rfl) ?_
                  obtain ⟨y327, hy327, hF⟩ := bnd_some hF
                  have hf9 := wA_in hD hA9 hS
                  refine va_callv (va_runV (As := [.int s173.1]) (rest := []) ⟨hx, hb, hml, hown, hts⟩ (kX1_claim l D ct ad Z G s173.2.2 H.size a s173.1 y327 hc hk hy327) (cwV 1 hts gX1_readData_X1_claim rfl rfl rfl (by decide +kernel) ⟨Nat.le_of_ble_eq_true rfl, Nat.le_of_ble_eq_true rfl⟩) ⟨fun a U g mk q => by obtain ⟨q0, q1, qP, qK, qD, qZ, qN⟩ := q; exact ⟨q0, q1, qP, va_K.moved (u := U) (U := U.calling g mk a) (Vm.Alike.refl U.vm) qK, qD, sF.moved (u := U) (U := U.calling g mk a) (Vm.Alike.refl U.vm) qZ, nF.same rfl qN⟩, va_recv hK hP (ci := 1) (q0 := a) rfl (wld_o ct ad G s173.2.2 hc hk (by decide)), fun U hU hW => ⟨rfl, by rw [hU], by rw [hU]; exact hP, va_K.moved hW.alike hK, hD.weaken (fun _ _ _ _ => trivial), by rw [hU]; exact ((hZ.kept hS.2.1).narrow hf9).moved hW.alike, hN.warm hW⟩⟩ rfl rfl hl.1 rfl (lv_room (Nat.le_of_ble_eq_true rfl)) dX1_readData_136 ⟨(Nat.zero_le _), (Nat.zero_le _)⟩) hS (fun q _ h => hf9 q h) hf9 (fun u t H locs ht hvm hw hB hz1 hk1 hS => ?_)
                  obtain ⟨hP, hK9, hD9⟩ := hB
                  rw [ht] at hP
                  have hD := hD9.weaken (fun _ q _ h => hf9 q.1 h)
                  refine lv_aload_n hx hb dX1_readData_139 rfl (lv_at hl 8 rfl) ?_
                  refine lv_iload hx hb dX1_readData_140 (lv_at hl 3 rfl) ?_
                  obtain ⟨y328, hy328, hF⟩ := bnd_some hF
                  have hf9 := wA_in hD hA9 hS
                  refine va_callv (va_runV (As := [.int s173.1]) (rest := []) ⟨hx, hb, hml, hown, hts⟩ (kX1_readSkipped l D ct ad Z G y327 H.size a s173.1 y328 hc hk hy328) (cwV 1 hts gX1_readData_X1_readSkipped rfl rfl rfl (by decide +kernel) ⟨Nat.le_of_ble_eq_true rfl, Nat.le_of_ble_eq_true rfl⟩) ⟨fun a U g mk q => by obtain ⟨q0, q1, qP, qK, qD, qZ, qN⟩ := q; exact ⟨q0, q1, qP, va_K.moved (u := U) (U := U.calling g mk a) (Vm.Alike.refl U.vm) qK, qD, sF.moved (u := U) (U := U.calling g mk a) (Vm.Alike.refl U.vm) qZ, nF.same rfl qN⟩, va_recv hK hP (ci := 1) (q0 := a) rfl (wld_o ct ad G y327 hc hk (by decide)), fun U hU hW => ⟨rfl, by rw [hU], by rw [hU]; exact hP, va_K.moved hW.alike hK, hD.weaken (fun _ _ _ _ => trivial), by rw [hU]; exact ((hZ.kept hS.2.1).narrow hf9).moved hW.alike, hN.warm hW⟩⟩ rfl rfl hl.1 rfl (lv_room (Nat.le_of_ble_eq_true rfl)) dX1_readData_142 ⟨(Nat.zero_le _), (Nat.zero_le _)⟩) hS (fun q _ h => hf9 q h) hf9 (fun u t H locs ht hvm hw hB hz1 hk1 hS => ?_)
                  obtain ⟨hP, hK9, hD9⟩ := hB
                  rw [ht] at hP
                  have hD := hD9.weaken (fun _ q _ h => hf9 q.1 h)
                  refine lv_aload_n hx hb dX1_readData_145 rfl (lv_at hl 8 rfl) ?_
                  refine lv_iload hx hb dX1_readData_146 (lv_at hl 3 rfl) ?_
                  obtain ⟨y329, hy329, hF⟩ := bnd_some hF
                  have hf9 := wA_in hD hA9 hS
                  refine va_callv (va_runV (As := [.int s173.1]) (rest := []) ⟨hx, hb, hml, hown, hts⟩ (kX1_rebuild l D ct ad Z G y328 H.size a s173.1 y329 hc hk hy329) (cwV 1 hts gX1_readData_X1_rebuild rfl rfl rfl (by decide +kernel) ⟨Nat.le_of_ble_eq_true rfl, Nat.le_of_ble_eq_true rfl⟩) ⟨fun a U g mk q => by obtain ⟨q0, q1, qP, qK, qD, qZ, qN⟩ := q; exact ⟨q0, q1, qP, va_K.moved (u := U) (U := U.calling g mk a) (Vm.Alike.refl U.vm) qK, qD, sF.moved (u := U) (U := U.calling g mk a) (Vm.Alike.refl U.vm) qZ, nF.same rfl qN⟩, va_recv hK hP (ci := 1) (q0 := a) rfl (wld_o ct ad G y328 hc hk (by decide)), fun U hU hW => ⟨rfl, by rw [hU], by rw [hU]; exact hP, va_K.moved hW.alike hK, hD.weaken (fun _ _ _ _ => trivial), by rw [hU]; exact ((hZ.kept hS.2.1).narrow hf9).moved hW.alike, hN.warm hW⟩⟩ rfl rfl hl.1 rfl (lv_room (Nat.le_of_ble_eq_true rfl)) dX1_readData_148 ⟨(Nat.zero_le _), (Nat.zero_le _)⟩) hS (fun q _ h => hf9 q h) hf9 (fun u t H locs ht hvm hw hB hz1 hk1 hS => ?_)
                  obtain ⟨hP, hK9, hD9⟩ := hB
                  rw [ht] at hP
                  have hD := hD9.weaken (fun _ q _ h => hf9 q.1 h)
                  refine lv_aload_n hx hb dX1_readData_151 rfl (lv_at hl 8 rfl) ?_
                  refine lv_iload hx hb dX1_readData_152 (lv_at hl 3 rfl) ?_
                  obtain ⟨y330, hy330, hF⟩ := bnd_some hF
                  have hf9 := wA_in hD hA9 hS
                  refine va_callv (va_runV (As := [.int s173.1]) (rest := []) ⟨hx, hb, hml, hown, hts⟩ (kX1_endBlock l D ct ad Z G y329 H.size a s173.1 y330 hc hk hy330) (cwV 1 hts gX1_readData_X1_endBlock rfl rfl rfl (by decide +kernel) ⟨Nat.le_of_ble_eq_true rfl, Nat.le_of_ble_eq_true rfl⟩) ⟨fun a U g mk q => by obtain ⟨q0, q1, qP, qK, qD, qZ, qN⟩ := q; exact ⟨q0, q1, qP, va_K.moved (u := U) (U := U.calling g mk a) (Vm.Alike.refl U.vm) qK, qD, sF.moved (u := U) (U := U.calling g mk a) (Vm.Alike.refl U.vm) qZ, nF.same rfl qN⟩, va_recv hK hP (ci := 1) (q0 := a) rfl (wld_o ct ad G y329 hc hk (by decide)), fun U hU hW => ⟨rfl, by rw [hU], by rw [hU]; exact hP, va_K.moved hW.alike hK, hD.weaken (fun _ _ _ _ => trivial), by rw [hU]; exact ((hZ.kept hS.2.1).narrow hf9).moved hW.alike, hN.warm hW⟩⟩ rfl rfl hl.1 rfl (lv_room (Nat.le_of_ble_eq_true rfl)) dX1_readData_154 ⟨(Nat.zero_le _), (Nat.zero_le _)⟩) hS (fun q _ h => hf9 q h) hf9 (fun u t H locs ht hvm hw hB hz1 hk1 hS => ?_)
                  obtain ⟨hP, hK9, hD9⟩ := hB
                  rw [ht] at hP
                  have hD := hD9.weaken (fun _ q _ h => hf9 q.1 h)
                  obtain ⟨x331, ex331, hF⟩ := ltt_some hF
                  refine lv_iinc (v := x331) (lv' := [(5, .int x331), (8, .int s173.2.1), (7, .int y171.2), (6, .int s17.2.1), (4, .int y11.2), (3, .int y9), (2, .int y5), (1, va_re ad (M.2 b2 0)), (0, .ref (ad a))]) hx hb dX1_readData_157 hl (k := 3) rfl (by rw [ex331]; rfl) (by decide) rfl (fun ls hl => ?_)
                  obtain ⟨x332, ex332, hF⟩ := ltt_some hF
                  refine lv_iinc (v := x332) (lv' := [(8, .int x332), (5, .int x331), (7, .int y171.2), (6, .int s17.2.1), (4, .int y11.2), (3, .int y9), (2, .int y5), (1, va_re ad (M.2 b2 0)), (0, .ref (ad a))]) hx hb dX1_readData_160 hl (k := 1) rfl (by rw [ex332]; rfl) (by decide) rfl (fun ls hl => ?_)
                  refine lv_goto (tgt := 126) hx hb dX1_readData_163 (by decide) ?_
                  obtain rfl := Option.some.inj hF
                  exact hwz325 _ _ _ hP hD hS (lv_sub hl [0, 2, 3, 1, 4, 5, 6, 7, 8] rfl)
              clear hF
              have hF := hy169
              clear hy169
              refine lv_icmp_ge (tgt := 117) hx hb dX1_readData_105 (by decide) (fun c333 => ?_) (fun c333 => ?_)
              · rw [if_pos c333] at hF
                refine lv_lconst (v := (0 : Int64)) hx hb dX1_readData_117 rfl ?_
                obtain rfl := Option.some.inj hF
                exact J169 _ _ _ hP hD hS (lv_sub hl [0, 1, 2, 3, 4, 5, 6] rfl)
              · rw [if_neg c333] at hF
                refine lv_iload hx hb dX1_readData_108 (lv_at hl 2 rfl) ?_
                refine lv_iload hx hb dX1_readData_110 (lv_at hl 1 rfl) ?_
                refine lv_isub hx hb dX1_readData_112 ?_
                obtain ⟨x334, ex334, hF⟩ := ltt_some hF
                refine lv_topi (fun zx334 ezx334 => ?_)
                obtain rfl : x334 = zx334 := ex334.trans ezx334.symm
                refine lv_i2l (v := x334.toInt64) hx hb dX1_readData_113 rfl ?_
                obtain ⟨x335, ex335, hF⟩ := ltt_some hF
                refine lv_topl (fun zx335 ezx335 => ?_)
                obtain rfl : x335 = zx335 := ex335.trans ezx335.symm
                refine lv_goto (tgt := 118) hx hb dX1_readData_114 (by decide) ?_
                obtain rfl := Option.some.inj hF
                exact J169 _ _ _ hP hD hS (lv_sub hl [0, 1, 2, 3, 4, 5, 6] rfl)
      clear hF
      have hF := hy15
      clear hy15
      refine lv_if_eq (tgt := 76) hx hb dX1_readData_66 (by decide) (fun c336 => ?_) (fun c336 => ?_)
      · rw [if_pos c336] at hF
        obtain rfl := Option.some.inj hF
        exact J15 _ _ _ hP hD hS (lv_sub hl [0, 1, 2, 3, 4, 5] rfl)
      · rw [if_neg c336] at hF
        refine lv_aload_n hx hb dX1_readData_69 rfl (lv_at hl 5 rfl) ?_
        refine va_get (D := D) (ci := 1) (v := va_re ad (M14.2 a 0)) (C := RX1) (T := TX1) (N := 22) hx hb hts (mus hf_X1) hown hK hP a (wld_o ct ad G M14 hc hk (by decide)) rfl 0 (by decide) (hts (.fieldLink RX1 12 "VideoSuite$Decoder" "reader" "LVideoSuite$Reader;") (mu mw_640)) (fun _ h9 => h9) rfl dX1_readData_70 ?_
        obtain ⟨b337, ho337, hc337, hk337, hF⟩ := dr_some hF
        refine W_st (st' := [.ref (ad b337)]) (by rw [va_some ho337]) ?_
        obtain ⟨y338, hy338, hF⟩ := bnd_some hF
        have hf9 := wA_in hD hA9 hS
        refine va_callv (va_runV (As := []) (rest := []) ⟨hx, hb, hml, hown, hts⟩ (kX5_beginData l D ct ad Z G M14 H.size b337 y338 hc337 hk337 hy338) (cwV 0 hts gX1_readData_X5_beginData rfl rfl rfl (by decide +kernel) ⟨Nat.le_of_ble_eq_true rfl, Nat.le_of_ble_eq_true rfl⟩) ⟨fun a U g mk q => by obtain ⟨q0, q1, qP, qK, qD, qZ, qN⟩ := q; exact ⟨q0, q1, qP, va_K.moved (u := U) (U := U.calling g mk a) (Vm.Alike.refl U.vm) qK, qD, sF.moved (u := U) (U := U.calling g mk a) (Vm.Alike.refl U.vm) qZ, nF.same rfl qN⟩, va_recv hK hP (ci := 5) (q0 := b337) rfl (wld_o ct ad G M14 hc337 hk337 (by decide)), fun U hU hW => ⟨rfl, by rw [hU], by rw [hU]; exact hP, va_K.moved hW.alike hK, hD.weaken (fun _ _ _ _ => trivial), by rw [hU]; exact ((hZ.kept hS.2.1).narrow hf9).moved hW.alike, hN.warm hW⟩⟩ rfl rfl hl.1 rfl (lv_room (Nat.le_of_ble_eq_true rfl)) dX1_readData_73 ⟨(Nat.zero_le _), (Nat.zero_le _)⟩) hS (fun q _ h => hf9 q h) hf9 (fun u t H locs ht hvm hw hB hz1 hk1 hS => ?_)
        obtain ⟨hP, hK9, hD9⟩ := hB
        rw [ht] at hP
        have hD := hD9.weaken (fun _ q _ h => hf9 q.1 h)
        obtain rfl := Option.some.inj hF
        exact J15 _ _ _ hP hD hS (lv_sub hl [0, 1, 2, 3, 4, 5] rfl)
    clear hF
    have hF := hy9
    clear hy9
    refine lv_icmp_ne (tgt := 38) hx hb dX1_readData_31 (by decide) (fun c339 => ?_) (fun c339 => ?_)
    · rw [if_neg c339] at hF
      refine lv_iconst (v := (0 : Int32)) hx hb dX1_readData_38 (by decide) ?_
      obtain rfl := Option.some.inj hF
      exact J9 _ _ _ hP hD hS (lv_sub hl [0, 1, 2] rfl)
    · rw [if_pos c339] at hF
      refine lv_iconst (v := (1 : Int32)) hx hb dX1_readData_34 (by decide) ?_
      refine lv_goto (tgt := 39) hx hb dX1_readData_35 (by decide) ?_
      obtain rfl := Option.some.inj hF
      exact J9 _ _ _ hP hD hS (lv_sub hl [0, 1, 2] rfl)
  clear hF
  have hF := hy5
  clear hy5
  refine lv_icmp_ne (tgt := 19) hx hb dX1_readData_12 (by decide) (fun c340 => ?_) (fun c340 => ?_)
  · rw [if_neg c340] at hF
    refine lv_iconst (v := (0 : Int32)) hx hb dX1_readData_19 (by decide) ?_
    obtain rfl := Option.some.inj hF
    exact J5 _ _ _ hP hD hS (lv_sub hl [0, 1] rfl)
  · rw [if_pos c340] at hF
    refine lv_iconst (v := (1 : Int32)) hx hb dX1_readData_15 (by decide) ?_
    refine lv_goto (tgt := 20) hx hb dX1_readData_16 (by decide) ?_
    obtain rfl := Option.some.inj hF
    exact J5 _ _ _ hP hD hS (lv_sub hl [0, 1] rfl)
