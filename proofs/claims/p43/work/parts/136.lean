set_option maxRecDepth 20000 in
theorem gL_encode_X11_encode : GoodIn wuL_encode (wsV RL 33 RX11 yX11_encode wuX11_encode) := gu_V mw_2410 mw_2411 mw_2412 mw_166 mw_2413
theorem dL_encode_0 : decode cL_encode 0 = .ok (.aload_n 1, 1) := by decide +kernel
theorem dL_encode_1 : decode cL_encode 1 = .ok (.iconst 0, 1) := by decide +kernel
theorem dL_encode_2 : decode cL_encode 2 = .ok (.aload_n 0, 1) := by decide +kernel
theorem dL_encode_3 : decode cL_encode 3 = .ok (.invokevirtual 33, 3) := by decide +kernel
theorem dL_encode_6 : decode cL_encode 6 = .ok (.iastore, 1) := by decide +kernel
theorem dL_encode_7 : decode cL_encode 7 = .ok (.goto 6, 3) := by decide +kernel
theorem dL_encode_10 : decode cL_encode 10 = .ok (.astore_n 2, 1) := by decide +kernel
theorem dL_encode_11 : decode cL_encode 11 = .ok (.iconst 1, 1) := by decide +kernel
theorem dL_encode_12 : decode cL_encode 12 = .ok (.ireturn, 1) := by decide +kernel
theorem dL_encode_13 : decode cL_encode 13 = .ok (.iconst 0, 1) := by decide +kernel
theorem dL_encode_14 : decode cL_encode 14 = .ok (.ireturn, 1) := by decide +kernel
noncomputable def FL_encode (G : GG) (M : DD) (p0 : Option Nat) (p1 : Option Nat) : Option (NN × DD × Int32) :=
  dr (xt G []) 11 p0 fun b2 =>
  chk (okd (xt G []) p1 = true) <|
  bnd (FX11_encode (xt G []) M b2) fun y3 =>
  app y3.1 <|
  ltt ([] ++ y3.1) fun L6 =>
  dr (xt G L6) 13 p1 fun b9 =>
  chk (¬ (((0 : Int32)) < 0 ∨ (xt G L6).2.2 b9 ≤ ((0 : Int32)).toNatClampNeg)) <|
  ltt (uI y3.2.1 b9 ((0 : Int32)).toNatClampNeg y3.2.2) fun M10 =>
  some ([], (M10, (0 : Int32)))
set_option maxHeartbeats 4000000 in
set_option maxRecDepth 100000 in
theorem kL_encode (l : Launch) (D : va_G) (ct : CT) (ad : Nat → Nat) (Z : Nat → Nat) (G : GG) (M : DD) (sz : Nat) (p0 : Option Nat) (p1 : Option Nat) (y : NN × DD × Int32) (hF : FL_encode G M p0 p1 = some y) : Met l yL_encode wuL_encode ({ frames := 10, cells := y.1.length, slots := wt y.1, locals := 294 }) (va_Pc [va_re ad p0, va_re ad p1] (kB D ct ad Z G M sz)) (va_Qi (fun (q : Int32) (u : Nat → Nat) => q = y.2.2 ∧ agr G.1 ad u) (fun u t => kE D ct u (xt G y.1) (wA ad G sz) y.2.1 t) (wA ad G sz)) y.1.length (wt y.1) (wA ad G sz) := by
  refine mt_ofWH (cc := cL_encode) (maxL := 3) (ret := (some .int)) (hh := [(0, 7, 10, 15)]) (by decide) rfl ?_
  intro p e s m args below meth c s₁ B hml hv
  obtain ⟨rfl, hsz, hP, hK, hD0, hZ, hN⟩ := hv
  have hx := B.exec
  have hb := B.bytes
  have hr := B.returns
  have hts := atoms_spec (ws := wuL_encode) B.pre
  have hown : s.vm.findClass RL = some m.cls := findClass_of_methodNamed B.named
  have hlocks := B.notSynchronized
  subst hsz
  have hD := wD_self (sz := s.heap.size) hD0
  have hA9 : ∀ q, s.heap.size ≤ q → wA ad G s.heap.size q := fun q h => Or.inr h
  generalize hAe : wA ad G s.heap.size = A at hD hA9 hZ ⊢
  have hS : va_S A s.heap s.heap [] := va_S.rf
  have hl := lv_entry ([va_re ad p0, va_re ad p1]) (n := 3) (by cases p0 <;> cases p1 <;> exact Nat.le_of_ble_eq_true rfl)
  rw [lg_entry_eq]
  generalize (lg_sl ([va_re ad p0, va_re ad p1]) ++ List.replicate (3 - (lg_sl ([va_re ad p0, va_re ad p1])).length) Slot.unset).toArray = ls at hl ⊢
  have hl : lv_has ls 3 [(0, va_re ad p0), (1, va_re ad p1)] := by have e9 : lv_args 0 [va_re ad p0, va_re ad p1] = [(0, va_re ad p0), (1, va_re ad p1)] := (by cases p0 <;> cases p1 <;> rfl); rw [e9] at hl; exact hl
  unfold FL_encode at hF
  rw [← wld_0 ct ad G M] at hP hD
  have hag := agr_rf G.1 ad
  obtain ⟨w0, hw0⟩ : ∃ z, z = y := ⟨_, rfl⟩
  rw [← hw0] at hF
  have hT : y.1 = [] ++ w0.1 := by rw [hw0]; rfl
  have h2 : y.2 = w0.2 := by rw [hw0]
  have hbl : y.1.length ≤ y.1.length ∧ wt y.1 ≤ wt y.1 := ⟨Nat.le_refl _, Nat.le_refl _⟩
  refine lv_aloadq_n hx hb dL_encode_0 rfl (lv_at hl 1 rfl) ?_
  refine lv_iconst (v := (0 : Int32)) hx hb dL_encode_1 (by decide) ?_
  refine lv_aloadq_n hx hb dL_encode_2 rfl (lv_at hl 0 rfl) ?_
  obtain ⟨b2, ho2, hc2, hk2, hF⟩ := dr_some hF
  refine W_st (st' := [.ref (ad b2), .int (0 : Int32), va_re ad p1]) (by rw [va_some ho2]) ?_
  obtain ⟨hq4, hF⟩ := chk_some hF
  obtain ⟨y3, hy3, hF⟩ := bnd_some hF
  obtain ⟨w5, hF, ew5⟩ := app_some hF
  obtain ⟨L6, eL6, hF⟩ := ltt_some hF
  have hT6 : y.1 = ([] ++ y3.1) ++ w5.1 := by rw [hT, ew5]; simp only [List.append_assoc]
  have hf9 := wA_in hD hA9 hS
  refine va_calli (va_runV (As := []) (rest := [.int (0 : Int32), va_re ad p1]) ⟨hx, hb, hml, hown, hts⟩ (kX11_encode l D ct ad Z (xt G []) M _ b2 y3 hc2 hk2 hy3) (cwV 0 hts gL_encode_X11_encode rfl rfl rfl (by decide +kernel) ⟨Nat.le_of_ble_eq_true rfl, Nat.le_of_ble_eq_true rfl⟩) ⟨fun a U g mk q => by obtain ⟨q0, q1, qP, qK, qD, qZ, qN⟩ := q; exact ⟨q0, q1, qP, va_K.moved (u := U) (U := U.calling g mk a) (Vm.Alike.refl U.vm) qK, qD, sF.moved (u := U) (U := U.calling g mk a) (Vm.Alike.refl U.vm) qZ, nF.same rfl qN⟩, va_recv hK hP (ci := 11) (q0 := b2) rfl (wld_o ct ad (xt G []) M hc2 hk2 (by decide)), fun U hU hW => ⟨rfl, by rw [hU], by rw [hU]; exact hP, va_K.moved hW.alike hK, hD.weaken (fun _ _ _ _ => trivial), by rw [hU]; exact ((hZ.kept hS.2.1).narrow hf9).moved hW.alike, hN.warm hW⟩⟩ rfl rfl hl.1 rfl (lv_room (by simp only [List.map, va_re_cat]; exact Nat.le_of_ble_eq_true rfl)) dL_encode_3 (room_s hT6 hbl)) hS (fun q _ h => hf9 q h) hf9 (fun r ad7 t H locs ht hvm hw hB hz1 hk1 hS => ?_)
  obtain ⟨hw, hn8⟩ := hw
  subst hw
  obtain ⟨hP, hK9, hD9⟩ := hB
  rw [ht] at hP
  have hD := hD9.weaken (fun _ q _ h => hf9 q.1 h)
  rw [xt_xt, ← eL6] at hP hD
  refine W_cs (k := L6.length) (n := wt L6) (by rw [eL6]; exact (len_s [] y3.1).symm) (by rw [eL6]; exact (wt_app [] y3.1).symm) ?_
  have hT : y.1 = L6 ++ w5.1 := by rw [hT6, eL6]
  have h2 : y.2 = w5.2 := by rw [h2, ew5]
  have hl := lv_sub (l' := []) hl [] rfl
  refine W_st (st' := [.int y3.2.2, .int (0 : Int32), va_re ad7 p1]) (by first | rfl | simp only [agr_re hn8 hq4]) ?_
  have hk2 : (xt G L6).2.1 b2 = 11 := by rw [eL6]; exact xt_k _ hc2 hk2
  have hc2 : b2 < (xt G L6).1 := by rw [eL6]; exact xt_l _ hc2
  have hag := agr_t (xt_ge _ _) hag hn8
  obtain ⟨b9, ho9, hc9, hk9, hF⟩ := dr_some hF
  refine W_st (st' := [.int y3.2.2, .int (0 : Int32), .ref (ad7 b9)]) (by rw [va_some ho9]) ?_
  obtain ⟨hvc, hF⟩ := chk_some hF
  refine va_iast hx hb hK hP hD hS b9 1 (wld_i ct ad7 (xt G L6) y3.2.1 hc9 hk9) rfl hvc dL_encode_6 (fun H locs hP hD hS => ?_)
  obtain ⟨M10, eM10, hF⟩ := ltt_some hF
  rw [set_i ct ad7 (xt G L6) y3.2.1 hc9 hk9, ← eM10] at hP hD
  refine lv_goto (tgt := 13) hx hb dL_encode_7 (by decide) ?_
  refine lv_iconst (v := (0 : Int32)) hx hb dL_encode_13 (by decide) ?_
  obtain rfl := Option.some.inj hF
  have e1 : y.1 = L6 := by rw [hT]; exact List.append_nil _
  have e2 : y.2 = (M10, (0 : Int32)) := h2
  refine W.widen (k := y.1.length) (n := wt y.1) (Nat.le_of_eq (by rw [e1])) (Nat.le_of_eq (by rw [e1])) ?_
  exact W.iret (v := (0 : Int32)) hx hb hr (fun t ht hW => ⟨⟨_, ad7, rfl, ⟨by rw [e2], hag⟩, (by unfold kE; rw [e1, e2]; exact ⟨by rw [ht]; exact hP, va_K.moved hW.alike hK, hD⟩)⟩, hS.F ht⟩) hS.2.2 dL_encode_14
set_option maxRecDepth 20000 in
theorem gL_finish_X11_finish : GoodIn wuL_finish (wsV RL 37 RX11 yX11_finish wuX11_finish) := gu_V mw_2730 mw_2731 mw_2732 mw_166 mw_2733
theorem dL_finish_0 : decode cL_finish 0 = .ok (.aload_n 1, 1) := by decide +kernel
theorem dL_finish_1 : decode cL_finish 1 = .ok (.iconst 0, 1) := by decide +kernel
theorem dL_finish_2 : decode cL_finish 2 = .ok (.aload_n 0, 1) := by decide +kernel
theorem dL_finish_3 : decode cL_finish 3 = .ok (.invokevirtual 37, 3) := by decide +kernel
theorem dL_finish_6 : decode cL_finish 6 = .ok (.iastore, 1) := by decide +kernel
theorem dL_finish_7 : decode cL_finish 7 = .ok (.goto 6, 3) := by decide +kernel
theorem dL_finish_10 : decode cL_finish 10 = .ok (.astore_n 2, 1) := by decide +kernel
theorem dL_finish_11 : decode cL_finish 11 = .ok (.iconst 1, 1) := by decide +kernel
theorem dL_finish_12 : decode cL_finish 12 = .ok (.ireturn, 1) := by decide +kernel
theorem dL_finish_13 : decode cL_finish 13 = .ok (.iconst 0, 1) := by decide +kernel
theorem dL_finish_14 : decode cL_finish 14 = .ok (.ireturn, 1) := by decide +kernel
noncomputable def FL_finish (G : GG) (M : DD) (p0 : Option Nat) (p1 : Option Nat) : Option (NN × DD × Int32) :=
  dr (xt G []) 11 p0 fun b2 =>
  chk (okd (xt G []) p1 = true) <|
  bnd (FX11_finish (xt G []) M b2) fun y3 =>
  app y3.1 <|
  ltt ([] ++ y3.1) fun L6 =>
  dr (xt G L6) 13 p1 fun b9 =>
  chk (¬ (((0 : Int32)) < 0 ∨ (xt G L6).2.2 b9 ≤ ((0 : Int32)).toNatClampNeg)) <|
  ltt (uI y3.2.1 b9 ((0 : Int32)).toNatClampNeg y3.2.2) fun M10 =>
  some ([], (M10, (0 : Int32)))
set_option maxHeartbeats 4000000 in
set_option maxRecDepth 100000 in
theorem kL_finish (l : Launch) (D : va_G) (ct : CT) (ad : Nat → Nat) (Z : Nat → Nat) (G : GG) (M : DD) (sz : Nat) (p0 : Option Nat) (p1 : Option Nat) (y : NN × DD × Int32) (hF : FL_finish G M p0 p1 = some y) : Met l yL_finish wuL_finish ({ frames := 10, cells := y.1.length, slots := wt y.1, locals := 293 }) (va_Pc [va_re ad p0, va_re ad p1] (kB D ct ad Z G M sz)) (va_Qi (fun (q : Int32) (u : Nat → Nat) => q = y.2.2 ∧ agr G.1 ad u) (fun u t => kE D ct u (xt G y.1) (wA ad G sz) y.2.1 t) (wA ad G sz)) y.1.length (wt y.1) (wA ad G sz) := by
  refine mt_ofWH (cc := cL_finish) (maxL := 3) (ret := (some .int)) (hh := [(0, 7, 10, 15)]) (by decide) rfl ?_
  intro p e s m args below meth c s₁ B hml hv
  obtain ⟨rfl, hsz, hP, hK, hD0, hZ, hN⟩ := hv
  have hx := B.exec
  have hb := B.bytes
  have hr := B.returns
  have hts := atoms_spec (ws := wuL_finish) B.pre
  have hown : s.vm.findClass RL = some m.cls := findClass_of_methodNamed B.named
  have hlocks := B.notSynchronized
  subst hsz
  have hD := wD_self (sz := s.heap.size) hD0
  have hA9 : ∀ q, s.heap.size ≤ q → wA ad G s.heap.size q := fun q h => Or.inr h
  generalize hAe : wA ad G s.heap.size = A at hD hA9 hZ ⊢
  have hS : va_S A s.heap s.heap [] := va_S.rf
  have hl := lv_entry ([va_re ad p0, va_re ad p1]) (n := 3) (by cases p0 <;> cases p1 <;> exact Nat.le_of_ble_eq_true rfl)
  rw [lg_entry_eq]
  generalize (lg_sl ([va_re ad p0, va_re ad p1]) ++ List.replicate (3 - (lg_sl ([va_re ad p0, va_re ad p1])).length) Slot.unset).toArray = ls at hl ⊢
  have hl : lv_has ls 3 [(0, va_re ad p0), (1, va_re ad p1)] := by have e9 : lv_args 0 [va_re ad p0, va_re ad p1] = [(0, va_re ad p0), (1, va_re ad p1)] := (by cases p0 <;> cases p1 <;> rfl); rw [e9] at hl; exact hl
  unfold FL_finish at hF
  rw [← wld_0 ct ad G M] at hP hD
  have hag := agr_rf G.1 ad
  obtain ⟨w0, hw0⟩ : ∃ z, z = y := ⟨_, rfl⟩
  rw [← hw0] at hF
  have hT : y.1 = [] ++ w0.1 := by rw [hw0]; rfl
  have h2 : y.2 = w0.2 := by rw [hw0]
  have hbl : y.1.length ≤ y.1.length ∧ wt y.1 ≤ wt y.1 := ⟨Nat.le_refl _, Nat.le_refl _⟩
  refine lv_aloadq_n hx hb dL_finish_0 rfl (lv_at hl 1 rfl) ?_
  refine lv_iconst (v := (0 : Int32)) hx hb dL_finish_1 (by decide) ?_
  refine lv_aloadq_n hx hb dL_finish_2 rfl (lv_at hl 0 rfl) ?_
  obtain ⟨b2, ho2, hc2, hk2, hF⟩ := dr_some hF
  refine W_st (st' := [.ref (ad b2), .int (0 : Int32), va_re ad p1]) (by rw [va_some ho2]) ?_
  obtain ⟨hq4, hF⟩ := chk_some hF
  obtain ⟨y3, hy3, hF⟩ := bnd_some hF
  obtain ⟨w5, hF, ew5⟩ := app_some hF
  obtain ⟨L6, eL6, hF⟩ := ltt_some hF
  have hT6 : y.1 = ([] ++ y3.1) ++ w5.1 := by rw [hT, ew5]; simp only [List.append_assoc]
  have hf9 := wA_in hD hA9 hS
  refine va_calli (va_runV (As := []) (rest := [.int (0 : Int32), va_re ad p1]) ⟨hx, hb, hml, hown, hts⟩ (kX11_finish l D ct ad Z (xt G []) M _ b2 y3 hc2 hk2 hy3) (cwV 0 hts gL_finish_X11_finish rfl rfl rfl (by decide +kernel) ⟨Nat.le_of_ble_eq_true rfl, Nat.le_of_ble_eq_true rfl⟩) ⟨fun a U g mk q => by obtain ⟨q0, q1, qP, qK, qD, qZ, qN⟩ := q; exact ⟨q0, q1, qP, va_K.moved (u := U) (U := U.calling g mk a) (Vm.Alike.refl U.vm) qK, qD, sF.moved (u := U) (U := U.calling g mk a) (Vm.Alike.refl U.vm) qZ, nF.same rfl qN⟩, va_recv hK hP (ci := 11) (q0 := b2) rfl (wld_o ct ad (xt G []) M hc2 hk2 (by decide)), fun U hU hW => ⟨rfl, by rw [hU], by rw [hU]; exact hP, va_K.moved hW.alike hK, hD.weaken (fun _ _ _ _ => trivial), by rw [hU]; exact ((hZ.kept hS.2.1).narrow hf9).moved hW.alike, hN.warm hW⟩⟩ rfl rfl hl.1 rfl (lv_room (by simp only [List.map, va_re_cat]; exact Nat.le_of_ble_eq_true rfl)) dL_finish_3 (room_s hT6 hbl)) hS (fun q _ h => hf9 q h) hf9 (fun r ad7 t H locs ht hvm hw hB hz1 hk1 hS => ?_)
  obtain ⟨hw, hn8⟩ := hw
  subst hw
  obtain ⟨hP, hK9, hD9⟩ := hB
  rw [ht] at hP
  have hD := hD9.weaken (fun _ q _ h => hf9 q.1 h)
  rw [xt_xt, ← eL6] at hP hD
  refine W_cs (k := L6.length) (n := wt L6) (by rw [eL6]; exact (len_s [] y3.1).symm) (by rw [eL6]; exact (wt_app [] y3.1).symm) ?_
  have hT : y.1 = L6 ++ w5.1 := by rw [hT6, eL6]
  have h2 : y.2 = w5.2 := by rw [h2, ew5]
  have hl := lv_sub (l' := []) hl [] rfl
  refine W_st (st' := [.int y3.2.2, .int (0 : Int32), va_re ad7 p1]) (by first | rfl | simp only [agr_re hn8 hq4]) ?_
  have hk2 : (xt G L6).2.1 b2 = 11 := by rw [eL6]; exact xt_k _ hc2 hk2
  have hc2 : b2 < (xt G L6).1 := by rw [eL6]; exact xt_l _ hc2
  have hag := agr_t (xt_ge _ _) hag hn8
  obtain ⟨b9, ho9, hc9, hk9, hF⟩ := dr_some hF
  refine W_st (st' := [.int y3.2.2, .int (0 : Int32), .ref (ad7 b9)]) (by rw [va_some ho9]) ?_
  obtain ⟨hvc, hF⟩ := chk_some hF
  refine va_iast hx hb hK hP hD hS b9 1 (wld_i ct ad7 (xt G L6) y3.2.1 hc9 hk9) rfl hvc dL_finish_6 (fun H locs hP hD hS => ?_)
  obtain ⟨M10, eM10, hF⟩ := ltt_some hF
  rw [set_i ct ad7 (xt G L6) y3.2.1 hc9 hk9, ← eM10] at hP hD
  refine lv_goto (tgt := 13) hx hb dL_finish_7 (by decide) ?_
  refine lv_iconst (v := (0 : Int32)) hx hb dL_finish_13 (by decide) ?_
  obtain rfl := Option.some.inj hF
  have e1 : y.1 = L6 := by rw [hT]; exact List.append_nil _
  have e2 : y.2 = (M10, (0 : Int32)) := h2
  refine W.widen (k := y.1.length) (n := wt y.1) (Nat.le_of_eq (by rw [e1])) (Nat.le_of_eq (by rw [e1])) ?_
  exact W.iret (v := (0 : Int32)) hx hb hr (fun t ht hW => ⟨⟨_, ad7, rfl, ⟨by rw [e2], hag⟩, (by unfold kE; rw [e1, e2]; exact ⟨by rw [ht]; exact hP, va_K.moved hW.alike hK, hD⟩)⟩, hS.F ht⟩) hS.2.2 dL_finish_14
set_option maxRecDepth 20000 in
theorem gX11_decode_X1_takeUnit : GoodIn wuX11_decode (wsV RX11 139 RX1 yX1_takeUnit wuX1_takeUnit) := gu_V mw_1300 mw_1301 mw_1302 mw_168 mw_1303
theorem dX11_decode_0 : decode cX11_decode 0 = .ok (.iload_n 1, 1) := by decide +kernel
theorem dX11_decode_1 : decode cX11_decode 1 = .ok (.iconst 1, 1) := by decide +kernel
theorem dX11_decode_2 : decode cX11_decode 2 = .ok (.if_icmp .lt 10, 3) := by decide +kernel
theorem dX11_decode_5 : decode cX11_decode 5 = .ok (.iload_n 1, 1) := by decide +kernel
theorem dX11_decode_6 : decode cX11_decode 6 = .ok (.sipush 400, 3) := by decide +kernel
theorem dX11_decode_9 : decode cX11_decode 9 = .ok (.if_icmp .le 13, 3) := by decide +kernel
theorem dX11_decode_12 : decode cX11_decode 12 = .ok (.new 51, 3) := by decide +kernel
theorem dX11_decode_15 : decode cX11_decode 15 = .ok (.dup, 1) := by decide +kernel
theorem dX11_decode_16 : decode cX11_decode 16 = .ok (.ldc 132, 2) := by decide +kernel
theorem dX11_decode_18 : decode cX11_decode 18 = .ok (.invokespecial 55, 3) := by decide +kernel
theorem dX11_decode_21 : decode cX11_decode 21 = .ok (.athrow, 1) := by decide +kernel
theorem dX11_decode_22 : decode cX11_decode 22 = .ok (.aload_n 0, 1) := by decide +kernel
theorem dX11_decode_23 : decode cX11_decode 23 = .ok (.getfield 24, 3) := by decide +kernel
theorem dX11_decode_26 : decode cX11_decode 26 = .ok (.getfield 134, 3) := by decide +kernel
theorem dX11_decode_29 : decode cX11_decode 29 = .ok (.sipush 16000, 3) := by decide +kernel
theorem dX11_decode_32 : decode cX11_decode 32 = .ok (.if_icmp .lt 13, 3) := by decide +kernel
theorem dX11_decode_35 : decode cX11_decode 35 = .ok (.new 40, 3) := by decide +kernel
theorem dX11_decode_38 : decode cX11_decode 38 = .ok (.dup, 1) := by decide +kernel
theorem dX11_decode_39 : decode cX11_decode 39 = .ok (.ldc 137, 2) := by decide +kernel
theorem dX11_decode_41 : decode cX11_decode 41 = .ok (.invokespecial 44, 3) := by decide +kernel
theorem dX11_decode_44 : decode cX11_decode 44 = .ok (.athrow, 1) := by decide +kernel
theorem dX11_decode_45 : decode cX11_decode 45 = .ok (.iconst 0, 1) := by decide +kernel
theorem dX11_decode_46 : decode cX11_decode 46 = .ok (.istore_n 2, 1) := by decide +kernel
theorem dX11_decode_47 : decode cX11_decode 47 = .ok (.aload_n 0, 1) := by decide +kernel
theorem dX11_decode_48 : decode cX11_decode 48 = .ok (.getfield 17, 3) := by decide +kernel
theorem dX11_decode_51 : decode cX11_decode 51 = .ok (.getfield 114, 3) := by decide +kernel
theorem dX11_decode_54 : decode cX11_decode 54 = .ok (.istore_n 3, 1) := by decide +kernel
theorem dX11_decode_55 : decode cX11_decode 55 = .ok (.iload_n 3, 1) := by decide +kernel
theorem dX11_decode_56 : decode cX11_decode 56 = .ok (.aload_n 0, 1) := by decide +kernel
theorem dX11_decode_57 : decode cX11_decode 57 = .ok (.getfield 17, 3) := by decide +kernel
theorem dX11_decode_60 : decode cX11_decode 60 = .ok (.getfield 82, 3) := by decide +kernel
theorem dX11_decode_63 : decode cX11_decode 63 = .ok (.if_icmp .ge 29, 3) := by decide +kernel
theorem dX11_decode_66 : decode cX11_decode 66 = .ok (.iload_n 2, 1) := by decide +kernel
theorem dX11_decode_67 : decode cX11_decode 67 = .ok (.iload_n 1, 1) := by decide +kernel
theorem dX11_decode_68 : decode cX11_decode 68 = .ok (.if_icmp .ge 24, 3) := by decide +kernel
theorem dX11_decode_71 : decode cX11_decode 71 = .ok (.aload_n 0, 1) := by decide +kernel
theorem dX11_decode_72 : decode cX11_decode 72 = .ok (.getfield 24, 3) := by decide +kernel
theorem dX11_decode_75 : decode cX11_decode 75 = .ok (.aload_n 0, 1) := by decide +kernel
theorem dX11_decode_76 : decode cX11_decode 76 = .ok (.getfield 17, 3) := by decide +kernel
theorem dX11_decode_79 : decode cX11_decode 79 = .ok (.iload_n 3, 1) := by decide +kernel
theorem dX11_decode_80 : decode cX11_decode 80 = .ok (.invokevirtual 139, 3) := by decide +kernel
theorem dX11_decode_83 : decode cX11_decode 83 = .ok (.iinc 2 1, 3) := by decide +kernel
theorem dX11_decode_86 : decode cX11_decode 86 = .ok (.iinc 3 1, 3) := by decide +kernel
theorem dX11_decode_89 : decode cX11_decode 89 = .ok (.goto (-34), 3) := by decide +kernel
theorem dX11_decode_92 : decode cX11_decode 92 = .ok (.iload_n 2, 1) := by decide +kernel
theorem dX11_decode_93 : decode cX11_decode 93 = .ok (.ireturn, 1) := by decide +kernel
noncomputable def FX11_decode (G : GG) (M : DD) (a : Nat) (p0 : Int32) : Option (NN × DD × Int32) :=
  bnd (if p0 < ((1 : Int32)) then (none) else
  (some ())) fun (y1 : Unit) =>
  bnd (if p0 ≤ ((400 : Int32)) then (some ()) else
  (none)) fun (y2 : Unit) =>
  dr (xt G []) 1 ((M.2 a 3)) fun b3 =>
  ltt (M.1 b3 19) fun x4 =>
  bnd (if x4 < ((16000 : Int32)) then (some ()) else
  (none)) fun (y5 : Unit) =>
  dr (xt G []) 8 ((M.2 a 2)) fun b6 =>
  ltt (M.1 b6 4) fun x7 =>
  bnd (itrA (fun (s9 : NN × Int32 × Int32 × DD) => ((dr (xt G s9.1) 8 ((s9.2.2.2.2 a 2)) fun b18 =>
  ltt (s9.2.2.2.1 b18 3) fun x19 =>
  if x19 ≤ s9.2.2.1 then (some ([], .inr ((s9.2.1, s9.2.2.1, s9.2.2.2)))) else
  (if p0 ≤ s9.2.1 then (some ([], .inr ((s9.2.1, s9.2.2.1, s9.2.2.2)))) else
  (dr (xt G s9.1) 1 ((s9.2.2.2.2 a 3)) fun b22 =>
  bnd (FX1_takeUnit (xt G s9.1) s9.2.2.2 b22 ((s9.2.2.2.2 a 2)) s9.2.2.1) fun y23 =>
  app y23.1 <|
  ltt (s9.1 ++ y23.1) fun L25 =>
  ltt (s9.2.1 + (1 : Int32)) fun x28 =>
  ltt (s9.2.2.1 + (1 : Int32)) fun x29 =>
  some ([], .inl (L25, (x28, x29, y23.2)))))) : Option (NN × ((NN × Int32 × Int32 × DD) ⊕ (Int32 × Int32 × DD))))) 1000000 ([], ((0 : Int32), x7, M))) fun (y8 : NN × Int32 × Int32 × DD) =>
  app y8.1 <|
  ltt ([] ++ y8.1) fun L11 =>
  some ([], (y8.2.2.2, y8.2.1))
set_option maxHeartbeats 4000000 in
set_option maxRecDepth 100000 in
theorem kX11_decode (l : Launch) (D : va_G) (ct : CT) (ad : Nat → Nat) (Z : Nat → Nat) (G : GG) (M : DD) (sz : Nat) (a : Nat) (p0 : Int32) (y : NN × DD × Int32) (hc : a < G.1) (hk : G.2.1 a = 11) (hF : FX11_decode G M a p0 = some y) : Met l yX11_decode wuX11_decode ({ frames := 8, cells := y.1.length, slots := wt y.1, locals := 224 }) (va_Pc [.ref (ad a), .int p0] (kB D ct ad Z G M sz)) (va_Qi (fun (q : Int32) (u : Nat → Nat) => q = y.2.2 ∧ agr G.1 ad u) (fun u t => kE D ct u (xt G y.1) (wA ad G sz) y.2.1 t) (wA ad G sz)) y.1.length (wt y.1) (wA ad G sz) := by
  refine Met.ofW (cc := cX11_decode) (maxL := 4) (ret := (some .int)) (by decide) rfl ?_
  intro p e s m args below meth c s₁ B hml hv
  obtain ⟨rfl, hsz, hP, hK, hD0, hZ, hN⟩ := hv
  have hx := B.exec
  have hb := B.bytes
  have hr := B.returns
  have hts := atoms_spec (ws := wuX11_decode) B.pre
  have hown : s.vm.findClass RX11 = some m.cls := findClass_of_methodNamed B.named
  have hlocks := B.notSynchronized
  subst hsz
  have hD := wD_self (sz := s.heap.size) hD0
  have hA9 : ∀ q, s.heap.size ≤ q → wA ad G s.heap.size q := fun q h => Or.inr h
  generalize hAe : wA ad G s.heap.size = A at hD hA9 hZ ⊢
  have hS : va_S A s.heap s.heap [] := va_S.rf
  have hl := lv_entry ([.ref (ad a), .int p0]) (n := 4) (Nat.le_of_ble_eq_true rfl)
  rw [lg_entry_eq]
  generalize (lg_sl ([.ref (ad a), .int p0]) ++ List.replicate (4 - (lg_sl ([.ref (ad a), .int p0])).length) Slot.unset).toArray = ls at hl ⊢
  have hl : lv_has ls 4 [(0, .ref (ad a)), (1, .int p0)] := hl
  unfold FX11_decode at hF
  rw [← wld_0 ct ad G M] at hP hD
  have hk := xt_k0 hc hk
  have hc := xt_l0 hc
  have hag := agr_rf G.1 ad
  obtain ⟨w0, hw0⟩ : ∃ z, z = y := ⟨_, rfl⟩
  rw [← hw0] at hF
  have hT : y.1 = [] ++ w0.1 := by rw [hw0]; rfl
  have h2 : y.2 = w0.2 := by rw [hw0]
  have hbl : y.1.length ≤ y.1.length ∧ wt y.1 ≤ wt y.1 := ⟨Nat.le_refl _, Nat.le_refl _⟩
  refine lv_iload_n hx hb dX11_decode_0 rfl (lv_at hl 1 rfl) ?_
  refine lv_iconst (v := (1 : Int32)) hx hb dX11_decode_1 (by decide) ?_
  obtain ⟨y1, hy1, hF⟩ := bnd_some hF
  have J1 : ∀ (H : Heap) (locs : List Loc) (ls : Array Slot), va_P D classes (wld ct ad (xt G []) M) H → va_D A (wld ct ad (xt G []) M) → va_S A s.heap H locs → lv_has ls 4 [(0, .ref (ad a)), (1, .int p0)] → W p l e (headSpec wuX11_decode ({ frames := 8, cells := y.1.length, slots := wt y.1, locals := 224 })).room s m ([.ref (ad a), .int p0] : List Value).toArray below meth c H locs ([] : NN).length (wt []) (MQ below (va_Qi (fun (q : Int32) (u : Nat → Nat) => q = y.2.2 ∧ agr G.1 ad u) (fun u t => kE D ct u (xt G y.1) A y.2.1 t) A) ([.ref (ad a), .int p0] : List Value).toArray s y.1.length (wt y.1) A) (F0 m 5 ls []) := by
    intro H locs ls hP hD hS hl
    refine lv_iload_n hx hb dX11_decode_5 rfl (lv_at hl 1 rfl) ?_
    refine lv_sipush (v := (400 : Int32)) hx hb dX11_decode_6 (by decide) ?_
    obtain ⟨y2, hy2, hF⟩ := bnd_some hF
    have J2 : ∀ (H : Heap) (locs : List Loc) (ls : Array Slot), va_P D classes (wld ct ad (xt G []) M) H → va_D A (wld ct ad (xt G []) M) → va_S A s.heap H locs → lv_has ls 4 [(0, .ref (ad a)), (1, .int p0)] → W p l e (headSpec wuX11_decode ({ frames := 8, cells := y.1.length, slots := wt y.1, locals := 224 })).room s m ([.ref (ad a), .int p0] : List Value).toArray below meth c H locs ([] : NN).length (wt []) (MQ below (va_Qi (fun (q : Int32) (u : Nat → Nat) => q = y.2.2 ∧ agr G.1 ad u) (fun u t => kE D ct u (xt G y.1) A y.2.1 t) A) ([.ref (ad a), .int p0] : List Value).toArray s y.1.length (wt y.1) A) (F0 m 22 ls []) := by
      intro H locs ls hP hD hS hl
      refine lv_aload_n hx hb dX11_decode_22 rfl (lv_at hl 0 rfl) ?_
      refine va_get (D := D) (ci := 11) (v := va_re ad (M.2 a 3)) (C := RX11) (T := TX11) (N := 5) hx hb hts (mus hf_X11) hown hK hP a (wld_o ct ad (xt G []) M hc hk (by decide)) rfl 3 (by decide) (hts (.fieldLink RX11 24 "VideoSuite" "decoder" "LVideoSuite$Decoder;") (mu mw_885)) (fun _ h9 => h9) rfl dX11_decode_23 ?_
      obtain ⟨b3, ho3, hc3, hk3, hF⟩ := dr_some hF
      refine W_st (st' := [.ref (ad b3)]) (by rw [va_some ho3]) ?_
      refine va_get (D := D) (ci := 1) (v := .int (M.1 b3 19)) (C := RX1) (T := TX1) (N := 22) hx hb hts (mus hf_X1) hown hK hP b3 (wld_o ct ad (xt G []) M hc3 hk3 (by decide)) rfl 19 (by decide) (hts (.fieldLink RX11 134 "VideoSuite$Decoder" "effort" "I") (mu mw_665)) (fun _ h9 => h9) rfl dX11_decode_26 ?_
      obtain ⟨x4, ex4, hF⟩ := ltt_some hF
      refine lv_topi (fun zx4 ezx4 => ?_)
      obtain rfl : x4 = zx4 := ex4.trans ezx4.symm
      refine lv_sipush (v := (16000 : Int32)) hx hb dX11_decode_29 (by decide) ?_
      obtain ⟨y5, hy5, hF⟩ := bnd_some hF
      have J5 : ∀ (H : Heap) (locs : List Loc) (ls : Array Slot), va_P D classes (wld ct ad (xt G []) M) H → va_D A (wld ct ad (xt G []) M) → va_S A s.heap H locs → lv_has ls 4 [(0, .ref (ad a)), (1, .int p0)] → W p l e (headSpec wuX11_decode ({ frames := 8, cells := y.1.length, slots := wt y.1, locals := 224 })).room s m ([.ref (ad a), .int p0] : List Value).toArray below meth c H locs ([] : NN).length (wt []) (MQ below (va_Qi (fun (q : Int32) (u : Nat → Nat) => q = y.2.2 ∧ agr G.1 ad u) (fun u t => kE D ct u (xt G y.1) A y.2.1 t) A) ([.ref (ad a), .int p0] : List Value).toArray s y.1.length (wt y.1) A) (F0 m 45 ls []) := by
        intro H locs ls hP hD hS hl
        refine lv_iconst (v := (0 : Int32)) hx hb dX11_decode_45 (by decide) ?_
        refine lv_istore_n (lv' := [(2, .int (0 : Int32)), (0, .ref (ad a)), (1, .int p0)]) hx hb dX11_decode_46 rfl hl (by decide) rfl (fun ls hl => ?_)
        refine lv_aload_n hx hb dX11_decode_47 rfl (lv_at hl 1 rfl) ?_
        refine va_get (D := D) (ci := 11) (v := va_re ad (M.2 a 2)) (C := RX11) (T := TX11) (N := 5) hx hb hts (mus hf_X11) hown hK hP a (wld_o ct ad (xt G []) M hc hk (by decide)) rfl 2 (by decide) (hts (.fieldLink RX11 17 "VideoSuite" "units" "LVideoSuite$Units;") (mu mw_884)) (fun _ h9 => h9) rfl dX11_decode_48 ?_
        obtain ⟨b6, ho6, hc6, hk6, hF⟩ := dr_some hF
        refine W_st (st' := [.ref (ad b6)]) (by rw [va_some ho6]) ?_
        refine va_get (D := D) (ci := 8) (v := .int (M.1 b6 4)) (C := RX8) (T := TX8) (N := 15) hx hb hts (mus hf_X8) hown hK hP b6 (wld_o ct ad (xt G []) M hc6 hk6 (by decide)) rfl 4 (by decide) (hts (.fieldLink RX11 114 "VideoSuite$Units" "decoded" "I") (mu mw_219)) (fun _ h9 => h9) rfl dX11_decode_51 ?_
        obtain ⟨x7, ex7, hF⟩ := ltt_some hF
        refine lv_topi (fun zx7 ezx7 => ?_)
        obtain rfl : x7 = zx7 := ex7.trans ezx7.symm
        refine lv_istore_n (lv' := [(3, .int x7), (2, .int (0 : Int32)), (0, .ref (ad a)), (1, .int p0)]) hx hb dX11_decode_54 rfl hl (by decide) rfl (fun ls hl => ?_)
        obtain ⟨y8, hy8, hF⟩ := bnd_some hF
        obtain ⟨w10, hF, ew10⟩ := app_some hF
        obtain ⟨L11, eL11, hF⟩ := ltt_some hF
        have hT11 : y.1 = ([] ++ y8.1) ++ w10.1 := by rw [hT, ew10]; simp only [List.append_assoc]
        have hbl11 : L11.length ≤ y.1.length ∧ wt L11 ≤ wt y.1 := by rw [eL11]; exact room_d hT11 hbl
        have K8 : ∀ (ad12 : Nat → Nat), agr G.1 ad ad12 → ∀ (H : Heap) (locs : List Loc) (ls : Array Slot), va_P D classes (wld ct ad12 (xt G L11) y8.2.2.2) H → va_D A (wld ct ad12 (xt G L11) y8.2.2.2) → va_S A s.heap H locs → lv_has ls 4 [(2, .int y8.2.1)] → W p l e (headSpec wuX11_decode ({ frames := 8, cells := y.1.length, slots := wt y.1, locals := 224 })).room s m ([.ref (ad a), .int p0] : List Value).toArray below meth c H locs (L11 : NN).length (wt L11) (MQ below (va_Qi (fun (q : Int32) (u : Nat → Nat) => q = y.2.2 ∧ agr G.1 ad u) (fun u t => kE D ct u (xt G y.1) A y.2.1 t) A) ([.ref (ad a), .int p0] : List Value).toArray s y.1.length (wt y.1) A) (F0 m 92 ls []) := by
          intro ad12 hag H locs ls hP hD hS hl
          have hT : y.1 = L11 ++ w10.1 := by rw [hT11, eL11]
          have h2 : y.2 = w10.2 := by rw [h2, ew10]
          have hk : (xt G L11).2.1 a = 11 := by rw [eL11]; exact xt_k _ hc hk
          have hc : a < (xt G L11).1 := by rw [eL11]; exact xt_l _ hc
          have hk3 : (xt G L11).2.1 b3 = 1 := by rw [eL11]; exact xt_k _ hc3 hk3
          have hc3 : b3 < (xt G L11).1 := by rw [eL11]; exact xt_l _ hc3
          have hk6 : (xt G L11).2.1 b6 = 8 := by rw [eL11]; exact xt_k _ hc6 hk6
          have hc6 : b6 < (xt G L11).1 := by rw [eL11]; exact xt_l _ hc6
          refine lv_iload_n hx hb dX11_decode_92 rfl (lv_at hl 0 rfl) ?_
          obtain rfl := Option.some.inj hF
          have e1 : y.1 = L11 := by rw [hT]; exact List.append_nil _
          have e2 : y.2 = (y8.2.2.2, y8.2.1) := h2
          refine W.widen (k := y.1.length) (n := wt y.1) (Nat.le_of_eq (by rw [e1])) (Nat.le_of_eq (by rw [e1])) ?_
          exact W.iret (v := y8.2.1) hx hb hr (fun t ht hW => ⟨⟨_, ad12, rfl, ⟨by rw [e2], hag⟩, (by unfold kE; rw [e1, e2]; exact ⟨by rw [ht]; exact hP, va_K.moved hW.alike hK, hD⟩)⟩, hS.F ht⟩) hS.2.2 dX11_decode_93
        clear hF
        refine itrA_rule (fun (s9 : NN × Int32 × Int32 × DD) (r14 : NN) => (∃ t, s9.1 = [] ++ t) → L11 = s9.1 ++ r14 → ∀ (ad13 : Nat → Nat), agr G.1 ad ad13 → ∀ (H : Heap) (locs : List Loc) (ls : Array Slot), va_P D classes (wld ct ad13 (xt G s9.1) s9.2.2.2) H → va_D A (wld ct ad13 (xt G s9.1) s9.2.2.2) → va_S A s.heap H locs → lv_has ls 4 [(3, .int s9.2.2.1), (2, .int s9.2.1), (0, .ref (ad13 a)), (1, .int p0)] → W p l e (headSpec wuX11_decode ({ frames := 8, cells := y.1.length, slots := wt y.1, locals := 224 })).room s m ([.ref (ad a), .int p0] : List Value).toArray below meth c H locs (s9.1 : NN).length (wt s9.1) (MQ below (va_Qi (fun (q : Int32) (u : Nat → Nat) => q = y.2.2 ∧ agr G.1 ad u) (fun u t => kE D ct u (xt G y.1) A y.2.1 t) A) ([.ref (ad a), .int p0] : List Value).toArray s y.1.length (wt y.1) A) (F0 m 55 ls [])) ?_ _ _ _ hy8 ⟨[], (List.append_nil _).symm⟩ eL11 _ hag _ _ _ hP hD hS (lv_sub hl [0, 1, 2, 3] rfl)
        rintro s9 r14 ⟨z15, hF, ⟨t8, et8⟩, hwz15⟩ ⟨u8, eu8⟩ eq8 ad13 hag H locs ls hP hD hS hl
        try dsimp only at hF
        obtain ⟨L16, eL16⟩ : ∃ x, x = s9.1 ++ z15.1 := ⟨_, rfl⟩
        obtain ⟨w17, hw17⟩ : ∃ x, x = z15 := ⟨_, rfl⟩
        rw [← hw17] at hF
        have hbl : L16.length ≤ y.1.length ∧ wt L16 ≤ wt y.1 := room_d (show L11 = L16 ++ t8 by rw [eq8, et8, eL16]; simp only [List.append_assoc]) hbl11
        have hT : L16 = s9.1 ++ w17.1 := by rw [eL16, hw17]
        have h2 : z15.2 = w17.2 := by rw [hw17]
        have hk : (xt G s9.1).2.1 a = 11 := by rw [eu8]; exact xt_k _ hc hk
        have hc : a < (xt G s9.1).1 := by rw [eu8]; exact xt_l _ hc
        have hk3 : (xt G s9.1).2.1 b3 = 1 := by rw [eu8]; exact xt_k _ hc3 hk3
        have hc3 : b3 < (xt G s9.1).1 := by rw [eu8]; exact xt_l _ hc3
        have hk6 : (xt G s9.1).2.1 b6 = 8 := by rw [eu8]; exact xt_k _ hc6 hk6
        have hc6 : b6 < (xt G s9.1).1 := by rw [eu8]; exact xt_l _ hc6
        refine lv_iload_n hx hb dX11_decode_55 rfl (lv_at hl 0 rfl) ?_
        refine lv_aload_n hx hb dX11_decode_56 rfl (lv_at hl 2 rfl) ?_
        refine va_get (D := D) (ci := 11) (v := va_re ad13 (s9.2.2.2.2 a 2)) (C := RX11) (T := TX11) (N := 5) hx hb hts (mus hf_X11) hown hK hP a (wld_o ct ad13 (xt G s9.1) s9.2.2.2 hc hk (by decide)) rfl 2 (by decide) (hts (.fieldLink RX11 17 "VideoSuite" "units" "LVideoSuite$Units;") (mu mw_884)) (fun _ h9 => h9) rfl dX11_decode_57 ?_
        obtain ⟨b18, ho18, hc18, hk18, hF⟩ := dr_some hF
        refine W_st (st' := [.ref (ad13 b18), .int s9.2.2.1]) (by rw [va_some ho18]) ?_
        refine va_get (D := D) (ci := 8) (v := .int (s9.2.2.2.1 b18 3)) (C := RX8) (T := TX8) (N := 15) hx hb hts (mus hf_X8) hown hK hP b18 (wld_o ct ad13 (xt G s9.1) s9.2.2.2 hc18 hk18 (by decide)) rfl 3 (by decide) (hts (.fieldLink RX11 82 "VideoSuite$Units" "count" "I") (mu mw_215)) (fun _ h9 => h9) rfl dX11_decode_60 ?_
        obtain ⟨x19, ex19, hF⟩ := ltt_some hF
        refine lv_topi (fun zx19 ezx19 => ?_)
        obtain rfl : x19 = zx19 := ex19.trans ezx19.symm
        refine lv_icmp_ge (tgt := 92) hx hb dX11_decode_63 (by decide) (fun c20 => ?_) (fun c20 => ?_)
        · rw [if_pos c20] at hF
          obtain rfl := Option.some.inj hF
          have e1 : L16 = s9.1 := by rw [hT]; exact List.append_nil _
          have e2 : z15.2 = .inr ((s9.2.1, s9.2.2.1, s9.2.2.2)) := h2
          rw [e2] at hwz15
          obtain ⟨hw1, hw2⟩ := hwz15
          have e8 : L11 = s9.1 := by rw [eq8, hw2, ← eL16, e1]
          rw [e8] at K8
          try rw [← hw1] at K8
          exact K8 _ hag _ _ _ hP hD hS (lv_sub hl [1] rfl)
        · rw [if_neg c20] at hF
          refine lv_iload_n hx hb dX11_decode_66 rfl (lv_at hl 1 rfl) ?_
          refine lv_iload_n hx hb dX11_decode_67 rfl (lv_at hl 3 rfl) ?_
          refine lv_icmp_ge (tgt := 92) hx hb dX11_decode_68 (by decide) (fun c21 => ?_) (fun c21 => ?_)
          · rw [if_pos c21] at hF
            obtain rfl := Option.some.inj hF
            have e1 : L16 = s9.1 := by rw [hT]; exact List.append_nil _
            have e2 : z15.2 = .inr ((s9.2.1, s9.2.2.1, s9.2.2.2)) := h2
            rw [e2] at hwz15
            obtain ⟨hw1, hw2⟩ := hwz15
            have e8 : L11 = s9.1 := by rw [eq8, hw2, ← eL16, e1]
            rw [e8] at K8
            try rw [← hw1] at K8
            exact K8 _ hag _ _ _ hP hD hS (lv_sub hl [1] rfl)
          · rw [if_neg c21] at hF
            refine lv_aload_n hx hb dX11_decode_71 rfl (lv_at hl 2 rfl) ?_
            refine va_get (D := D) (ci := 11) (v := va_re ad13 (s9.2.2.2.2 a 3)) (C := RX11) (T := TX11) (N := 5) hx hb hts (mus hf_X11) hown hK hP a (wld_o ct ad13 (xt G s9.1) s9.2.2.2 hc hk (by decide)) rfl 3 (by decide) (hts (.fieldLink RX11 24 "VideoSuite" "decoder" "LVideoSuite$Decoder;") (mu mw_885)) (fun _ h9 => h9) rfl dX11_decode_72 ?_
            refine lv_aload_n hx hb dX11_decode_75 rfl (lv_at hl 2 rfl) ?_
            refine va_get (D := D) (ci := 11) (v := va_re ad13 (s9.2.2.2.2 a 2)) (C := RX11) (T := TX11) (N := 5) hx hb hts (mus hf_X11) hown hK hP a (wld_o ct ad13 (xt G s9.1) s9.2.2.2 hc hk (by decide)) rfl 2 (by decide) (hts (.fieldLink RX11 17 "VideoSuite" "units" "LVideoSuite$Units;") (mu mw_884)) (fun _ h9 => h9) rfl dX11_decode_76 ?_
            refine lv_iload_n hx hb dX11_decode_79 rfl (lv_at hl 0 rfl) ?_
            obtain ⟨b22, ho22, hc22, hk22, hF⟩ := dr_some hF
            refine W_st (st' := [.int s9.2.2.1, va_re ad13 (s9.2.2.2.2 a 2), .ref (ad13 b22)]) (by rw [va_some ho22]) ?_
            obtain ⟨y23, hy23, hF⟩ := bnd_some hF
            obtain ⟨w24, hF, ew24⟩ := app_some hF
            obtain ⟨L25, eL25, hF⟩ := ltt_some hF
            have hT25 : L16 = (s9.1 ++ y23.1) ++ w24.1 := by rw [hT, ew24]; simp only [List.append_assoc]
            have hf9 := wA_in hD hA9 hS
            refine va_callv (vx_runVW (As := [va_re ad13 (s9.2.2.2.2 a 2), .int s9.2.2.1]) (rest := []) ⟨hx, hb, hml, hown, hts⟩ (kX1_takeUnit l D ct ad13 Z (xt G s9.1) s9.2.2.2 _ b22 ((s9.2.2.2.2 a 2)) s9.2.2.1 y23 hc22 hk22 hy23) (vx_cwVW 2 hts gX11_decode_X1_takeUnit rfl rfl rfl (by decide +kernel) ⟨Nat.le_of_ble_eq_true rfl, Nat.le_of_ble_eq_true rfl⟩) ⟨fun a U g mk q => by obtain ⟨q0, q1, qP, qK, qD, qZ, qN⟩ := q; exact ⟨q0, q1, qP, va_K.moved (u := U) (U := U.calling g mk a) (Vm.Alike.refl U.vm) qK, qD, sF.moved (u := U) (U := U.calling g mk a) (Vm.Alike.refl U.vm) qZ, nF.same rfl qN⟩, va_recv hK hP (ci := 1) (q0 := b22) rfl (wld_o ct ad13 (xt G s9.1) s9.2.2.2 hc22 hk22 (by decide)), fun U hU hW => ⟨rfl, by rw [hU], by rw [hU]; exact hP, va_K.moved hW.alike hK, hD.weaken (fun _ _ _ _ => trivial), by rw [hU]; exact ((hZ.kept hS.2.1).narrow hf9).moved hW.alike, hN.warm hW⟩⟩ rfl rfl hl.1 rfl (lv_room (Nat.le_of_ble_eq_true rfl)) dX11_decode_80 (room_s hT25 hbl)) hS (fun q _ h => hf9 q h) hf9 (fun ad26 t H locs ht hvm hw hB hz1 hk1 hS => ?_)
            have hn27 := hw
            obtain ⟨hP, hK9, hD9⟩ := hB
            rw [ht] at hP
            have hD := hD9.weaken (fun _ q _ h => hf9 q.1 h)
            rw [xt_xt, ← eL25] at hP hD
            refine W_cs (k := L25.length) (n := wt L25) (by rw [eL25]; exact (len_s s9.1 y23.1).symm) (by rw [eL25]; exact (wt_app s9.1 y23.1).symm) ?_
            have hT : L16 = L25 ++ w24.1 := by rw [hT25, eL25]
            have h2 : z15.2 = w24.2 := by rw [h2, ew24]
            have hl := lv_sub (l' := [(3, .int s9.2.2.1), (2, .int s9.2.1), (0, .ref (ad13 a)), (1, .int p0)]) hl [0, 1, 2, 3] rfl
            have e9 : ([(3, .int s9.2.2.1), (2, .int s9.2.1), (0, .ref (ad13 a)), (1, .int p0)] : List (Nat × Value)) = [(3, .int s9.2.2.1), (2, .int s9.2.1), (0, .ref (ad26 a)), (1, .int p0)] := (by first | rfl | simp only [hn27 a hc])
            rw [e9] at hl
            clear e9
            have hk : (xt G L25).2.1 a = 11 := by rw [eL25]; exact xt_k _ hc hk
            have hc : a < (xt G L25).1 := by rw [eL25]; exact xt_l _ hc
            have hk3 : (xt G L25).2.1 b3 = 1 := by rw [eL25]; exact xt_k _ hc3 hk3
            have hc3 : b3 < (xt G L25).1 := by rw [eL25]; exact xt_l _ hc3
            have hk6 : (xt G L25).2.1 b6 = 8 := by rw [eL25]; exact xt_k _ hc6 hk6
            have hc6 : b6 < (xt G L25).1 := by rw [eL25]; exact xt_l _ hc6
            have hk18 : (xt G L25).2.1 b18 = 8 := by rw [eL25]; exact xt_k _ hc18 hk18
            have hc18 : b18 < (xt G L25).1 := by rw [eL25]; exact xt_l _ hc18
            have hk22 : (xt G L25).2.1 b22 = 1 := by rw [eL25]; exact xt_k _ hc22 hk22
            have hc22 : b22 < (xt G L25).1 := by rw [eL25]; exact xt_l _ hc22
            have hag := agr_t (xt_ge _ _) hag hn27
            obtain ⟨x28, ex28, hF⟩ := ltt_some hF
            refine lv_iinc (v := x28) (lv' := [(2, .int x28), (3, .int s9.2.2.1), (0, .ref (ad26 a)), (1, .int p0)]) hx hb dX11_decode_83 hl (k := 1) rfl (by rw [ex28]; rfl) (by decide) rfl (fun ls hl => ?_)
            obtain ⟨x29, ex29, hF⟩ := ltt_some hF
            refine lv_iinc (v := x29) (lv' := [(3, .int x29), (2, .int x28), (0, .ref (ad26 a)), (1, .int p0)]) hx hb dX11_decode_86 hl (k := 1) rfl (by rw [ex29]; rfl) (by decide) rfl (fun ls hl => ?_)
            refine lv_goto (tgt := 55) hx hb dX11_decode_89 (by decide) ?_
            obtain rfl := Option.some.inj hF
            have e1 : L16 = L25 := by rw [hT]; exact List.append_nil _
            have e2 : z15.2 = .inl (L25, (x28, x29, y23.2)) := h2
            rw [e2] at hwz15
            obtain ⟨r2, er2, hwz15⟩ := hwz15
            exact hwz15 ⟨u8 ++ z15.1, by show L25 = _; rw [← e1, eL16, eu8]; simp only [List.append_assoc]⟩ (by show L11 = L25 ++ r2; rw [eq8, er2, ← e1, eL16]; simp only [List.append_assoc]) _ hag _ _ _ hP hD hS (lv_sub hl [0, 1, 2, 3] rfl)
      clear hF
      have hF := hy5
      clear hy5
      refine lv_icmp_lt (tgt := 45) hx hb dX11_decode_32 (by decide) (fun c30 => ?_) (fun c30 => ?_)
      · rw [if_pos c30] at hF
        obtain rfl := Option.some.inj hF
        exact J5 _ _ _ hP hD hS (lv_sub hl [0, 1] rfl)
      · rw [if_neg c30] at hF
        cases hF
    clear hF
    have hF := hy2
    clear hy2
    refine lv_icmp_le (tgt := 22) hx hb dX11_decode_9 (by decide) (fun c31 => ?_) (fun c31 => ?_)
    · rw [if_pos c31] at hF
      obtain rfl := Option.some.inj hF
      exact J2 _ _ _ hP hD hS (lv_sub hl [0, 1] rfl)
    · rw [if_neg c31] at hF
      cases hF
  clear hF
  have hF := hy1
  clear hy1
  refine lv_icmp_lt (tgt := 12) hx hb dX11_decode_2 (by decide) (fun c32 => ?_) (fun c32 => ?_)
  · rw [if_pos c32] at hF
    cases hF
  · rw [if_neg c32] at hF
    obtain rfl := Option.some.inj hF
    exact J1 _ _ _ hP hD hS (lv_sub hl [0, 1] rfl)
set_option maxRecDepth 20000 in
theorem gL_decode_X11_decode : GoodIn wuL_decode (wsV RL 7 RX11 yX11_decode wuX11_decode) := gu_V mw_1213 mw_1214 mw_1215 mw_166 mw_1216
theorem dL_decode_0 : decode cL_decode 0 = .ok (.aload_n 2, 1) := by decide +kernel
theorem dL_decode_1 : decode cL_decode 1 = .ok (.iconst 0, 1) := by decide +kernel
theorem dL_decode_2 : decode cL_decode 2 = .ok (.aload_n 0, 1) := by decide +kernel
theorem dL_decode_3 : decode cL_decode 3 = .ok (.iload_n 1, 1) := by decide +kernel
theorem dL_decode_4 : decode cL_decode 4 = .ok (.invokevirtual 7, 3) := by decide +kernel
theorem dL_decode_7 : decode cL_decode 7 = .ok (.iastore, 1) := by decide +kernel
theorem dL_decode_8 : decode cL_decode 8 = .ok (.goto 9, 3) := by decide +kernel
theorem dL_decode_11 : decode cL_decode 11 = .ok (.astore_n 3, 1) := by decide +kernel
theorem dL_decode_12 : decode cL_decode 12 = .ok (.iconst 1, 1) := by decide +kernel
theorem dL_decode_13 : decode cL_decode 13 = .ok (.ireturn, 1) := by decide +kernel
theorem dL_decode_14 : decode cL_decode 14 = .ok (.astore_n 3, 1) := by decide +kernel
theorem dL_decode_15 : decode cL_decode 15 = .ok (.iconst 2, 1) := by decide +kernel
theorem dL_decode_16 : decode cL_decode 16 = .ok (.ireturn, 1) := by decide +kernel
theorem dL_decode_17 : decode cL_decode 17 = .ok (.iconst 0, 1) := by decide +kernel
theorem dL_decode_18 : decode cL_decode 18 = .ok (.ireturn, 1) := by decide +kernel
noncomputable def FL_decode (G : GG) (M : DD) (p0 : Option Nat) (p1 : Int32) (p2 : Option Nat) : Option (NN × DD × Int32) :=
  dr (xt G []) 11 p0 fun b2 =>
  chk (okd (xt G []) p2 = true) <|
  bnd (FX11_decode (xt G []) M b2 p1) fun y3 =>
  app y3.1 <|
  ltt ([] ++ y3.1) fun L6 =>
  dr (xt G L6) 13 p2 fun b9 =>
  chk (¬ (((0 : Int32)) < 0 ∨ (xt G L6).2.2 b9 ≤ ((0 : Int32)).toNatClampNeg)) <|
  ltt (uI y3.2.1 b9 ((0 : Int32)).toNatClampNeg y3.2.2) fun M10 =>
  some ([], (M10, (0 : Int32)))
set_option maxHeartbeats 4000000 in
set_option maxRecDepth 100000 in
theorem kL_decode (l : Launch) (D : va_G) (ct : CT) (ad : Nat → Nat) (Z : Nat → Nat) (G : GG) (M : DD) (sz : Nat) (p0 : Option Nat) (p1 : Int32) (p2 : Option Nat) (y : NN × DD × Int32) (hF : FL_decode G M p0 p1 p2 = some y) : Met l yL_decode wuL_decode ({ frames := 9, cells := y.1.length, slots := wt y.1, locals := 247 }) (va_Pc [va_re ad p0, .int p1, va_re ad p2] (kB D ct ad Z G M sz)) (va_Qi (fun (q : Int32) (u : Nat → Nat) => q = y.2.2 ∧ agr G.1 ad u) (fun u t => kE D ct u (xt G y.1) (wA ad G sz) y.2.1 t) (wA ad G sz)) y.1.length (wt y.1) (wA ad G sz) := by
  refine mt_ofWH (cc := cL_decode) (maxL := 4) (ret := (some .int)) (hh := [(0, 8, 11, 13), (0, 8, 14, 15)]) (by decide) rfl ?_
  intro p e s m args below meth c s₁ B hml hv
  obtain ⟨rfl, hsz, hP, hK, hD0, hZ, hN⟩ := hv
  have hx := B.exec
  have hb := B.bytes
  have hr := B.returns
  have hts := atoms_spec (ws := wuL_decode) B.pre
  have hown : s.vm.findClass RL = some m.cls := findClass_of_methodNamed B.named
  have hlocks := B.notSynchronized
  subst hsz
  have hD := wD_self (sz := s.heap.size) hD0
  have hA9 : ∀ q, s.heap.size ≤ q → wA ad G s.heap.size q := fun q h => Or.inr h
  generalize hAe : wA ad G s.heap.size = A at hD hA9 hZ ⊢
  have hS : va_S A s.heap s.heap [] := va_S.rf
  have hl := lv_entry ([va_re ad p0, .int p1, va_re ad p2]) (n := 4) (by cases p0 <;> cases p2 <;> exact Nat.le_of_ble_eq_true rfl)
  rw [lg_entry_eq]
  generalize (lg_sl ([va_re ad p0, .int p1, va_re ad p2]) ++ List.replicate (4 - (lg_sl ([va_re ad p0, .int p1, va_re ad p2])).length) Slot.unset).toArray = ls at hl ⊢
  have hl : lv_has ls 4 [(0, va_re ad p0), (1, .int p1), (2, va_re ad p2)] := by have e9 : lv_args 0 [va_re ad p0, .int p1, va_re ad p2] = [(0, va_re ad p0), (1, .int p1), (2, va_re ad p2)] := (by cases p0 <;> cases p2 <;> rfl); rw [e9] at hl; exact hl
  unfold FL_decode at hF
  rw [← wld_0 ct ad G M] at hP hD
  have hag := agr_rf G.1 ad
  obtain ⟨w0, hw0⟩ : ∃ z, z = y := ⟨_, rfl⟩
  rw [← hw0] at hF
  have hT : y.1 = [] ++ w0.1 := by rw [hw0]; rfl
  have h2 : y.2 = w0.2 := by rw [hw0]
  have hbl : y.1.length ≤ y.1.length ∧ wt y.1 ≤ wt y.1 := ⟨Nat.le_refl _, Nat.le_refl _⟩
  refine lv_aloadq_n hx hb dL_decode_0 rfl (lv_at hl 2 rfl) ?_
  refine lv_iconst (v := (0 : Int32)) hx hb dL_decode_1 (by decide) ?_
  refine lv_aloadq_n hx hb dL_decode_2 rfl (lv_at hl 0 rfl) ?_
  refine lv_iload_n hx hb dL_decode_3 rfl (lv_at hl 1 rfl) ?_
  obtain ⟨b2, ho2, hc2, hk2, hF⟩ := dr_some hF
  refine W_st (st' := [.int p1, .ref (ad b2), .int (0 : Int32), va_re ad p2]) (by rw [va_some ho2]) ?_
  obtain ⟨hq4, hF⟩ := chk_some hF
  obtain ⟨y3, hy3, hF⟩ := bnd_some hF
  obtain ⟨w5, hF, ew5⟩ := app_some hF
  obtain ⟨L6, eL6, hF⟩ := ltt_some hF
  have hT6 : y.1 = ([] ++ y3.1) ++ w5.1 := by rw [hT, ew5]; simp only [List.append_assoc]
  have hf9 := wA_in hD hA9 hS
  refine va_calli (va_runV (As := [.int p1]) (rest := [.int (0 : Int32), va_re ad p2]) ⟨hx, hb, hml, hown, hts⟩ (kX11_decode l D ct ad Z (xt G []) M _ b2 p1 y3 hc2 hk2 hy3) (cwV 1 hts gL_decode_X11_decode rfl rfl rfl (by decide +kernel) ⟨Nat.le_of_ble_eq_true rfl, Nat.le_of_ble_eq_true rfl⟩) ⟨fun a U g mk q => by obtain ⟨q0, q1, qP, qK, qD, qZ, qN⟩ := q; exact ⟨q0, q1, qP, va_K.moved (u := U) (U := U.calling g mk a) (Vm.Alike.refl U.vm) qK, qD, sF.moved (u := U) (U := U.calling g mk a) (Vm.Alike.refl U.vm) qZ, nF.same rfl qN⟩, va_recv hK hP (ci := 11) (q0 := b2) rfl (wld_o ct ad (xt G []) M hc2 hk2 (by decide)), fun U hU hW => ⟨rfl, by rw [hU], by rw [hU]; exact hP, va_K.moved hW.alike hK, hD.weaken (fun _ _ _ _ => trivial), by rw [hU]; exact ((hZ.kept hS.2.1).narrow hf9).moved hW.alike, hN.warm hW⟩⟩ rfl rfl hl.1 rfl (lv_room (by simp only [List.map, va_re_cat]; exact Nat.le_of_ble_eq_true rfl)) dL_decode_4 (room_s hT6 hbl)) hS (fun q _ h => hf9 q h) hf9 (fun r ad7 t H locs ht hvm hw hB hz1 hk1 hS => ?_)
  obtain ⟨hw, hn8⟩ := hw
  subst hw
  obtain ⟨hP, hK9, hD9⟩ := hB
  rw [ht] at hP
  have hD := hD9.weaken (fun _ q _ h => hf9 q.1 h)
  rw [xt_xt, ← eL6] at hP hD
  refine W_cs (k := L6.length) (n := wt L6) (by rw [eL6]; exact (len_s [] y3.1).symm) (by rw [eL6]; exact (wt_app [] y3.1).symm) ?_
  have hT : y.1 = L6 ++ w5.1 := by rw [hT6, eL6]
  have h2 : y.2 = w5.2 := by rw [h2, ew5]
  have hl := lv_sub (l' := []) hl [] rfl
  refine W_st (st' := [.int y3.2.2, .int (0 : Int32), va_re ad7 p2]) (by first | rfl | simp only [agr_re hn8 hq4]) ?_
  have hk2 : (xt G L6).2.1 b2 = 11 := by rw [eL6]; exact xt_k _ hc2 hk2
  have hc2 : b2 < (xt G L6).1 := by rw [eL6]; exact xt_l _ hc2
  have hag := agr_t (xt_ge _ _) hag hn8
  obtain ⟨b9, ho9, hc9, hk9, hF⟩ := dr_some hF
  refine W_st (st' := [.int y3.2.2, .int (0 : Int32), .ref (ad7 b9)]) (by rw [va_some ho9]) ?_
  obtain ⟨hvc, hF⟩ := chk_some hF
  refine va_iast hx hb hK hP hD hS b9 1 (wld_i ct ad7 (xt G L6) y3.2.1 hc9 hk9) rfl hvc dL_decode_7 (fun H locs hP hD hS => ?_)
  obtain ⟨M10, eM10, hF⟩ := ltt_some hF
  rw [set_i ct ad7 (xt G L6) y3.2.1 hc9 hk9, ← eM10] at hP hD
  refine lv_goto (tgt := 17) hx hb dL_decode_8 (by decide) ?_
  refine lv_iconst (v := (0 : Int32)) hx hb dL_decode_17 (by decide) ?_
  obtain rfl := Option.some.inj hF
  have e1 : y.1 = L6 := by rw [hT]; exact List.append_nil _
  have e2 : y.2 = (M10, (0 : Int32)) := h2
  refine W.widen (k := y.1.length) (n := wt y.1) (Nat.le_of_eq (by rw [e1])) (Nat.le_of_eq (by rw [e1])) ?_
  exact W.iret (v := (0 : Int32)) hx hb hr (fun t ht hW => ⟨⟨_, ad7, rfl, ⟨by rw [e2], hag⟩, (by unfold kE; rw [e1, e2]; exact ⟨by rw [ht]; exact hP, va_K.moved hW.alike hK, hD⟩)⟩, hS.F ht⟩) hS.2.2 dL_decode_18
