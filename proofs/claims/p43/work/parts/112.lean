set_option maxRecDepth 20000 in
theorem gX0_inputSum_X0_wide : GoodIn wuX0_inputSum (wsV RX0 176 RX0 yX0_wide wuX0_wide) := gu_V mw_2376 mw_2378 mw_112 mw_175 mw_2379
set_option maxRecDepth 20000 in
set_option maxRecDepth 20000 in
theorem gX0_inputSum_X0_high : GoodIn wuX0_inputSum (wsV RX0 180 RX0 yX0_high wuX0_high) := gu_V mw_2380 mw_2382 mw_113 mw_175 mw_2383
set_option maxRecDepth 20000 in
set_option maxRecDepth 20000 in
theorem gX0_inputSum_X11_hash_n183 : GoodIn wuX0_inputSum wuX11_hash := gu_P mw_2341
theorem dX0_inputSum_0 : decode cX0_inputSum 0 = .ok (.aload_n 0, 1) := by decide +kernel
theorem dX0_inputSum_1 : decode cX0_inputSum 1 = .ok (.getfield 66, 3) := by decide +kernel
theorem dX0_inputSum_4 : decode cX0_inputSum 4 = .ok (.bipush 9, 2) := by decide +kernel
theorem dX0_inputSum_6 : decode cX0_inputSum 6 = .ok (.aaload, 1) := by decide +kernel
theorem dX0_inputSum_7 : decode cX0_inputSum 7 = .ok (.iconst 0, 1) := by decide +kernel
theorem dX0_inputSum_8 : decode cX0_inputSum 8 = .ok (.aload_n 0, 1) := by decide +kernel
theorem dX0_inputSum_9 : decode cX0_inputSum 9 = .ok (.iconst 0, 1) := by decide +kernel
theorem dX0_inputSum_10 : decode cX0_inputSum 10 = .ok (.invokevirtual 176, 3) := by decide +kernel
theorem dX0_inputSum_13 : decode cX0_inputSum 13 = .ok (.aload_n 0, 1) := by decide +kernel
theorem dX0_inputSum_14 : decode cX0_inputSum 14 = .ok (.iconst 0, 1) := by decide +kernel
theorem dX0_inputSum_15 : decode cX0_inputSum 15 = .ok (.invokevirtual 180, 3) := by decide +kernel
theorem dX0_inputSum_18 : decode cX0_inputSum 18 = .ok (.imul, 1) := by decide +kernel
theorem dX0_inputSum_19 : decode cX0_inputSum 19 = .ok (.invokestatic 183, 3) := by decide +kernel
theorem dX0_inputSum_22 : decode cX0_inputSum 22 = .ok (.ireturn, 1) := by decide +kernel
def FX0_inputSum (G : GG) (M : DD) (a : Nat)  : Option (DD × Int32) :=
  dr G 15 ((M.2 a 8)) fun b2 =>
  chk (¬ (((9 : Int32)) < 0 ∨ G.2.2 b2 ≤ ((9 : Int32)).toNatClampNeg)) <|
  bnd (FX0_wide G M a ((0 : Int32))) fun y3 =>
  bnd (FX0_high G y3.1 a ((0 : Int32))) fun y4 =>
  ltt ((y3.2 * y4.2)) fun x5 =>
  bnd (FX11_hash G y4.1 ((M.2 b2 ((9 : Int32)).toNatClampNeg)) ((0 : Int32)) x5) fun y6 =>
  some (y6.1, y6.2)
set_option maxHeartbeats 4000000 in
set_option maxRecDepth 100000 in
theorem kX0_inputSum (l : Launch) (D : va_G) (ct : CT) (ad : Nat → Nat) (Z : Nat → Nat) (G : GG) (M : DD) (sz : Nat) (a : Nat)  (y : DD × Int32) (hc : a < G.1) (hk : G.2.1 a = 0) (hF : FX0_inputSum G M a  = some y) : Met l yX0_inputSum wuX0_inputSum ({ frames := 1, cells := 0, slots := 0, locals := 24 }) (va_Pc [.ref (ad a)] (kB D ct ad Z G M sz)) (va_Qi (fun (q : Int32) (_ : Unit) => q = y.2) (fun _ t => kE D ct ad G (wA ad G sz) y.1 t) (wA ad G sz)) 0 0 (wA ad G sz) := by
  refine Met.ofW (cc := cX0_inputSum) (maxL := 1) (ret := (some .int)) (by decide) rfl ?_
  intro p e s m args below meth c s₁ B hml hv
  obtain ⟨rfl, hsz, hP, hK, hD0, hZ, hN⟩ := hv
  have hx := B.exec
  have hb := B.bytes
  have hr := B.returns
  have hts := atoms_spec (ws := wuX0_inputSum) B.pre
  have hown : s.vm.findClass RX0 = some m.cls := findClass_of_methodNamed B.named
  have hlocks := B.notSynchronized
  subst hsz
  have hD := wD_self (sz := s.heap.size) hD0
  have hA9 : ∀ q, s.heap.size ≤ q → wA ad G s.heap.size q := fun q h => Or.inr h
  generalize hAe : wA ad G s.heap.size = A at hD hA9 hZ ⊢
  have hS : va_S A s.heap s.heap [] := va_S.rf
  have hl := lv_entry ([.ref (ad a)]) (n := 1) (Nat.le_of_ble_eq_true rfl)
  rw [lg_entry_eq]
  generalize (lg_sl ([.ref (ad a)]) ++ List.replicate (1 - (lg_sl ([.ref (ad a)])).length) Slot.unset).toArray = ls at hl ⊢
  have hl : lv_has ls 1 [(0, .ref (ad a))] := hl
  unfold FX0_inputSum at hF
  refine lv_aload_n hx hb dX0_inputSum_0 rfl (lv_at hl 0 rfl) ?_
  refine va_get (D := D) (ci := 0) (v := va_re ad (M.2 a 8)) (C := RX0) (T := TX0) (N := 21) hx hb hts (mus hf_X0) hown hK hP a (wld_o ct ad G M hc hk (by decide)) rfl 8 (by decide) (hts (.fieldLink RX0 66 "VideoSuite$Coder" "planes" "[[I") (mu mw_822)) (fun _ h9 => h9) rfl dX0_inputSum_1 ?_
  refine lv_bipush (v := (9 : Int32)) hx hb dX0_inputSum_4 (by decide) ?_
  obtain ⟨b2, ho2, hc2, hk2, hF⟩ := dr_some hF
  refine W_st (st' := [.int (9 : Int32), .ref (ad b2)]) (by rw [va_some ho2]) ?_
  obtain ⟨hvc, hF⟩ := chk_some hF
  refine ld_g hx hb hK hP hc2 hk2 hvc dX0_inputSum_6 ?_
  refine lv_iconst (v := (0 : Int32)) hx hb dX0_inputSum_7 (by decide) ?_
  refine lv_aload_n hx hb dX0_inputSum_8 rfl (lv_at hl 0 rfl) ?_
  refine lv_iconst (v := (0 : Int32)) hx hb dX0_inputSum_9 (by decide) ?_
  obtain ⟨y3, hy3, hF⟩ := bnd_some hF
  have hf9 := wA_in hD hA9 hS
  refine va_calli (va_runV (As := [.int (0 : Int32)]) (rest := [.int (0 : Int32), va_re ad (M.2 b2 ((9 : Int32)).toNatClampNeg)]) ⟨hx, hb, hml, hown, hts⟩ (kX0_wide l D ct ad Z G M s.heap.size a ((0 : Int32)) y3 hc hk hy3) (cwV 1 hts gX0_inputSum_X0_wide rfl rfl rfl (by decide +kernel) ⟨Nat.le_of_ble_eq_true rfl, Nat.le_of_ble_eq_true rfl⟩) ⟨fun a U g mk q => by obtain ⟨q0, q1, qP, qK, qD, qZ, qN⟩ := q; exact ⟨q0, q1, qP, va_K.moved (u := U) (U := U.calling g mk a) (Vm.Alike.refl U.vm) qK, qD, sF.moved (u := U) (U := U.calling g mk a) (Vm.Alike.refl U.vm) qZ, nF.same rfl qN⟩, va_recv hK hP (ci := 0) (q0 := a) rfl (wld_o ct ad G M hc hk (by decide)), fun U hU hW => ⟨rfl, by rw [hU], by rw [hU]; exact hP, va_K.moved hW.alike hK, hD.weaken (fun _ _ _ _ => trivial), by rw [hU]; exact ((hZ.kept hS.2.1).narrow hf9).moved hW.alike, hN.warm hW⟩⟩ rfl rfl hl.1 rfl (lv_room (by simp only [List.map, va_re_cat]; exact Nat.le_of_ble_eq_true rfl)) dX0_inputSum_10 ⟨(Nat.zero_le _), (Nat.zero_le _)⟩) hS (fun q _ h => hf9 q h) hf9 (fun r u t H locs ht hvm hw hB hz1 hk1 hS => ?_)
  obtain ⟨hP, hK9, hD9⟩ := hB
  rw [ht] at hP
  try dsimp only at hw
  subst hw
  have hD := hD9.weaken (fun _ q _ h => hf9 q.1 h)
  refine lv_aload_n hx hb dX0_inputSum_13 rfl (lv_at hl 0 rfl) ?_
  refine lv_iconst (v := (0 : Int32)) hx hb dX0_inputSum_14 (by decide) ?_
  obtain ⟨y4, hy4, hF⟩ := bnd_some hF
  have hf9 := wA_in hD hA9 hS
  refine va_calli (va_runV (As := [.int (0 : Int32)]) (rest := [.int y3.2, .int (0 : Int32), va_re ad (M.2 b2 ((9 : Int32)).toNatClampNeg)]) ⟨hx, hb, hml, hown, hts⟩ (kX0_high l D ct ad Z G y3.1 H.size a ((0 : Int32)) y4 hc hk hy4) (cwV 1 hts gX0_inputSum_X0_high rfl rfl rfl (by decide +kernel) ⟨Nat.le_of_ble_eq_true rfl, Nat.le_of_ble_eq_true rfl⟩) ⟨fun a U g mk q => by obtain ⟨q0, q1, qP, qK, qD, qZ, qN⟩ := q; exact ⟨q0, q1, qP, va_K.moved (u := U) (U := U.calling g mk a) (Vm.Alike.refl U.vm) qK, qD, sF.moved (u := U) (U := U.calling g mk a) (Vm.Alike.refl U.vm) qZ, nF.same rfl qN⟩, va_recv hK hP (ci := 0) (q0 := a) rfl (wld_o ct ad G y3.1 hc hk (by decide)), fun U hU hW => ⟨rfl, by rw [hU], by rw [hU]; exact hP, va_K.moved hW.alike hK, hD.weaken (fun _ _ _ _ => trivial), by rw [hU]; exact ((hZ.kept hS.2.1).narrow hf9).moved hW.alike, hN.warm hW⟩⟩ rfl rfl hl.1 rfl (lv_room (by simp only [List.map, va_re_cat]; exact Nat.le_of_ble_eq_true rfl)) dX0_inputSum_15 ⟨(Nat.zero_le _), (Nat.zero_le _)⟩) hS (fun q _ h => hf9 q h) hf9 (fun r u t H locs ht hvm hw hB hz1 hk1 hS => ?_)
  obtain ⟨hP, hK9, hD9⟩ := hB
  rw [ht] at hP
  try dsimp only at hw
  subst hw
  have hD := hD9.weaken (fun _ q _ h => hf9 q.1 h)
  refine lv_imul hx hb dX0_inputSum_18 ?_
  obtain ⟨x5, ex5, hF⟩ := ltt_some hF
  refine lv_topi (fun zx5 ezx5 => ?_)
  obtain rfl : x5 = zx5 := ex5.trans ezx5.symm
  obtain ⟨y6, hy6, hF⟩ := bnd_some hF
  have hf9 := wA_in hD hA9 hS
  refine va_calli (va_runSN (As := [va_re ad (M.2 b2 ((9 : Int32)).toNatClampNeg), .int (0 : Int32), .int x5]) (rest := []) ⟨hx, hb, hml, hown, hts⟩ (kX11_hash l D ct ad Z G y4.1 H.size ((M.2 b2 ((9 : Int32)).toNatClampNeg)) ((0 : Int32)) x5 y6 hy6) ⟨va_cnB 3 hts gX0_inputSum_X11_hash_n183 rfl rfl rfl (hN.1 (RX0, 183, yX11_hash, RX11) (List.mem_of_getElem? (i := 2) rfl)) (hts (.initialized RX11) (mu mw_166)) (by decide +kernel) ⟨Nat.le_of_ble_eq_true rfl, Nat.le_of_ble_eq_true rfl⟩, hts (.static yX11_hash) (mu mw_2340), trivial⟩ ⟨fun a U g mk q => by obtain ⟨q0, q1, qP, qK, qD, qZ, qN⟩ := q; exact ⟨q0, q1, qP, va_K.moved (u := U) (U := U.calling g mk a) (Vm.Alike.refl U.vm) qK, qD, sF.moved (u := U) (U := U.calling g mk a) (Vm.Alike.refl U.vm) qZ, nF.same rfl qN⟩, fun U hU hW => ⟨rfl, by rw [hU], by rw [hU]; exact hP, va_K.moved hW.alike hK, hD.weaken (fun _ _ _ _ => trivial), by rw [hU]; exact ((hZ.kept hS.2.1).narrow hf9).moved hW.alike, hN.warm hW⟩⟩ rfl rfl hl.1 rfl (lv_room (Nat.le_of_ble_eq_true rfl)) dX0_inputSum_19 ⟨(Nat.zero_le _), (Nat.zero_le _)⟩) hS (fun q _ h => hf9 q h) hf9 (fun r u t H locs ht hvm hw hB hz1 hk1 hS => ?_)
  obtain ⟨hP, hK9, hD9⟩ := hB
  rw [ht] at hP
  try dsimp only at hw
  subst hw
  have hD := hD9.weaken (fun _ q _ h => hf9 q.1 h)
  obtain rfl := Option.some.inj hF
  exact W.iret (v := y6.2) hx hb hr (fun t ht hW => ⟨⟨_, (), rfl, rfl, ⟨by rw [ht]; exact hP, va_K.moved hW.alike hK, hD⟩⟩, hS.F ht⟩) hS.2.2 dX0_inputSum_22
set_option maxRecDepth 20000 in
theorem gX0_mayBe_X9_mayBeSixteen : GoodIn wuX0_mayBe (va_wsS RX0 346 yX9_mayBeSixteen wuX9_mayBeSixteen) := gu_S mw_2497 mw_2169 mw_171 mw_2170
set_option maxRecDepth 20000 in
theorem gX0_mayBe_X9_mayBeFour : GoodIn wuX0_mayBe (va_wsS RX0 343 yX9_mayBeFour wuX9_mayBeFour) := gu_S mw_2496 mw_2193 mw_171 mw_2194
set_option maxRecDepth 20000 in
set_option maxRecDepth 20000 in
theorem gX0_mayBe_X9_mayBeColours : GoodIn wuX0_mayBe (va_wsS RX0 339 yX9_mayBeColours wuX9_mayBeColours) := gu_S mw_2495 mw_2178 mw_171 mw_2179
set_option maxRecDepth 20000 in
theorem dX0_mayBe_0 : decode cX0_mayBe 0 = .ok (.iload_n 0, 1) := by decide +kernel
theorem dX0_mayBe_1 : decode cX0_mayBe 1 = .ok (.iconst (-1), 1) := by decide +kernel
theorem dX0_mayBe_2 : decode cX0_mayBe 2 = .ok (.if_icmp .ne 9, 3) := by decide +kernel
theorem dX0_mayBe_5 : decode cX0_mayBe 5 = .ok (.iload_n 1, 1) := by decide +kernel
theorem dX0_mayBe_6 : decode cX0_mayBe 6 = .ok (.iload_n 2, 1) := by decide +kernel
theorem dX0_mayBe_7 : decode cX0_mayBe 7 = .ok (.invokestatic 339, 3) := by decide +kernel
theorem dX0_mayBe_10 : decode cX0_mayBe 10 = .ok (.ireturn, 1) := by decide +kernel
theorem dX0_mayBe_11 : decode cX0_mayBe 11 = .ok (.iload_n 0, 1) := by decide +kernel
theorem dX0_mayBe_12 : decode cX0_mayBe 12 = .ok (.ifCond .ne 11, 3) := by decide +kernel
theorem dX0_mayBe_15 : decode cX0_mayBe 15 = .ok (.iload_n 1, 1) := by decide +kernel
theorem dX0_mayBe_16 : decode cX0_mayBe 16 = .ok (.iload_n 2, 1) := by decide +kernel
theorem dX0_mayBe_17 : decode cX0_mayBe 17 = .ok (.invokestatic 343, 3) := by decide +kernel
theorem dX0_mayBe_20 : decode cX0_mayBe 20 = .ok (.goto 8, 3) := by decide +kernel
theorem dX0_mayBe_23 : decode cX0_mayBe 23 = .ok (.iload_n 1, 1) := by decide +kernel
theorem dX0_mayBe_24 : decode cX0_mayBe 24 = .ok (.iload_n 2, 1) := by decide +kernel
theorem dX0_mayBe_25 : decode cX0_mayBe 25 = .ok (.invokestatic 346, 3) := by decide +kernel
theorem dX0_mayBe_28 : decode cX0_mayBe 28 = .ok (.ireturn, 1) := by decide +kernel
def FX0_mayBe (G : GG) (M : DD) (p0 : Int32) (p1 : Int32) (p2 : Int32) : Option (DD × Int32) :=
  if p0 = ((-1 : Int32)) then (bnd (FX9_mayBeColours G M p1 p2) fun y6 =>
  chk (y6.2 = 0 ∨ y6.2 = 1) <|
  some (y6.1, y6.2)) else
  (bnd (if p0 = ((0 : Int32)) then (bnd (FX9_mayBeFour G M p1 p2) fun y5 =>
  some (y5.2, y5.1)) else
  (bnd (FX9_mayBeSixteen G M p1 p2) fun y4 =>
  some (y4.2, y4.1))) fun (y2 : Int32 × DD) =>
  chk (y2.1 = 0 ∨ y2.1 = 1) <|
  some (y2.2, y2.1))
set_option maxHeartbeats 4000000 in
set_option maxRecDepth 100000 in
theorem kX0_mayBe (l : Launch) (D : va_G) (ct : CT) (ad : Nat → Nat) (Z : Nat → Nat) (G : GG) (M : DD) (sz : Nat) (p0 : Int32) (p1 : Int32) (p2 : Int32) (y : DD × Int32) (hF : FX0_mayBe G M p0 p1 p2 = some y) : Met l yX0_mayBe wuX0_mayBe ({ frames := 1, cells := 0, slots := 0, locals := 22 }) (va_Pc [.int p0, .int p1, .int p2] (kB D ct ad Z G M sz)) (va_Qi (fun (q : Int32) (_ : Unit) => q = y.2) (fun _ t => kE D ct ad G (wA ad G sz) y.1 t) (wA ad G sz)) 0 0 (wA ad G sz) := by
  refine Met.ofW (cc := cX0_mayBe) (maxL := 3) (ret := (some .boolean)) (by decide) rfl ?_
  intro p e s m args below meth c s₁ B hml hv
  obtain ⟨rfl, hsz, hP, hK, hD0, hZ, hN⟩ := hv
  have hx := B.exec
  have hb := B.bytes
  have hr := B.returns
  have hts := atoms_spec (ws := wuX0_mayBe) B.pre
  have hown : s.vm.findClass RX0 = some m.cls := findClass_of_methodNamed B.named
  have hlocks := B.notSynchronized
  subst hsz
  have hD := wD_self (sz := s.heap.size) hD0
  have hA9 : ∀ q, s.heap.size ≤ q → wA ad G s.heap.size q := fun q h => Or.inr h
  generalize hAe : wA ad G s.heap.size = A at hD hA9 hZ ⊢
  have hS : va_S A s.heap s.heap [] := va_S.rf
  have hl := lv_entry ([.int p0, .int p1, .int p2]) (n := 3) (Nat.le_of_ble_eq_true rfl)
  rw [lg_entry_eq]
  generalize (lg_sl ([.int p0, .int p1, .int p2]) ++ List.replicate (3 - (lg_sl ([.int p0, .int p1, .int p2])).length) Slot.unset).toArray = ls at hl ⊢
  have hl : lv_has ls 3 [(0, .int p0), (1, .int p1), (2, .int p2)] := hl
  unfold FX0_mayBe at hF
  refine lv_iload_n hx hb dX0_mayBe_0 rfl (lv_at hl 0 rfl) ?_
  refine lv_iconst (v := (-1 : Int32)) hx hb dX0_mayBe_1 (by decide) ?_
  refine lv_icmp_ne (tgt := 11) hx hb dX0_mayBe_2 (by decide) (fun c1 => ?_) (fun c1 => ?_)
  · rw [if_neg c1] at hF
    refine lv_iload_n hx hb dX0_mayBe_11 rfl (lv_at hl 0 rfl) ?_
    obtain ⟨y2, hy2, hF⟩ := bnd_some hF
    have J2 : ∀ (H : Heap) (locs : List Loc) (ls : Array Slot), va_P D classes (wld ct ad G y2.2) H → va_D A (wld ct ad G y2.2) → va_S A s.heap H locs → lv_has ls 3 [(0, .int p0), (1, .int p1), (2, .int p2)] → W p l e (headSpec wuX0_mayBe ({ frames := 1, cells := 0, slots := 0, locals := 22 })).room s m ([.int p0, .int p1, .int p2] : List Value).toArray below meth c H locs 0 0 (MQ below (va_Qi (fun (q : Int32) (_ : Unit) => q = y.2) (fun _ t => kE D ct ad G A y.1 t) A) ([.int p0, .int p1, .int p2] : List Value).toArray s 0 0 A) (F0 m 28 ls [.int y2.1]) := by
      intro H locs ls hP hD hS hl
      obtain ⟨hz9, hF⟩ := chk_some hF
      obtain rfl := Option.some.inj hF
      exact W.zret (v := y2.1) (ty := .boolean) hx hb hr (nar_z hz9).1 (fun t ht hW => ⟨⟨_, (), rfl, rfl, ⟨by rw [ht]; exact hP, va_K.moved hW.alike hK, hD⟩⟩, hS.F ht⟩) hS.2.2 dX0_mayBe_28
    clear hF
    have hF := hy2
    clear hy2
    refine lv_if_ne (tgt := 23) hx hb dX0_mayBe_12 (by decide) (fun c3 => ?_) (fun c3 => ?_)
    · rw [if_neg c3] at hF
      refine lv_iload_n hx hb dX0_mayBe_23 rfl (lv_at hl 1 rfl) ?_
      refine lv_iload_n hx hb dX0_mayBe_24 rfl (lv_at hl 2 rfl) ?_
      obtain ⟨y4, hy4, hF⟩ := bnd_some hF
      have hf9 := wA_in hD hA9 hS
      refine va_calli (va_runS (As := [.int p1, .int p2]) (rest := []) ⟨hx, hb, hml, hown, hts⟩ (kX9_mayBeSixteen l D ct ad Z G M s.heap.size p1 p2 y4 hy4) (va_cwS 2 hts gX0_mayBe_X9_mayBeSixteen rfl rfl rfl (by decide +kernel) ⟨Nat.le_of_ble_eq_true rfl, Nat.le_of_ble_eq_true rfl⟩) ⟨fun a U g mk q => by obtain ⟨q0, q1, qP, qK, qD, qZ, qN⟩ := q; exact ⟨q0, q1, qP, va_K.moved (u := U) (U := U.calling g mk a) (Vm.Alike.refl U.vm) qK, qD, sF.moved (u := U) (U := U.calling g mk a) (Vm.Alike.refl U.vm) qZ, nF.same rfl qN⟩, fun U hU hW => ⟨rfl, by rw [hU], by rw [hU]; exact hP, va_K.moved hW.alike hK, hD.weaken (fun _ _ _ _ => trivial), by rw [hU]; exact ((hZ.kept hS.2.1).narrow hf9).moved hW.alike, hN.warm hW⟩⟩ rfl rfl hl.1 rfl (lv_room (Nat.le_of_ble_eq_true rfl)) dX0_mayBe_25 ⟨(Nat.zero_le _), (Nat.zero_le _)⟩) hS (fun q _ h => hf9 q h) hf9 (fun r u t H locs ht hvm hw hB hz1 hk1 hS => ?_)
      obtain ⟨hP, hK9, hD9⟩ := hB
      rw [ht] at hP
      try dsimp only at hw
      subst hw
      have hD := hD9.weaken (fun _ q _ h => hf9 q.1 h)
      obtain rfl := Option.some.inj hF
      exact J2 _ _ _ hP hD hS (lv_sub hl [0, 1, 2] rfl)
    · rw [if_pos c3] at hF
      refine lv_iload_n hx hb dX0_mayBe_15 rfl (lv_at hl 1 rfl) ?_
      refine lv_iload_n hx hb dX0_mayBe_16 rfl (lv_at hl 2 rfl) ?_
      obtain ⟨y5, hy5, hF⟩ := bnd_some hF
      have hf9 := wA_in hD hA9 hS
      refine va_calli (va_runS (As := [.int p1, .int p2]) (rest := []) ⟨hx, hb, hml, hown, hts⟩ (kX9_mayBeFour l D ct ad Z G M s.heap.size p1 p2 y5 hy5) (va_cwS 2 hts gX0_mayBe_X9_mayBeFour rfl rfl rfl (by decide +kernel) ⟨Nat.le_of_ble_eq_true rfl, Nat.le_of_ble_eq_true rfl⟩) ⟨fun a U g mk q => by obtain ⟨q0, q1, qP, qK, qD, qZ, qN⟩ := q; exact ⟨q0, q1, qP, va_K.moved (u := U) (U := U.calling g mk a) (Vm.Alike.refl U.vm) qK, qD, sF.moved (u := U) (U := U.calling g mk a) (Vm.Alike.refl U.vm) qZ, nF.same rfl qN⟩, fun U hU hW => ⟨rfl, by rw [hU], by rw [hU]; exact hP, va_K.moved hW.alike hK, hD.weaken (fun _ _ _ _ => trivial), by rw [hU]; exact ((hZ.kept hS.2.1).narrow hf9).moved hW.alike, hN.warm hW⟩⟩ rfl rfl hl.1 rfl (lv_room (Nat.le_of_ble_eq_true rfl)) dX0_mayBe_17 ⟨(Nat.zero_le _), (Nat.zero_le _)⟩) hS (fun q _ h => hf9 q h) hf9 (fun r u t H locs ht hvm hw hB hz1 hk1 hS => ?_)
      obtain ⟨hP, hK9, hD9⟩ := hB
      rw [ht] at hP
      try dsimp only at hw
      subst hw
      have hD := hD9.weaken (fun _ q _ h => hf9 q.1 h)
      refine lv_goto (tgt := 28) hx hb dX0_mayBe_20 (by decide) ?_
      obtain rfl := Option.some.inj hF
      exact J2 _ _ _ hP hD hS (lv_sub hl [0, 1, 2] rfl)
  · rw [if_pos c1] at hF
    refine lv_iload_n hx hb dX0_mayBe_5 rfl (lv_at hl 1 rfl) ?_
    refine lv_iload_n hx hb dX0_mayBe_6 rfl (lv_at hl 2 rfl) ?_
    obtain ⟨y6, hy6, hF⟩ := bnd_some hF
    have hf9 := wA_in hD hA9 hS
    refine va_calli (va_runS (As := [.int p1, .int p2]) (rest := []) ⟨hx, hb, hml, hown, hts⟩ (kX9_mayBeColours l D ct ad Z G M s.heap.size p1 p2 y6 hy6) (va_cwS 2 hts gX0_mayBe_X9_mayBeColours rfl rfl rfl (by decide +kernel) ⟨Nat.le_of_ble_eq_true rfl, Nat.le_of_ble_eq_true rfl⟩) ⟨fun a U g mk q => by obtain ⟨q0, q1, qP, qK, qD, qZ, qN⟩ := q; exact ⟨q0, q1, qP, va_K.moved (u := U) (U := U.calling g mk a) (Vm.Alike.refl U.vm) qK, qD, sF.moved (u := U) (U := U.calling g mk a) (Vm.Alike.refl U.vm) qZ, nF.same rfl qN⟩, fun U hU hW => ⟨rfl, by rw [hU], by rw [hU]; exact hP, va_K.moved hW.alike hK, hD.weaken (fun _ _ _ _ => trivial), by rw [hU]; exact ((hZ.kept hS.2.1).narrow hf9).moved hW.alike, hN.warm hW⟩⟩ rfl rfl hl.1 rfl (lv_room (Nat.le_of_ble_eq_true rfl)) dX0_mayBe_7 ⟨(Nat.zero_le _), (Nat.zero_le _)⟩) hS (fun q _ h => hf9 q h) hf9 (fun r u t H locs ht hvm hw hB hz1 hk1 hS => ?_)
    obtain ⟨hP, hK9, hD9⟩ := hB
    rw [ht] at hP
    try dsimp only at hw
    subst hw
    have hD := hD9.weaken (fun _ q _ h => hf9 q.1 h)
    obtain ⟨hz9, hF⟩ := chk_some hF
    obtain rfl := Option.some.inj hF
    exact W.zret (v := y6.2) (ty := .boolean) hx hb hr (nar_z hz9).1 (fun t ht hW => ⟨⟨_, (), rfl, rfl, ⟨by rw [ht]; exact hP, va_K.moved hW.alike hK, hD⟩⟩, hS.F ht⟩) hS.2.2 dX0_mayBe_10
set_option maxRecDepth 20000 in
theorem gX0_paintMoved_X0_wide : GoodIn wuX0_paintMoved (wsV RX0 176 RX0 yX0_wide wuX0_wide) := gu_V mw_2376 mw_2378 mw_112 mw_175 mw_2379
set_option maxRecDepth 20000 in
set_option maxRecDepth 20000 in
theorem gX0_paintMoved_X0_high : GoodIn wuX0_paintMoved (wsV RX0 180 RX0 yX0_high wuX0_high) := gu_V mw_2380 mw_2382 mw_113 mw_175 mw_2383
set_option maxRecDepth 20000 in
set_option maxRecDepth 20000 in
theorem gX0_paintMoved_X0_moved : GoodIn wuX0_paintMoved (va_wsS RX0 192 yX0_moved wuX0_moved) := gu_S mw_2395 mw_2396 mw_175 mw_2397
theorem dX0_paintMoved_0 : decode cX0_paintMoved 0 = .ok (.iconst 0, 1) := by decide +kernel
theorem dX0_paintMoved_1 : decode cX0_paintMoved 1 = .ok (.istore_n 3, 1) := by decide +kernel
theorem dX0_paintMoved_2 : decode cX0_paintMoved 2 = .ok (.iload_n 3, 1) := by decide +kernel
theorem dX0_paintMoved_3 : decode cX0_paintMoved 3 = .ok (.iconst 3, 1) := by decide +kernel
theorem dX0_paintMoved_4 : decode cX0_paintMoved 4 = .ok (.if_icmp .ge 146, 3) := by decide +kernel
theorem dX0_paintMoved_7 : decode cX0_paintMoved 7 = .ok (.aload_n 0, 1) := by decide +kernel
theorem dX0_paintMoved_8 : decode cX0_paintMoved 8 = .ok (.iload_n 3, 1) := by decide +kernel
theorem dX0_paintMoved_9 : decode cX0_paintMoved 9 = .ok (.invokevirtual 176, 3) := by decide +kernel
theorem dX0_paintMoved_12 : decode cX0_paintMoved 12 = .ok (.istore 4, 2) := by decide +kernel
theorem dX0_paintMoved_14 : decode cX0_paintMoved 14 = .ok (.iload 4, 2) := by decide +kernel
theorem dX0_paintMoved_16 : decode cX0_paintMoved 16 = .ok (.aload_n 0, 1) := by decide +kernel
theorem dX0_paintMoved_17 : decode cX0_paintMoved 17 = .ok (.iload_n 3, 1) := by decide +kernel
theorem dX0_paintMoved_18 : decode cX0_paintMoved 18 = .ok (.invokevirtual 180, 3) := by decide +kernel
theorem dX0_paintMoved_21 : decode cX0_paintMoved 21 = .ok (.imul, 1) := by decide +kernel
theorem dX0_paintMoved_22 : decode cX0_paintMoved 22 = .ok (.istore 5, 2) := by decide +kernel
theorem dX0_paintMoved_24 : decode cX0_paintMoved 24 = .ok (.aload_n 0, 1) := by decide +kernel
theorem dX0_paintMoved_25 : decode cX0_paintMoved 25 = .ok (.getfield 66, 3) := by decide +kernel
theorem dX0_paintMoved_28 : decode cX0_paintMoved 28 = .ok (.bipush 9, 2) := by decide +kernel
theorem dX0_paintMoved_30 : decode cX0_paintMoved 30 = .ok (.iload_n 3, 1) := by decide +kernel
theorem dX0_paintMoved_31 : decode cX0_paintMoved 31 = .ok (.iadd, 1) := by decide +kernel
theorem dX0_paintMoved_32 : decode cX0_paintMoved 32 = .ok (.aaload, 1) := by decide +kernel
theorem dX0_paintMoved_33 : decode cX0_paintMoved 33 = .ok (.iconst 0, 1) := by decide +kernel
theorem dX0_paintMoved_34 : decode cX0_paintMoved 34 = .ok (.aload_n 0, 1) := by decide +kernel
theorem dX0_paintMoved_35 : decode cX0_paintMoved 35 = .ok (.getfield 66, 3) := by decide +kernel
theorem dX0_paintMoved_38 : decode cX0_paintMoved 38 = .ok (.bipush 6, 2) := by decide +kernel
theorem dX0_paintMoved_40 : decode cX0_paintMoved 40 = .ok (.iload_n 3, 1) := by decide +kernel
theorem dX0_paintMoved_41 : decode cX0_paintMoved 41 = .ok (.iadd, 1) := by decide +kernel
theorem dX0_paintMoved_42 : decode cX0_paintMoved 42 = .ok (.aaload, 1) := by decide +kernel
theorem dX0_paintMoved_43 : decode cX0_paintMoved 43 = .ok (.iconst 0, 1) := by decide +kernel
theorem dX0_paintMoved_44 : decode cX0_paintMoved 44 = .ok (.iload 5, 2) := by decide +kernel
theorem dX0_paintMoved_46 : decode cX0_paintMoved 46 = .ok (.invokestatic 94, 3) := by decide +kernel
theorem dX0_paintMoved_49 : decode cX0_paintMoved 49 = .ok (.iconst 0, 1) := by decide +kernel
theorem dX0_paintMoved_50 : decode cX0_paintMoved 50 = .ok (.istore 6, 2) := by decide +kernel
theorem dX0_paintMoved_52 : decode cX0_paintMoved 52 = .ok (.iload 6, 2) := by decide +kernel
theorem dX0_paintMoved_54 : decode cX0_paintMoved 54 = .ok (.iload 5, 2) := by decide +kernel
theorem dX0_paintMoved_56 : decode cX0_paintMoved 56 = .ok (.if_icmp .ge 88, 3) := by decide +kernel
theorem dX0_paintMoved_59 : decode cX0_paintMoved 59 = .ok (.iload 6, 2) := by decide +kernel
theorem dX0_paintMoved_61 : decode cX0_paintMoved 61 = .ok (.iload 4, 2) := by decide +kernel
theorem dX0_paintMoved_63 : decode cX0_paintMoved 63 = .ok (.irem, 1) := by decide +kernel
theorem dX0_paintMoved_64 : decode cX0_paintMoved 64 = .ok (.iload_n 3, 1) := by decide +kernel
theorem dX0_paintMoved_65 : decode cX0_paintMoved 65 = .ok (.ifCond .ne 7, 3) := by decide +kernel
theorem dX0_paintMoved_68 : decode cX0_paintMoved 68 = .ok (.iload_n 1, 1) := by decide +kernel
theorem dX0_paintMoved_69 : decode cX0_paintMoved 69 = .ok (.goto 6, 3) := by decide +kernel
theorem dX0_paintMoved_72 : decode cX0_paintMoved 72 = .ok (.iload_n 1, 1) := by decide +kernel
theorem dX0_paintMoved_73 : decode cX0_paintMoved 73 = .ok (.iconst 2, 1) := by decide +kernel
theorem dX0_paintMoved_74 : decode cX0_paintMoved 74 = .ok (.idiv, 1) := by decide +kernel
theorem dX0_paintMoved_75 : decode cX0_paintMoved 75 = .ok (.iload 4, 2) := by decide +kernel
theorem dX0_paintMoved_77 : decode cX0_paintMoved 77 = .ok (.invokestatic 192, 3) := by decide +kernel
theorem dX0_paintMoved_80 : decode cX0_paintMoved 80 = .ok (.istore 7, 2) := by decide +kernel
theorem dX0_paintMoved_82 : decode cX0_paintMoved 82 = .ok (.iload 6, 2) := by decide +kernel
theorem dX0_paintMoved_84 : decode cX0_paintMoved 84 = .ok (.iload 4, 2) := by decide +kernel
theorem dX0_paintMoved_86 : decode cX0_paintMoved 86 = .ok (.idiv, 1) := by decide +kernel
theorem dX0_paintMoved_87 : decode cX0_paintMoved 87 = .ok (.iload_n 3, 1) := by decide +kernel
theorem dX0_paintMoved_88 : decode cX0_paintMoved 88 = .ok (.ifCond .ne 7, 3) := by decide +kernel
theorem dX0_paintMoved_91 : decode cX0_paintMoved 91 = .ok (.iload_n 2, 1) := by decide +kernel
theorem dX0_paintMoved_92 : decode cX0_paintMoved 92 = .ok (.goto 6, 3) := by decide +kernel
theorem dX0_paintMoved_95 : decode cX0_paintMoved 95 = .ok (.iload_n 2, 1) := by decide +kernel
theorem dX0_paintMoved_96 : decode cX0_paintMoved 96 = .ok (.iconst 2, 1) := by decide +kernel
theorem dX0_paintMoved_97 : decode cX0_paintMoved 97 = .ok (.idiv, 1) := by decide +kernel
theorem dX0_paintMoved_98 : decode cX0_paintMoved 98 = .ok (.aload_n 0, 1) := by decide +kernel
theorem dX0_paintMoved_99 : decode cX0_paintMoved 99 = .ok (.iload_n 3, 1) := by decide +kernel
theorem dX0_paintMoved_100 : decode cX0_paintMoved 100 = .ok (.invokevirtual 180, 3) := by decide +kernel
theorem dX0_paintMoved_103 : decode cX0_paintMoved 103 = .ok (.invokestatic 192, 3) := by decide +kernel
theorem dX0_paintMoved_106 : decode cX0_paintMoved 106 = .ok (.istore 8, 2) := by decide +kernel
theorem dX0_paintMoved_108 : decode cX0_paintMoved 108 = .ok (.aload_n 0, 1) := by decide +kernel
theorem dX0_paintMoved_109 : decode cX0_paintMoved 109 = .ok (.getfield 66, 3) := by decide +kernel
theorem dX0_paintMoved_112 : decode cX0_paintMoved 112 = .ok (.bipush 9, 2) := by decide +kernel
theorem dX0_paintMoved_114 : decode cX0_paintMoved 114 = .ok (.iload_n 3, 1) := by decide +kernel
theorem dX0_paintMoved_115 : decode cX0_paintMoved 115 = .ok (.iadd, 1) := by decide +kernel
theorem dX0_paintMoved_116 : decode cX0_paintMoved 116 = .ok (.aaload, 1) := by decide +kernel
theorem dX0_paintMoved_117 : decode cX0_paintMoved 117 = .ok (.iload 6, 2) := by decide +kernel
theorem dX0_paintMoved_119 : decode cX0_paintMoved 119 = .ok (.aload_n 0, 1) := by decide +kernel
theorem dX0_paintMoved_120 : decode cX0_paintMoved 120 = .ok (.getfield 66, 3) := by decide +kernel
theorem dX0_paintMoved_123 : decode cX0_paintMoved 123 = .ok (.bipush 6, 2) := by decide +kernel
theorem dX0_paintMoved_125 : decode cX0_paintMoved 125 = .ok (.iload_n 3, 1) := by decide +kernel
theorem dX0_paintMoved_126 : decode cX0_paintMoved 126 = .ok (.iadd, 1) := by decide +kernel
theorem dX0_paintMoved_127 : decode cX0_paintMoved 127 = .ok (.aaload, 1) := by decide +kernel
theorem dX0_paintMoved_128 : decode cX0_paintMoved 128 = .ok (.iload 8, 2) := by decide +kernel
theorem dX0_paintMoved_130 : decode cX0_paintMoved 130 = .ok (.iload 4, 2) := by decide +kernel
theorem dX0_paintMoved_132 : decode cX0_paintMoved 132 = .ok (.imul, 1) := by decide +kernel
theorem dX0_paintMoved_133 : decode cX0_paintMoved 133 = .ok (.iload 7, 2) := by decide +kernel
theorem dX0_paintMoved_135 : decode cX0_paintMoved 135 = .ok (.iadd, 1) := by decide +kernel
theorem dX0_paintMoved_136 : decode cX0_paintMoved 136 = .ok (.iaload, 1) := by decide +kernel
theorem dX0_paintMoved_137 : decode cX0_paintMoved 137 = .ok (.iastore, 1) := by decide +kernel
theorem dX0_paintMoved_138 : decode cX0_paintMoved 138 = .ok (.iinc 6 1, 3) := by decide +kernel
theorem dX0_paintMoved_141 : decode cX0_paintMoved 141 = .ok (.goto (-89), 3) := by decide +kernel
theorem dX0_paintMoved_144 : decode cX0_paintMoved 144 = .ok (.iinc 3 1, 3) := by decide +kernel
theorem dX0_paintMoved_147 : decode cX0_paintMoved 147 = .ok (.goto (-145), 3) := by decide +kernel
theorem dX0_paintMoved_150 : decode cX0_paintMoved 150 = .ok (.return_, 1) := by decide +kernel
def FX0_paintMoved (G : GG) (M : DD) (a : Nat) (p0 : Int32) (p1 : Int32) : Option (DD) :=
  bnd (itr (fun (s2 : Int32 × DD) => ((if ((3 : Int32)) ≤ s2.1 then (some (.inr (s2.1, s2.2))) else
  (bnd (FX0_wide G s2.2 a s2.1) fun y6 =>
  bnd (FX0_high G y6.1 a s2.1) fun y7 =>
  ltt ((y6.2 * y7.2)) fun x8 =>
  ltt ((((9 : Int32)) + s2.1)) fun x9 =>
  dr G 15 ((y7.1.2 a 8)) fun b10 =>
  chk (¬ (x9 < 0 ∨ G.2.2 b10 ≤ x9.toNatClampNeg)) <|
  ltt ((((6 : Int32)) + s2.1)) fun x11 =>
  chk (¬ (x11 < 0 ∨ G.2.2 b10 ≤ x11.toNatClampNeg)) <|
  dr G 13 ((y7.1.2 b10 x9.toNatClampNeg)) fun b12 =>
  dr G 13 ((y7.1.2 b10 x11.toNatClampNeg)) fun b13 =>
  chk (¬ ((0 : Int32)) < 0 ∧ ¬ ((0 : Int32)) < 0 ∧ ¬ x8 < 0 ∧ ((0 : Int32)).toNatClampNeg + x8.toNatClampNeg ≤ G.2.2 b12 ∧ ((0 : Int32)).toNatClampNeg + x8.toNatClampNeg ≤ G.2.2 b13) <|
  ltt (rI y7.1 b13 (va_cpy (y7.1.1 b12) (y7.1.1 b13) ((0 : Int32)).toNatClampNeg ((0 : Int32)).toNatClampNeg x8.toNatClampNeg)) fun M14 =>
  bnd (itr (fun (s16 : Int32 × DD) => ((if x8 ≤ s16.1 then (some (.inr (s16.1, s16.2))) else
  (chk (¬ y6.2 = 0) <|
  ltt (s16.1 - s16.1 / y6.2 * y6.2) fun x21 =>
  bnd (if s2.1 = ((0 : Int32)) then (some (p0)) else
  (ltt (p0 / ((2 : Int32))) fun x41 =>
  some (x41))) fun (y22 : Int32) =>
  bnd (FX0_moved G s16.2 x21 y22 y6.2) fun y23 =>
  chk (¬ y6.2 = 0) <|
  ltt (s16.1 / y6.2) fun x24 =>
  bnd (if s2.1 = ((0 : Int32)) then (some (p1)) else
  (ltt (p1 / ((2 : Int32))) fun x39 =>
  some (x39))) fun (y25 : Int32) =>
  bnd (FX0_high G y23.1 a s2.1) fun y26 =>
  bnd (FX0_moved G y26.1 x24 y25 y26.2) fun y27 =>
  ltt ((((9 : Int32)) + s2.1)) fun x28 =>
  dr G 15 ((y27.1.2 a 8)) fun b29 =>
  chk (¬ (x28 < 0 ∨ G.2.2 b29 ≤ x28.toNatClampNeg)) <|
  ltt ((((6 : Int32)) + s2.1)) fun x30 =>
  chk (¬ (x30 < 0 ∨ G.2.2 b29 ≤ x30.toNatClampNeg)) <|
  ltt ((y27.2 * y6.2)) fun x31 =>
  ltt ((x31 + y23.2)) fun x32 =>
  dr G 13 ((y27.1.2 b29 x30.toNatClampNeg)) fun b33 =>
  chk (¬ (x32 < 0 ∨ G.2.2 b33 ≤ x32.toNatClampNeg)) <|
  ltt (y27.1.1 b33 x32.toNatClampNeg) fun x34 =>
  dr G 13 ((y27.1.2 b29 x28.toNatClampNeg)) fun b35 =>
  chk (¬ (s16.1 < 0 ∨ G.2.2 b35 ≤ s16.1.toNatClampNeg)) <|
  ltt (uI y27.1 b35 s16.1.toNatClampNeg x34) fun M36 =>
  ltt (s16.1 + (1 : Int32)) fun x37 =>
  some (.inl (x37, M36)))) : Option ((Int32 × DD) ⊕ (Int32 × DD)))) 1000000 ((0 : Int32), M14)) fun (y15 : Int32 × DD) =>
  ltt (s2.1 + (1 : Int32)) fun x18 =>
  some (.inl (x18, y15.2)))) : Option ((Int32 × DD) ⊕ (Int32 × DD)))) 1000000 ((0 : Int32), M)) fun (y1 : Int32 × DD) =>
  some y1.2
set_option maxHeartbeats 4000000 in
set_option maxRecDepth 100000 in
theorem kX0_paintMoved (l : Launch) (D : va_G) (ct : CT) (ad : Nat → Nat) (Z : Nat → Nat) (G : GG) (M : DD) (sz : Nat) (a : Nat) (p0 : Int32) (p1 : Int32) (y : DD) (hc : a < G.1) (hk : G.2.1 a = 0) (hF : FX0_paintMoved G M a p0 p1 = some y) : Met l yX0_paintMoved wuX0_paintMoved ({ frames := 1, cells := 0, slots := 0, locals := 80 }) (va_Pc [.ref (ad a), .int p0, .int p1] (kB D ct ad Z G M sz)) (va_Qv (fun (_ : Unit) => True) (fun _ t => kE D ct ad G (wA ad G sz) y t) (wA ad G sz)) 0 0 (wA ad G sz) := by
  refine Met.ofW (cc := cX0_paintMoved) (maxL := 9) (ret := none) (by decide) rfl ?_
  intro p e s m args below meth c s₁ B hml hv
  obtain ⟨rfl, hsz, hP, hK, hD0, hZ, hN⟩ := hv
  have hx := B.exec
  have hb := B.bytes
  have hr := B.returns
  have hts := atoms_spec (ws := wuX0_paintMoved) B.pre
  have hown : s.vm.findClass RX0 = some m.cls := findClass_of_methodNamed B.named
  have hlocks := B.notSynchronized
  subst hsz
  have hD := wD_self (sz := s.heap.size) hD0
  have hA9 : ∀ q, s.heap.size ≤ q → wA ad G s.heap.size q := fun q h => Or.inr h
  generalize hAe : wA ad G s.heap.size = A at hD hA9 hZ ⊢
  have hS : va_S A s.heap s.heap [] := va_S.rf
  have hl := lv_entry ([.ref (ad a), .int p0, .int p1]) (n := 9) (Nat.le_of_ble_eq_true rfl)
  rw [lg_entry_eq]
  generalize (lg_sl ([.ref (ad a), .int p0, .int p1]) ++ List.replicate (9 - (lg_sl ([.ref (ad a), .int p0, .int p1])).length) Slot.unset).toArray = ls at hl ⊢
  have hl : lv_has ls 9 [(0, .ref (ad a)), (1, .int p0), (2, .int p1)] := hl
  unfold FX0_paintMoved at hF
  refine lv_iconst (v := (0 : Int32)) hx hb dX0_paintMoved_0 (by decide) ?_
  refine lv_istore_n (lv' := [(3, .int (0 : Int32)), (0, .ref (ad a)), (1, .int p0), (2, .int p1)]) hx hb dX0_paintMoved_1 rfl hl (by decide) rfl (fun ls hl => ?_)
  obtain ⟨y1, hy1, hF⟩ := bnd_some hF
  have K1 : ∀ (H : Heap) (locs : List Loc) (ls : Array Slot), va_P D classes (wld ct ad G y1.2) H → va_D A (wld ct ad G y1.2) → va_S A s.heap H locs → lv_has ls 9 [(3, .int y1.1), (0, .ref (ad a)), (1, .int p0), (2, .int p1)] → W p l e (headSpec wuX0_paintMoved ({ frames := 1, cells := 0, slots := 0, locals := 80 })).room s m ([.ref (ad a), .int p0, .int p1] : List Value).toArray below meth c H locs 0 0 (MQ below (va_Qv (fun (_ : Unit) => True) (fun _ t => kE D ct ad G A y t) A) ([.ref (ad a), .int p0, .int p1] : List Value).toArray s 0 0 A) (F0 m 150 ls []) := by
    intro H locs ls hP hD hS hl
    obtain rfl := Option.some.inj hF
    exact W.vret hx hb hr (fun t ht hW => ⟨⟨(), rfl, trivial, ⟨by rw [ht]; exact hP, va_K.moved hW.alike hK, hD⟩⟩, hS.F ht⟩) hS.2.2 dX0_paintMoved_150
  clear hF
  refine itr_rule (fun (s2 : Int32 × DD) => ∀ (H : Heap) (locs : List Loc) (ls : Array Slot), va_P D classes (wld ct ad G s2.2) H → va_D A (wld ct ad G s2.2) → va_S A s.heap H locs → lv_has ls 9 [(3, .int s2.1), (0, .ref (ad a)), (1, .int p0), (2, .int p1)] → W p l e (headSpec wuX0_paintMoved ({ frames := 1, cells := 0, slots := 0, locals := 80 })).room s m ([.ref (ad a), .int p0, .int p1] : List Value).toArray below meth c H locs 0 0 (MQ below (va_Qv (fun (_ : Unit) => True) (fun _ t => kE D ct ad G A y t) A) ([.ref (ad a), .int p0, .int p1] : List Value).toArray s 0 0 A) (F0 m 2 ls [])) ?_ _ _ hy1 _ _ _ hP hD hS (lv_sub hl [0, 1, 2, 3] rfl)
  rintro s2 ⟨z4, hF, hwz4⟩ H locs ls hP hD hS hl
  try dsimp only at hF
  refine lv_iload_n hx hb dX0_paintMoved_2 rfl (lv_at hl 0 rfl) ?_
  refine lv_iconst (v := (3 : Int32)) hx hb dX0_paintMoved_3 (by decide) ?_
  refine lv_icmp_ge (tgt := 150) hx hb dX0_paintMoved_4 (by decide) (fun c5 => ?_) (fun c5 => ?_)
  · rw [if_pos c5] at hF
    obtain rfl := Option.some.inj hF
    subst hwz4
    exact K1 _ _ _ hP hD hS (lv_sub hl [0, 1, 2, 3] rfl)
  · rw [if_neg c5] at hF
    refine lv_aload_n hx hb dX0_paintMoved_7 rfl (lv_at hl 1 rfl) ?_
    refine lv_iload_n hx hb dX0_paintMoved_8 rfl (lv_at hl 0 rfl) ?_
    obtain ⟨y6, hy6, hF⟩ := bnd_some hF
    have hf9 := wA_in hD hA9 hS
    refine va_calli (va_runV (As := [.int s2.1]) (rest := []) ⟨hx, hb, hml, hown, hts⟩ (kX0_wide l D ct ad Z G s2.2 H.size a s2.1 y6 hc hk hy6) (cwV 1 hts gX0_paintMoved_X0_wide rfl rfl rfl (by decide +kernel) ⟨Nat.le_of_ble_eq_true rfl, Nat.le_of_ble_eq_true rfl⟩) ⟨fun a U g mk q => by obtain ⟨q0, q1, qP, qK, qD, qZ, qN⟩ := q; exact ⟨q0, q1, qP, va_K.moved (u := U) (U := U.calling g mk a) (Vm.Alike.refl U.vm) qK, qD, sF.moved (u := U) (U := U.calling g mk a) (Vm.Alike.refl U.vm) qZ, nF.same rfl qN⟩, va_recv hK hP (ci := 0) (q0 := a) rfl (wld_o ct ad G s2.2 hc hk (by decide)), fun U hU hW => ⟨rfl, by rw [hU], by rw [hU]; exact hP, va_K.moved hW.alike hK, hD.weaken (fun _ _ _ _ => trivial), by rw [hU]; exact ((hZ.kept hS.2.1).narrow hf9).moved hW.alike, hN.warm hW⟩⟩ rfl rfl hl.1 rfl (lv_room (Nat.le_of_ble_eq_true rfl)) dX0_paintMoved_9 ⟨(Nat.zero_le _), (Nat.zero_le _)⟩) hS (fun q _ h => hf9 q h) hf9 (fun r u t H locs ht hvm hw hB hz1 hk1 hS => ?_)
    obtain ⟨hP, hK9, hD9⟩ := hB
    rw [ht] at hP
    try dsimp only at hw
    subst hw
    have hD := hD9.weaken (fun _ q _ h => hf9 q.1 h)
    refine lv_istore (lv' := [(4, .int y6.2), (3, .int s2.1), (0, .ref (ad a)), (1, .int p0), (2, .int p1)]) hx hb dX0_paintMoved_12 hl (by decide) rfl (fun ls hl => ?_)
    refine lv_iload hx hb dX0_paintMoved_14 (lv_at hl 0 rfl) ?_
    refine lv_aload_n hx hb dX0_paintMoved_16 rfl (lv_at hl 2 rfl) ?_
    refine lv_iload_n hx hb dX0_paintMoved_17 rfl (lv_at hl 1 rfl) ?_
    obtain ⟨y7, hy7, hF⟩ := bnd_some hF
    have hf9 := wA_in hD hA9 hS
    refine va_calli (va_runV (As := [.int s2.1]) (rest := [.int y6.2]) ⟨hx, hb, hml, hown, hts⟩ (kX0_high l D ct ad Z G y6.1 H.size a s2.1 y7 hc hk hy7) (cwV 1 hts gX0_paintMoved_X0_high rfl rfl rfl (by decide +kernel) ⟨Nat.le_of_ble_eq_true rfl, Nat.le_of_ble_eq_true rfl⟩) ⟨fun a U g mk q => by obtain ⟨q0, q1, qP, qK, qD, qZ, qN⟩ := q; exact ⟨q0, q1, qP, va_K.moved (u := U) (U := U.calling g mk a) (Vm.Alike.refl U.vm) qK, qD, sF.moved (u := U) (U := U.calling g mk a) (Vm.Alike.refl U.vm) qZ, nF.same rfl qN⟩, va_recv hK hP (ci := 0) (q0 := a) rfl (wld_o ct ad G y6.1 hc hk (by decide)), fun U hU hW => ⟨rfl, by rw [hU], by rw [hU]; exact hP, va_K.moved hW.alike hK, hD.weaken (fun _ _ _ _ => trivial), by rw [hU]; exact ((hZ.kept hS.2.1).narrow hf9).moved hW.alike, hN.warm hW⟩⟩ rfl rfl hl.1 rfl (lv_room (Nat.le_of_ble_eq_true rfl)) dX0_paintMoved_18 ⟨(Nat.zero_le _), (Nat.zero_le _)⟩) hS (fun q _ h => hf9 q h) hf9 (fun r u t H locs ht hvm hw hB hz1 hk1 hS => ?_)
    obtain ⟨hP, hK9, hD9⟩ := hB
    rw [ht] at hP
    try dsimp only at hw
    subst hw
    have hD := hD9.weaken (fun _ q _ h => hf9 q.1 h)
    refine lv_imul hx hb dX0_paintMoved_21 ?_
    obtain ⟨x8, ex8, hF⟩ := ltt_some hF
    refine lv_topi (fun zx8 ezx8 => ?_)
    obtain rfl : x8 = zx8 := ex8.trans ezx8.symm
    refine lv_istore (lv' := [(5, .int x8), (4, .int y6.2), (3, .int s2.1), (0, .ref (ad a)), (1, .int p0), (2, .int p1)]) hx hb dX0_paintMoved_22 hl (by decide) rfl (fun ls hl => ?_)
    refine lv_aload_n hx hb dX0_paintMoved_24 rfl (lv_at hl 3 rfl) ?_
    refine va_get (D := D) (ci := 0) (v := va_re ad (y7.1.2 a 8)) (C := RX0) (T := TX0) (N := 21) hx hb hts (mus hf_X0) hown hK hP a (wld_o ct ad G y7.1 hc hk (by decide)) rfl 8 (by decide) (hts (.fieldLink RX0 66 "VideoSuite$Coder" "planes" "[[I") (mu mw_822)) (fun _ h9 => h9) rfl dX0_paintMoved_25 ?_
    refine lv_bipush (v := (9 : Int32)) hx hb dX0_paintMoved_28 (by decide) ?_
    refine lv_iload_n hx hb dX0_paintMoved_30 rfl (lv_at hl 2 rfl) ?_
    refine lv_iadd hx hb dX0_paintMoved_31 ?_
    obtain ⟨x9, ex9, hF⟩ := ltt_some hF
    refine lv_topi (fun zx9 ezx9 => ?_)
    obtain rfl : x9 = zx9 := ex9.trans ezx9.symm
    obtain ⟨b10, ho10, hc10, hk10, hF⟩ := dr_some hF
    refine W_st (st' := [.int x9, .ref (ad b10)]) (by rw [va_some ho10]) ?_
    obtain ⟨hvc, hF⟩ := chk_some hF
    refine ld_g hx hb hK hP hc10 hk10 hvc dX0_paintMoved_32 ?_
    refine lv_iconst (v := (0 : Int32)) hx hb dX0_paintMoved_33 (by decide) ?_
    refine lv_aload_n hx hb dX0_paintMoved_34 rfl (lv_at hl 3 rfl) ?_
    refine va_get (D := D) (ci := 0) (v := va_re ad (y7.1.2 a 8)) (C := RX0) (T := TX0) (N := 21) hx hb hts (mus hf_X0) hown hK hP a (wld_o ct ad G y7.1 hc hk (by decide)) rfl 8 (by decide) (hts (.fieldLink RX0 66 "VideoSuite$Coder" "planes" "[[I") (mu mw_822)) (fun _ h9 => h9) rfl dX0_paintMoved_35 ?_
    refine lv_bipush (v := (6 : Int32)) hx hb dX0_paintMoved_38 (by decide) ?_
    refine lv_iload_n hx hb dX0_paintMoved_40 rfl (lv_at hl 2 rfl) ?_
    refine lv_iadd hx hb dX0_paintMoved_41 ?_
    obtain ⟨x11, ex11, hF⟩ := ltt_some hF
    refine lv_topi (fun zx11 ezx11 => ?_)
    obtain rfl : x11 = zx11 := ex11.trans ezx11.symm
    refine W_st (st' := [.int x11, .ref (ad b10), .int (0 : Int32), va_re ad (y7.1.2 b10 x9.toNatClampNeg)]) (by rw [va_some ho10]) ?_
    obtain ⟨hvc, hF⟩ := chk_some hF
    refine ld_g hx hb hK hP hc10 hk10 hvc dX0_paintMoved_42 ?_
    refine lv_iconst (v := (0 : Int32)) hx hb dX0_paintMoved_43 (by decide) ?_
    refine lv_iload hx hb dX0_paintMoved_44 (lv_at hl 0 rfl) ?_
    obtain ⟨b12, ho12, hc12, hk12, hF⟩ := dr_some hF
    refine W_st (st' := [.int x8, .int (0 : Int32), va_re ad (y7.1.2 b10 x11.toNatClampNeg), .int (0 : Int32), .ref (ad b12)]) (by rw [va_some ho12]) ?_
    obtain ⟨b13, ho13, hc13, hk13, hF⟩ := dr_some hF
    refine W_st (st' := [.int x8, .int (0 : Int32), .ref (ad b13), .int (0 : Int32), .ref (ad b12)]) (by rw [va_some ho13]) ?_
    obtain ⟨hv9, hF⟩ := chk_some hF
    refine va_copyi (ty := .int) hx hb (hml.trans hl.1.symm) hown (hts (.methodLink RX0 94 arraycopyName) (mu mw_1115)) (hts (.native arraycopyName) (mu mw_1093)) (hts (.static arraycopyName) (mu mw_1092)) (hts (.initialized "java/lang/System") (mu mw_181)) hK hP hD hS b12 b13 1 1 (wld_i ct ad G y7.1 hc12 hk12) (wld_i ct ad G y7.1 hc13 hk13) rfl rfl rfl hv9.1 hv9.2.1 hv9.2.2.1 hv9.2.2.2.1 hv9.2.2.2.2 (fun _ _ => rfl) (Nat.le_of_ble_eq_true rfl) (by decide +kernel) dX0_paintMoved_46 (fun H locs hP hD hS => ?_)
    obtain ⟨M14, eM14, hF⟩ := ltt_some hF
    rw [set_ri ct ad G y7.1 hc13 hk13, ← eM14] at hP hD
    refine lv_iconst (v := (0 : Int32)) hx hb dX0_paintMoved_49 (by decide) ?_
    refine lv_istore (lv' := [(6, .int (0 : Int32)), (5, .int x8), (4, .int y6.2), (3, .int s2.1), (0, .ref (ad a)), (1, .int p0), (2, .int p1)]) hx hb dX0_paintMoved_50 hl (by decide) rfl (fun ls hl => ?_)
    obtain ⟨y15, hy15, hF⟩ := bnd_some hF
    have K15 : ∀ (H : Heap) (locs : List Loc) (ls : Array Slot), va_P D classes (wld ct ad G y15.2) H → va_D A (wld ct ad G y15.2) → va_S A s.heap H locs → lv_has ls 9 [(6, .int y15.1), (5, .int x8), (4, .int y6.2), (3, .int s2.1), (0, .ref (ad a)), (1, .int p0), (2, .int p1)] → W p l e (headSpec wuX0_paintMoved ({ frames := 1, cells := 0, slots := 0, locals := 80 })).room s m ([.ref (ad a), .int p0, .int p1] : List Value).toArray below meth c H locs 0 0 (MQ below (va_Qv (fun (_ : Unit) => True) (fun _ t => kE D ct ad G A y t) A) ([.ref (ad a), .int p0, .int p1] : List Value).toArray s 0 0 A) (F0 m 144 ls []) := by
      intro H locs ls hP hD hS hl
      obtain ⟨x18, ex18, hF⟩ := ltt_some hF
      refine lv_iinc (v := x18) (lv' := [(3, .int x18), (6, .int y15.1), (5, .int x8), (4, .int y6.2), (0, .ref (ad a)), (1, .int p0), (2, .int p1)]) hx hb dX0_paintMoved_144 hl (k := 3) rfl (by rw [ex18]; rfl) (by decide) rfl (fun ls hl => ?_)
      refine lv_goto (tgt := 2) hx hb dX0_paintMoved_147 (by decide) ?_
      obtain rfl := Option.some.inj hF
      exact hwz4 _ _ _ hP hD hS (lv_sub hl [0, 4, 5, 6] rfl)
    clear hF
    refine itr_rule (fun (s16 : Int32 × DD) => ∀ (H : Heap) (locs : List Loc) (ls : Array Slot), va_P D classes (wld ct ad G s16.2) H → va_D A (wld ct ad G s16.2) → va_S A s.heap H locs → lv_has ls 9 [(6, .int s16.1), (5, .int x8), (4, .int y6.2), (3, .int s2.1), (0, .ref (ad a)), (1, .int p0), (2, .int p1)] → W p l e (headSpec wuX0_paintMoved ({ frames := 1, cells := 0, slots := 0, locals := 80 })).room s m ([.ref (ad a), .int p0, .int p1] : List Value).toArray below meth c H locs 0 0 (MQ below (va_Qv (fun (_ : Unit) => True) (fun _ t => kE D ct ad G A y t) A) ([.ref (ad a), .int p0, .int p1] : List Value).toArray s 0 0 A) (F0 m 52 ls [])) ?_ _ _ hy15 _ _ _ hP hD hS (lv_sub hl [0, 1, 2, 3, 4, 5, 6] rfl)
    rintro s16 ⟨z19, hF, hwz19⟩ H locs ls hP hD hS hl
    try dsimp only at hF
    refine lv_iload hx hb dX0_paintMoved_52 (lv_at hl 0 rfl) ?_
    refine lv_iload hx hb dX0_paintMoved_54 (lv_at hl 1 rfl) ?_
    refine lv_icmp_ge (tgt := 144) hx hb dX0_paintMoved_56 (by decide) (fun c20 => ?_) (fun c20 => ?_)
    · rw [if_pos c20] at hF
      obtain rfl := Option.some.inj hF
      subst hwz19
      exact K15 _ _ _ hP hD hS (lv_sub hl [0, 1, 2, 3, 4, 5, 6] rfl)
    · rw [if_neg c20] at hF
      refine lv_iload hx hb dX0_paintMoved_59 (lv_at hl 0 rfl) ?_
      refine lv_iload hx hb dX0_paintMoved_61 (lv_at hl 2 rfl) ?_
      obtain ⟨hne, hF⟩ := chk_some hF
      refine lv_irem hx hb dX0_paintMoved_63 hne ?_
      obtain ⟨x21, ex21, hF⟩ := ltt_some hF
      refine lv_topi (fun zx21 ezx21 => ?_)
      obtain rfl : x21 = zx21 := ex21.trans ezx21.symm
      refine lv_iload_n hx hb dX0_paintMoved_64 rfl (lv_at hl 3 rfl) ?_
      obtain ⟨y22, hy22, hF⟩ := bnd_some hF
      have J22 : ∀ (H : Heap) (locs : List Loc) (ls : Array Slot), va_P D classes (wld ct ad G s16.2) H → va_D A (wld ct ad G s16.2) → va_S A s.heap H locs → lv_has ls 9 [(6, .int s16.1), (5, .int x8), (4, .int y6.2), (3, .int s2.1), (0, .ref (ad a)), (1, .int p0), (2, .int p1)] → W p l e (headSpec wuX0_paintMoved ({ frames := 1, cells := 0, slots := 0, locals := 80 })).room s m ([.ref (ad a), .int p0, .int p1] : List Value).toArray below meth c H locs 0 0 (MQ below (va_Qv (fun (_ : Unit) => True) (fun _ t => kE D ct ad G A y t) A) ([.ref (ad a), .int p0, .int p1] : List Value).toArray s 0 0 A) (F0 m 75 ls [.int y22, .int x21]) := by
        intro H locs ls hP hD hS hl
        refine lv_iload hx hb dX0_paintMoved_75 (lv_at hl 2 rfl) ?_
        obtain ⟨y23, hy23, hF⟩ := bnd_some hF
        have hf9 := wA_in hD hA9 hS
        refine va_calli (va_runS (As := [.int x21, .int y22, .int y6.2]) (rest := []) ⟨hx, hb, hml, hown, hts⟩ (kX0_moved l D ct ad Z G s16.2 H.size x21 y22 y6.2 y23 hy23) (va_cwS 3 hts gX0_paintMoved_X0_moved rfl rfl rfl (by decide +kernel) ⟨Nat.le_of_ble_eq_true rfl, Nat.le_of_ble_eq_true rfl⟩) ⟨fun a U g mk q => by obtain ⟨q0, q1, qP, qK, qD, qZ, qN⟩ := q; exact ⟨q0, q1, qP, va_K.moved (u := U) (U := U.calling g mk a) (Vm.Alike.refl U.vm) qK, qD, sF.moved (u := U) (U := U.calling g mk a) (Vm.Alike.refl U.vm) qZ, nF.same rfl qN⟩, fun U hU hW => ⟨rfl, by rw [hU], by rw [hU]; exact hP, va_K.moved hW.alike hK, hD.weaken (fun _ _ _ _ => trivial), by rw [hU]; exact ((hZ.kept hS.2.1).narrow hf9).moved hW.alike, hN.warm hW⟩⟩ rfl rfl hl.1 rfl (lv_room (Nat.le_of_ble_eq_true rfl)) dX0_paintMoved_77 ⟨(Nat.zero_le _), (Nat.zero_le _)⟩) hS (fun q _ h => hf9 q h) hf9 (fun r u t H locs ht hvm hw hB hz1 hk1 hS => ?_)
        obtain ⟨hP, hK9, hD9⟩ := hB
        rw [ht] at hP
        try dsimp only at hw
        subst hw
        have hD := hD9.weaken (fun _ q _ h => hf9 q.1 h)
        refine lv_istore (lv' := [(7, .int y23.2), (6, .int s16.1), (5, .int x8), (4, .int y6.2), (3, .int s2.1), (0, .ref (ad a)), (1, .int p0), (2, .int p1)]) hx hb dX0_paintMoved_80 hl (by decide) rfl (fun ls hl => ?_)
        refine lv_iload hx hb dX0_paintMoved_82 (lv_at hl 1 rfl) ?_
        refine lv_iload hx hb dX0_paintMoved_84 (lv_at hl 3 rfl) ?_
        obtain ⟨hne, hF⟩ := chk_some hF
        refine lv_idiv hx hb dX0_paintMoved_86 hne ?_
        obtain ⟨x24, ex24, hF⟩ := ltt_some hF
        refine lv_topi (fun zx24 ezx24 => ?_)
        obtain rfl : x24 = zx24 := ex24.trans ezx24.symm
        refine lv_iload_n hx hb dX0_paintMoved_87 rfl (lv_at hl 4 rfl) ?_
        obtain ⟨y25, hy25, hF⟩ := bnd_some hF
        have J25 : ∀ (H : Heap) (locs : List Loc) (ls : Array Slot), va_P D classes (wld ct ad G y23.1) H → va_D A (wld ct ad G y23.1) → va_S A s.heap H locs → lv_has ls 9 [(7, .int y23.2), (6, .int s16.1), (5, .int x8), (4, .int y6.2), (3, .int s2.1), (0, .ref (ad a)), (1, .int p0), (2, .int p1)] → W p l e (headSpec wuX0_paintMoved ({ frames := 1, cells := 0, slots := 0, locals := 80 })).room s m ([.ref (ad a), .int p0, .int p1] : List Value).toArray below meth c H locs 0 0 (MQ below (va_Qv (fun (_ : Unit) => True) (fun _ t => kE D ct ad G A y t) A) ([.ref (ad a), .int p0, .int p1] : List Value).toArray s 0 0 A) (F0 m 98 ls [.int y25, .int x24]) := by
          intro H locs ls hP hD hS hl
          refine lv_aload_n hx hb dX0_paintMoved_98 rfl (lv_at hl 5 rfl) ?_
          refine lv_iload_n hx hb dX0_paintMoved_99 rfl (lv_at hl 4 rfl) ?_
          obtain ⟨y26, hy26, hF⟩ := bnd_some hF
          have hf9 := wA_in hD hA9 hS
          refine va_calli (va_runV (As := [.int s2.1]) (rest := [.int y25, .int x24]) ⟨hx, hb, hml, hown, hts⟩ (kX0_high l D ct ad Z G y23.1 H.size a s2.1 y26 hc hk hy26) (cwV 1 hts gX0_paintMoved_X0_high rfl rfl rfl (by decide +kernel) ⟨Nat.le_of_ble_eq_true rfl, Nat.le_of_ble_eq_true rfl⟩) ⟨fun a U g mk q => by obtain ⟨q0, q1, qP, qK, qD, qZ, qN⟩ := q; exact ⟨q0, q1, qP, va_K.moved (u := U) (U := U.calling g mk a) (Vm.Alike.refl U.vm) qK, qD, sF.moved (u := U) (U := U.calling g mk a) (Vm.Alike.refl U.vm) qZ, nF.same rfl qN⟩, va_recv hK hP (ci := 0) (q0 := a) rfl (wld_o ct ad G y23.1 hc hk (by decide)), fun U hU hW => ⟨rfl, by rw [hU], by rw [hU]; exact hP, va_K.moved hW.alike hK, hD.weaken (fun _ _ _ _ => trivial), by rw [hU]; exact ((hZ.kept hS.2.1).narrow hf9).moved hW.alike, hN.warm hW⟩⟩ rfl rfl hl.1 rfl (lv_room (Nat.le_of_ble_eq_true rfl)) dX0_paintMoved_100 ⟨(Nat.zero_le _), (Nat.zero_le _)⟩) hS (fun q _ h => hf9 q h) hf9 (fun r u t H locs ht hvm hw hB hz1 hk1 hS => ?_)
          obtain ⟨hP, hK9, hD9⟩ := hB
          rw [ht] at hP
          try dsimp only at hw
          subst hw
          have hD := hD9.weaken (fun _ q _ h => hf9 q.1 h)
          obtain ⟨y27, hy27, hF⟩ := bnd_some hF
          have hf9 := wA_in hD hA9 hS
          refine va_calli (va_runS (As := [.int x24, .int y25, .int y26.2]) (rest := []) ⟨hx, hb, hml, hown, hts⟩ (kX0_moved l D ct ad Z G y26.1 H.size x24 y25 y26.2 y27 hy27) (va_cwS 3 hts gX0_paintMoved_X0_moved rfl rfl rfl (by decide +kernel) ⟨Nat.le_of_ble_eq_true rfl, Nat.le_of_ble_eq_true rfl⟩) ⟨fun a U g mk q => by obtain ⟨q0, q1, qP, qK, qD, qZ, qN⟩ := q; exact ⟨q0, q1, qP, va_K.moved (u := U) (U := U.calling g mk a) (Vm.Alike.refl U.vm) qK, qD, sF.moved (u := U) (U := U.calling g mk a) (Vm.Alike.refl U.vm) qZ, nF.same rfl qN⟩, fun U hU hW => ⟨rfl, by rw [hU], by rw [hU]; exact hP, va_K.moved hW.alike hK, hD.weaken (fun _ _ _ _ => trivial), by rw [hU]; exact ((hZ.kept hS.2.1).narrow hf9).moved hW.alike, hN.warm hW⟩⟩ rfl rfl hl.1 rfl (lv_room (Nat.le_of_ble_eq_true rfl)) dX0_paintMoved_103 ⟨(Nat.zero_le _), (Nat.zero_le _)⟩) hS (fun q _ h => hf9 q h) hf9 (fun r u t H locs ht hvm hw hB hz1 hk1 hS => ?_)
          obtain ⟨hP, hK9, hD9⟩ := hB
          rw [ht] at hP
          try dsimp only at hw
          subst hw
          have hD := hD9.weaken (fun _ q _ h => hf9 q.1 h)
          refine lv_istore (lv' := [(8, .int y27.2), (7, .int y23.2), (6, .int s16.1), (5, .int x8), (4, .int y6.2), (3, .int s2.1), (0, .ref (ad a)), (1, .int p0), (2, .int p1)]) hx hb dX0_paintMoved_106 hl (by decide) rfl (fun ls hl => ?_)
          refine lv_aload_n hx hb dX0_paintMoved_108 rfl (lv_at hl 6 rfl) ?_
          refine va_get (D := D) (ci := 0) (v := va_re ad (y27.1.2 a 8)) (C := RX0) (T := TX0) (N := 21) hx hb hts (mus hf_X0) hown hK hP a (wld_o ct ad G y27.1 hc hk (by decide)) rfl 8 (by decide) (hts (.fieldLink RX0 66 "VideoSuite$Coder" "planes" "[[I") (mu mw_822)) (fun _ h9 => h9) rfl dX0_paintMoved_109 ?_
          refine lv_bipush (v := (9 : Int32)) hx hb dX0_paintMoved_112 (by decide) ?_
          refine lv_iload_n hx hb dX0_paintMoved_114 rfl (lv_at hl 5 rfl) ?_
          refine lv_iadd hx hb dX0_paintMoved_115 ?_
          obtain ⟨x28, ex28, hF⟩ := ltt_some hF
          refine lv_topi (fun zx28 ezx28 => ?_)
          obtain rfl : x28 = zx28 := ex28.trans ezx28.symm
          obtain ⟨b29, ho29, hc29, hk29, hF⟩ := dr_some hF
          refine W_st (st' := [.int x28, .ref (ad b29)]) (by rw [va_some ho29]) ?_
          obtain ⟨hvc, hF⟩ := chk_some hF
          refine ld_g hx hb hK hP hc29 hk29 hvc dX0_paintMoved_116 ?_
          refine lv_iload hx hb dX0_paintMoved_117 (lv_at hl 2 rfl) ?_
          refine lv_aload_n hx hb dX0_paintMoved_119 rfl (lv_at hl 6 rfl) ?_
          refine va_get (D := D) (ci := 0) (v := va_re ad (y27.1.2 a 8)) (C := RX0) (T := TX0) (N := 21) hx hb hts (mus hf_X0) hown hK hP a (wld_o ct ad G y27.1 hc hk (by decide)) rfl 8 (by decide) (hts (.fieldLink RX0 66 "VideoSuite$Coder" "planes" "[[I") (mu mw_822)) (fun _ h9 => h9) rfl dX0_paintMoved_120 ?_
          refine lv_bipush (v := (6 : Int32)) hx hb dX0_paintMoved_123 (by decide) ?_
          refine lv_iload_n hx hb dX0_paintMoved_125 rfl (lv_at hl 5 rfl) ?_
          refine lv_iadd hx hb dX0_paintMoved_126 ?_
          obtain ⟨x30, ex30, hF⟩ := ltt_some hF
          refine lv_topi (fun zx30 ezx30 => ?_)
          obtain rfl : x30 = zx30 := ex30.trans ezx30.symm
          refine W_st (st' := [.int x30, .ref (ad b29), .int s16.1, va_re ad (y27.1.2 b29 x28.toNatClampNeg)]) (by rw [va_some ho29]) ?_
          obtain ⟨hvc, hF⟩ := chk_some hF
          refine ld_g hx hb hK hP hc29 hk29 hvc dX0_paintMoved_127 ?_
          refine lv_iload hx hb dX0_paintMoved_128 (lv_at hl 0 rfl) ?_
          refine lv_iload hx hb dX0_paintMoved_130 (lv_at hl 4 rfl) ?_
          refine lv_imul hx hb dX0_paintMoved_132 ?_
          obtain ⟨x31, ex31, hF⟩ := ltt_some hF
          refine lv_topi (fun zx31 ezx31 => ?_)
          obtain rfl : x31 = zx31 := ex31.trans ezx31.symm
          refine lv_iload hx hb dX0_paintMoved_133 (lv_at hl 1 rfl) ?_
          refine lv_iadd hx hb dX0_paintMoved_135 ?_
          obtain ⟨x32, ex32, hF⟩ := ltt_some hF
          refine lv_topi (fun zx32 ezx32 => ?_)
          obtain rfl : x32 = zx32 := ex32.trans ezx32.symm
          obtain ⟨b33, ho33, hc33, hk33, hF⟩ := dr_some hF
          refine W_st (st' := [.int x32, .ref (ad b33), .int s16.1, va_re ad (y27.1.2 b29 x28.toNatClampNeg)]) (by rw [va_some ho33]) ?_
          obtain ⟨hvc, hF⟩ := chk_some hF
          refine va_iald hx hb hK hP b33 1 (wld_i ct ad G y27.1 hc33 hk33) rfl hvc dX0_paintMoved_136 ?_
          obtain ⟨x34, ex34, hF⟩ := ltt_some hF
          refine lv_topi (fun zx34 ezx34 => ?_)
          obtain rfl : x34 = zx34 := ex34.trans ezx34.symm
          obtain ⟨b35, ho35, hc35, hk35, hF⟩ := dr_some hF
          refine W_st (st' := [.int x34, .int s16.1, .ref (ad b35)]) (by rw [va_some ho35]) ?_
          obtain ⟨hvc, hF⟩ := chk_some hF
          refine va_iast hx hb hK hP hD hS b35 1 (wld_i ct ad G y27.1 hc35 hk35) rfl hvc dX0_paintMoved_137 (fun H locs hP hD hS => ?_)
          obtain ⟨M36, eM36, hF⟩ := ltt_some hF
          rw [set_i ct ad G y27.1 hc35 hk35, ← eM36] at hP hD
          obtain ⟨x37, ex37, hF⟩ := ltt_some hF
          refine lv_iinc (v := x37) (lv' := [(6, .int x37), (8, .int y27.2), (7, .int y23.2), (5, .int x8), (4, .int y6.2), (3, .int s2.1), (0, .ref (ad a)), (1, .int p0), (2, .int p1)]) hx hb dX0_paintMoved_138 hl (k := 2) rfl (by rw [ex37]; rfl) (by decide) rfl (fun ls hl => ?_)
          refine lv_goto (tgt := 52) hx hb dX0_paintMoved_141 (by decide) ?_
          obtain rfl := Option.some.inj hF
          exact hwz19 _ _ _ hP hD hS (lv_sub hl [0, 3, 4, 5, 6, 7, 8] rfl)
        clear hF
        have hF := hy25
        clear hy25
        refine lv_if_ne (tgt := 95) hx hb dX0_paintMoved_88 (by decide) (fun c38 => ?_) (fun c38 => ?_)
        · rw [if_neg c38] at hF
          refine lv_iload_n hx hb dX0_paintMoved_95 rfl (lv_at hl 7 rfl) ?_
          refine lv_iconst (v := (2 : Int32)) hx hb dX0_paintMoved_96 (by decide) ?_
          refine lv_idiv hx hb dX0_paintMoved_97 (by decide) ?_
          obtain ⟨x39, ex39, hF⟩ := ltt_some hF
          refine lv_topi (fun zx39 ezx39 => ?_)
          obtain rfl : x39 = zx39 := ex39.trans ezx39.symm
          obtain rfl := Option.some.inj hF
          exact J25 _ _ _ hP hD hS (lv_sub hl [0, 1, 2, 3, 4, 5, 6, 7] rfl)
        · rw [if_pos c38] at hF
          refine lv_iload_n hx hb dX0_paintMoved_91 rfl (lv_at hl 7 rfl) ?_
          refine lv_goto (tgt := 98) hx hb dX0_paintMoved_92 (by decide) ?_
          obtain rfl := Option.some.inj hF
          exact J25 _ _ _ hP hD hS (lv_sub hl [0, 1, 2, 3, 4, 5, 6, 7] rfl)
      clear hF
      have hF := hy22
      clear hy22
      refine lv_if_ne (tgt := 72) hx hb dX0_paintMoved_65 (by decide) (fun c40 => ?_) (fun c40 => ?_)
      · rw [if_neg c40] at hF
        refine lv_iload_n hx hb dX0_paintMoved_72 rfl (lv_at hl 5 rfl) ?_
        refine lv_iconst (v := (2 : Int32)) hx hb dX0_paintMoved_73 (by decide) ?_
        refine lv_idiv hx hb dX0_paintMoved_74 (by decide) ?_
        obtain ⟨x41, ex41, hF⟩ := ltt_some hF
        refine lv_topi (fun zx41 ezx41 => ?_)
        obtain rfl : x41 = zx41 := ex41.trans ezx41.symm
        obtain rfl := Option.some.inj hF
        exact J22 _ _ _ hP hD hS (lv_sub hl [0, 1, 2, 3, 4, 5, 6] rfl)
      · rw [if_pos c40] at hF
        refine lv_iload_n hx hb dX0_paintMoved_68 rfl (lv_at hl 5 rfl) ?_
        refine lv_goto (tgt := 75) hx hb dX0_paintMoved_69 (by decide) ?_
        obtain rfl := Option.some.inj hF
        exact J22 _ _ _ hP hD hS (lv_sub hl [0, 1, 2, 3, 4, 5, 6] rfl)
set_option maxRecDepth 20000 in
theorem gX0_paintNoise_X0_wide : GoodIn wuX0_paintNoise (wsV RX0 176 RX0 yX0_wide wuX0_wide) := gu_V mw_2376 mw_2378 mw_112 mw_175 mw_2379
set_option maxRecDepth 20000 in
set_option maxRecDepth 20000 in
theorem gX0_paintNoise_X0_high : GoodIn wuX0_paintNoise (wsV RX0 180 RX0 yX0_high wuX0_high) := gu_V mw_2380 mw_2382 mw_113 mw_175 mw_2383
set_option maxRecDepth 20000 in
set_option maxRecDepth 20000 in
theorem gX0_paintNoise_X11_clip_n189 : GoodIn wuX0_paintNoise wuX11_clip := gu_P mw_999
theorem dX0_paintNoise_0 : decode cX0_paintNoise 0 = .ok (.iload_n 1, 1) := by decide +kernel
theorem dX0_paintNoise_1 : decode cX0_paintNoise 1 = .ok (.sipush 255, 3) := by decide +kernel
theorem dX0_paintNoise_4 : decode cX0_paintNoise 4 = .ok (.iand, 1) := by decide +kernel
theorem dX0_paintNoise_5 : decode cX0_paintNoise 5 = .ok (.ifCond .ne 9, 3) := by decide +kernel
theorem dX0_paintNoise_8 : decode cX0_paintNoise 8 = .ok (.sipush 256, 3) := by decide +kernel
theorem dX0_paintNoise_11 : decode cX0_paintNoise 11 = .ok (.goto 8, 3) := by decide +kernel
theorem dX0_paintNoise_14 : decode cX0_paintNoise 14 = .ok (.iload_n 1, 1) := by decide +kernel
theorem dX0_paintNoise_15 : decode cX0_paintNoise 15 = .ok (.sipush 255, 3) := by decide +kernel
theorem dX0_paintNoise_18 : decode cX0_paintNoise 18 = .ok (.iand, 1) := by decide +kernel
theorem dX0_paintNoise_19 : decode cX0_paintNoise 19 = .ok (.istore 4, 2) := by decide +kernel
theorem dX0_paintNoise_21 : decode cX0_paintNoise 21 = .ok (.iload_n 3, 1) := by decide +kernel
theorem dX0_paintNoise_22 : decode cX0_paintNoise 22 = .ok (.istore 5, 2) := by decide +kernel
theorem dX0_paintNoise_24 : decode cX0_paintNoise 24 = .ok (.iconst 0, 1) := by decide +kernel
theorem dX0_paintNoise_25 : decode cX0_paintNoise 25 = .ok (.istore 6, 2) := by decide +kernel
theorem dX0_paintNoise_27 : decode cX0_paintNoise 27 = .ok (.iload 6, 2) := by decide +kernel
theorem dX0_paintNoise_29 : decode cX0_paintNoise 29 = .ok (.iconst 3, 1) := by decide +kernel
theorem dX0_paintNoise_30 : decode cX0_paintNoise 30 = .ok (.if_icmp .ge 82, 3) := by decide +kernel
theorem dX0_paintNoise_33 : decode cX0_paintNoise 33 = .ok (.aload_n 0, 1) := by decide +kernel
theorem dX0_paintNoise_34 : decode cX0_paintNoise 34 = .ok (.getfield 66, 3) := by decide +kernel
theorem dX0_paintNoise_37 : decode cX0_paintNoise 37 = .ok (.bipush 9, 2) := by decide +kernel
theorem dX0_paintNoise_39 : decode cX0_paintNoise 39 = .ok (.iload 6, 2) := by decide +kernel
theorem dX0_paintNoise_41 : decode cX0_paintNoise 41 = .ok (.iadd, 1) := by decide +kernel
theorem dX0_paintNoise_42 : decode cX0_paintNoise 42 = .ok (.aaload, 1) := by decide +kernel
theorem dX0_paintNoise_43 : decode cX0_paintNoise 43 = .ok (.astore 7, 2) := by decide +kernel
theorem dX0_paintNoise_45 : decode cX0_paintNoise 45 = .ok (.iconst 0, 1) := by decide +kernel
theorem dX0_paintNoise_46 : decode cX0_paintNoise 46 = .ok (.istore 8, 2) := by decide +kernel
theorem dX0_paintNoise_48 : decode cX0_paintNoise 48 = .ok (.iload 8, 2) := by decide +kernel
theorem dX0_paintNoise_50 : decode cX0_paintNoise 50 = .ok (.aload_n 0, 1) := by decide +kernel
theorem dX0_paintNoise_51 : decode cX0_paintNoise 51 = .ok (.iload 6, 2) := by decide +kernel
theorem dX0_paintNoise_53 : decode cX0_paintNoise 53 = .ok (.invokevirtual 176, 3) := by decide +kernel
theorem dX0_paintNoise_56 : decode cX0_paintNoise 56 = .ok (.aload_n 0, 1) := by decide +kernel
theorem dX0_paintNoise_57 : decode cX0_paintNoise 57 = .ok (.iload 6, 2) := by decide +kernel
theorem dX0_paintNoise_59 : decode cX0_paintNoise 59 = .ok (.invokevirtual 180, 3) := by decide +kernel
theorem dX0_paintNoise_62 : decode cX0_paintNoise 62 = .ok (.imul, 1) := by decide +kernel
theorem dX0_paintNoise_63 : decode cX0_paintNoise 63 = .ok (.if_icmp .ge 43, 3) := by decide +kernel
theorem dX0_paintNoise_66 : decode cX0_paintNoise 66 = .ok (.ldc 187, 2) := by decide +kernel
theorem dX0_paintNoise_68 : decode cX0_paintNoise 68 = .ok (.iload 5, 2) := by decide +kernel
theorem dX0_paintNoise_70 : decode cX0_paintNoise 70 = .ok (.imul, 1) := by decide +kernel
theorem dX0_paintNoise_71 : decode cX0_paintNoise 71 = .ok (.ldc 188, 2) := by decide +kernel
theorem dX0_paintNoise_73 : decode cX0_paintNoise 73 = .ok (.iadd, 1) := by decide +kernel
theorem dX0_paintNoise_74 : decode cX0_paintNoise 74 = .ok (.istore 5, 2) := by decide +kernel
theorem dX0_paintNoise_76 : decode cX0_paintNoise 76 = .ok (.aload 7, 2) := by decide +kernel
theorem dX0_paintNoise_78 : decode cX0_paintNoise 78 = .ok (.iload 8, 2) := by decide +kernel
theorem dX0_paintNoise_80 : decode cX0_paintNoise 80 = .ok (.aload 7, 2) := by decide +kernel
theorem dX0_paintNoise_82 : decode cX0_paintNoise 82 = .ok (.iload 8, 2) := by decide +kernel
theorem dX0_paintNoise_84 : decode cX0_paintNoise 84 = .ok (.iaload, 1) := by decide +kernel
theorem dX0_paintNoise_85 : decode cX0_paintNoise 85 = .ok (.iload 5, 2) := by decide +kernel
theorem dX0_paintNoise_87 : decode cX0_paintNoise 87 = .ok (.bipush 24, 2) := by decide +kernel
theorem dX0_paintNoise_89 : decode cX0_paintNoise 89 = .ok (.iushr, 1) := by decide +kernel
theorem dX0_paintNoise_90 : decode cX0_paintNoise 90 = .ok (.iload 4, 2) := by decide +kernel
theorem dX0_paintNoise_92 : decode cX0_paintNoise 92 = .ok (.irem, 1) := by decide +kernel
theorem dX0_paintNoise_93 : decode cX0_paintNoise 93 = .ok (.iadd, 1) := by decide +kernel
theorem dX0_paintNoise_94 : decode cX0_paintNoise 94 = .ok (.iload_n 2, 1) := by decide +kernel
theorem dX0_paintNoise_95 : decode cX0_paintNoise 95 = .ok (.isub, 1) := by decide +kernel
theorem dX0_paintNoise_96 : decode cX0_paintNoise 96 = .ok (.invokestatic 189, 3) := by decide +kernel
theorem dX0_paintNoise_99 : decode cX0_paintNoise 99 = .ok (.iastore, 1) := by decide +kernel
theorem dX0_paintNoise_100 : decode cX0_paintNoise 100 = .ok (.iinc 8 1, 3) := by decide +kernel
theorem dX0_paintNoise_103 : decode cX0_paintNoise 103 = .ok (.goto (-55), 3) := by decide +kernel
theorem dX0_paintNoise_106 : decode cX0_paintNoise 106 = .ok (.iinc 6 1, 3) := by decide +kernel
theorem dX0_paintNoise_109 : decode cX0_paintNoise 109 = .ok (.goto (-82), 3) := by decide +kernel
theorem dX0_paintNoise_112 : decode cX0_paintNoise 112 = .ok (.return_, 1) := by decide +kernel
def FX0_paintNoise (G : GG) (M : DD) (a : Nat) (p0 : Int32) (p1 : Int32) (p2 : Int32) : Option (DD) :=
  ltt ((p0 &&& ((255 : Int32)))) fun x1 =>
  bnd (if x1 = ((0 : Int32)) then (some ((256 : Int32))) else
  (ltt ((p0 &&& ((255 : Int32)))) fun x31 =>
  some (x31))) fun (y2 : Int32) =>
  bnd (itr (fun (s4 : Int32 × Int32 × DD) => ((if ((3 : Int32)) ≤ s4.2.1 then (some (.inr (s4.1, s4.2.1, s4.2.2))) else
  (ltt ((((9 : Int32)) + s4.2.1)) fun x8 =>
  dr G 15 ((s4.2.2.2 a 8)) fun b9 =>
  chk (¬ (x8 < 0 ∨ G.2.2 b9 ≤ x8.toNatClampNeg)) <|
  bnd (itr (fun (s11 : Int32 × Int32 × DD) => ((bnd (FX0_wide G s11.2.2 a s4.2.1) fun y15 =>
  bnd (FX0_high G y15.1 a s4.2.1) fun y16 =>
  ltt ((y15.2 * y16.2)) fun x17 =>
  if x17 ≤ s11.2.1 then (some (.inr (s11.1, s11.2.1, y16.1))) else
  (ltt ((((1664525 : Int32)) * s11.1)) fun x19 =>
  ltt ((x19 + ((1013904223 : Int32)))) fun x20 =>
  dr G 13 ((s4.2.2.2 b9 x8.toNatClampNeg)) fun b21 =>
  chk (¬ (s11.2.1 < 0 ∨ G.2.2 b21 ≤ s11.2.1.toNatClampNeg)) <|
  ltt (y16.1.1 b21 s11.2.1.toNatClampNeg) fun x22 =>
  ltt ((x20.toUInt32 >>> (((24 : Int32)).toUInt32 &&& Int32.toUInt32 31)).toInt32) fun x23 =>
  chk (¬ y2 = 0) <|
  ltt (x23 - x23 / y2 * y2) fun x24 =>
  ltt ((x22 + x24)) fun x25 =>
  ltt ((x25 - p1)) fun x26 =>
  bnd (FX11_clip G y16.1 x26) fun y27 =>
  chk (¬ (s11.2.1 < 0 ∨ G.2.2 b21 ≤ s11.2.1.toNatClampNeg)) <|
  ltt (uI y27.1 b21 s11.2.1.toNatClampNeg y27.2) fun M28 =>
  ltt (s11.2.1 + (1 : Int32)) fun x29 =>
  some (.inl (x20, x29, M28)))) : Option ((Int32 × Int32 × DD) ⊕ (Int32 × Int32 × DD)))) 1000000 (s4.1, (0 : Int32), s4.2.2)) fun (y10 : Int32 × Int32 × DD) =>
  ltt (s4.2.1 + (1 : Int32)) fun x13 =>
  some (.inl (y10.1, x13, y10.2.2)))) : Option ((Int32 × Int32 × DD) ⊕ (Int32 × Int32 × DD)))) 1000000 (p2, (0 : Int32), M)) fun (y3 : Int32 × Int32 × DD) =>
  some y3.2.2
set_option maxHeartbeats 4000000 in
set_option maxRecDepth 100000 in
theorem kX0_paintNoise (l : Launch) (D : va_G) (ct : CT) (ad : Nat → Nat) (Z : Nat → Nat) (G : GG) (M : DD) (sz : Nat) (a : Nat) (p0 : Int32) (p1 : Int32) (p2 : Int32) (y : DD) (hc : a < G.1) (hk : G.2.1 a = 0) (hF : FX0_paintNoise G M a p0 p1 p2 = some y) : Met l yX0_paintNoise wuX0_paintNoise ({ frames := 1, cells := 0, slots := 0, locals := 21 }) (va_Pc [.ref (ad a), .int p0, .int p1, .int p2] (kB D ct ad Z G M sz)) (va_Qv (fun (_ : Unit) => True) (fun _ t => kE D ct ad G (wA ad G sz) y t) (wA ad G sz)) 0 0 (wA ad G sz) := by
  refine Met.ofW (cc := cX0_paintNoise) (maxL := 9) (ret := none) (by decide) rfl ?_
  intro p e s m args below meth c s₁ B hml hv
  obtain ⟨rfl, hsz, hP, hK, hD0, hZ, hN⟩ := hv
  have hx := B.exec
  have hb := B.bytes
  have hr := B.returns
  have hts := atoms_spec (ws := wuX0_paintNoise) B.pre
  have hown : s.vm.findClass RX0 = some m.cls := findClass_of_methodNamed B.named
  have hlocks := B.notSynchronized
  subst hsz
  have hD := wD_self (sz := s.heap.size) hD0
  have hA9 : ∀ q, s.heap.size ≤ q → wA ad G s.heap.size q := fun q h => Or.inr h
  generalize hAe : wA ad G s.heap.size = A at hD hA9 hZ ⊢
  have hS : va_S A s.heap s.heap [] := va_S.rf
  have hl := lv_entry ([.ref (ad a), .int p0, .int p1, .int p2]) (n := 9) (Nat.le_of_ble_eq_true rfl)
  rw [lg_entry_eq]
  generalize (lg_sl ([.ref (ad a), .int p0, .int p1, .int p2]) ++ List.replicate (9 - (lg_sl ([.ref (ad a), .int p0, .int p1, .int p2])).length) Slot.unset).toArray = ls at hl ⊢
  have hl : lv_has ls 9 [(0, .ref (ad a)), (1, .int p0), (2, .int p1), (3, .int p2)] := hl
  unfold FX0_paintNoise at hF
  refine lv_iload_n hx hb dX0_paintNoise_0 rfl (lv_at hl 1 rfl) ?_
  refine lv_sipush (v := (255 : Int32)) hx hb dX0_paintNoise_1 (by decide) ?_
  refine lv_iand hx hb dX0_paintNoise_4 ?_
  obtain ⟨x1, ex1, hF⟩ := ltt_some hF
  refine lv_topi (fun zx1 ezx1 => ?_)
  obtain rfl : x1 = zx1 := ex1.trans ezx1.symm
  obtain ⟨y2, hy2, hF⟩ := bnd_some hF
  have J2 : ∀ (H : Heap) (locs : List Loc) (ls : Array Slot), va_P D classes (wld ct ad G M) H → va_D A (wld ct ad G M) → va_S A s.heap H locs → lv_has ls 9 [(0, .ref (ad a)), (1, .int p0), (2, .int p1), (3, .int p2)] → W p l e (headSpec wuX0_paintNoise ({ frames := 1, cells := 0, slots := 0, locals := 21 })).room s m ([.ref (ad a), .int p0, .int p1, .int p2] : List Value).toArray below meth c H locs 0 0 (MQ below (va_Qv (fun (_ : Unit) => True) (fun _ t => kE D ct ad G A y t) A) ([.ref (ad a), .int p0, .int p1, .int p2] : List Value).toArray s 0 0 A) (F0 m 19 ls [.int y2]) := by
    intro H locs ls hP hD hS hl
    refine lv_istore (lv' := [(4, .int y2), (0, .ref (ad a)), (1, .int p0), (2, .int p1), (3, .int p2)]) hx hb dX0_paintNoise_19 hl (by decide) rfl (fun ls hl => ?_)
    refine lv_iload_n hx hb dX0_paintNoise_21 rfl (lv_at hl 4 rfl) ?_
    refine lv_istore (lv' := [(5, .int p2), (4, .int y2), (0, .ref (ad a)), (1, .int p0), (2, .int p1), (3, .int p2)]) hx hb dX0_paintNoise_22 hl (by decide) rfl (fun ls hl => ?_)
    refine lv_iconst (v := (0 : Int32)) hx hb dX0_paintNoise_24 (by decide) ?_
    refine lv_istore (lv' := [(6, .int (0 : Int32)), (5, .int p2), (4, .int y2), (0, .ref (ad a)), (1, .int p0), (2, .int p1), (3, .int p2)]) hx hb dX0_paintNoise_25 hl (by decide) rfl (fun ls hl => ?_)
    obtain ⟨y3, hy3, hF⟩ := bnd_some hF
    have K3 : ∀ (H : Heap) (locs : List Loc) (ls : Array Slot), va_P D classes (wld ct ad G y3.2.2) H → va_D A (wld ct ad G y3.2.2) → va_S A s.heap H locs → lv_has ls 9 [(6, .int y3.2.1), (5, .int y3.1), (4, .int y2), (0, .ref (ad a)), (1, .int p0), (2, .int p1), (3, .int p2)] → W p l e (headSpec wuX0_paintNoise ({ frames := 1, cells := 0, slots := 0, locals := 21 })).room s m ([.ref (ad a), .int p0, .int p1, .int p2] : List Value).toArray below meth c H locs 0 0 (MQ below (va_Qv (fun (_ : Unit) => True) (fun _ t => kE D ct ad G A y t) A) ([.ref (ad a), .int p0, .int p1, .int p2] : List Value).toArray s 0 0 A) (F0 m 112 ls []) := by
      intro H locs ls hP hD hS hl
      obtain rfl := Option.some.inj hF
      exact W.vret hx hb hr (fun t ht hW => ⟨⟨(), rfl, trivial, ⟨by rw [ht]; exact hP, va_K.moved hW.alike hK, hD⟩⟩, hS.F ht⟩) hS.2.2 dX0_paintNoise_112
    clear hF
    refine itr_rule (fun (s4 : Int32 × Int32 × DD) => ∀ (H : Heap) (locs : List Loc) (ls : Array Slot), va_P D classes (wld ct ad G s4.2.2) H → va_D A (wld ct ad G s4.2.2) → va_S A s.heap H locs → lv_has ls 9 [(6, .int s4.2.1), (5, .int s4.1), (4, .int y2), (0, .ref (ad a)), (1, .int p0), (2, .int p1), (3, .int p2)] → W p l e (headSpec wuX0_paintNoise ({ frames := 1, cells := 0, slots := 0, locals := 21 })).room s m ([.ref (ad a), .int p0, .int p1, .int p2] : List Value).toArray below meth c H locs 0 0 (MQ below (va_Qv (fun (_ : Unit) => True) (fun _ t => kE D ct ad G A y t) A) ([.ref (ad a), .int p0, .int p1, .int p2] : List Value).toArray s 0 0 A) (F0 m 27 ls [])) ?_ _ _ hy3 _ _ _ hP hD hS (lv_sub hl [0, 1, 2, 3, 4, 5, 6] rfl)
    rintro s4 ⟨z6, hF, hwz6⟩ H locs ls hP hD hS hl
    try dsimp only at hF
    refine lv_iload hx hb dX0_paintNoise_27 (lv_at hl 0 rfl) ?_
    refine lv_iconst (v := (3 : Int32)) hx hb dX0_paintNoise_29 (by decide) ?_
    refine lv_icmp_ge (tgt := 112) hx hb dX0_paintNoise_30 (by decide) (fun c7 => ?_) (fun c7 => ?_)
    · rw [if_pos c7] at hF
      obtain rfl := Option.some.inj hF
      subst hwz6
      exact K3 _ _ _ hP hD hS (lv_sub hl [0, 1, 2, 3, 4, 5, 6] rfl)
    · rw [if_neg c7] at hF
      refine lv_aload_n hx hb dX0_paintNoise_33 rfl (lv_at hl 3 rfl) ?_
      refine va_get (D := D) (ci := 0) (v := va_re ad (s4.2.2.2 a 8)) (C := RX0) (T := TX0) (N := 21) hx hb hts (mus hf_X0) hown hK hP a (wld_o ct ad G s4.2.2 hc hk (by decide)) rfl 8 (by decide) (hts (.fieldLink RX0 66 "VideoSuite$Coder" "planes" "[[I") (mu mw_822)) (fun _ h9 => h9) rfl dX0_paintNoise_34 ?_
      refine lv_bipush (v := (9 : Int32)) hx hb dX0_paintNoise_37 (by decide) ?_
      refine lv_iload hx hb dX0_paintNoise_39 (lv_at hl 0 rfl) ?_
      refine lv_iadd hx hb dX0_paintNoise_41 ?_
      obtain ⟨x8, ex8, hF⟩ := ltt_some hF
      refine lv_topi (fun zx8 ezx8 => ?_)
      obtain rfl : x8 = zx8 := ex8.trans ezx8.symm
      obtain ⟨b9, ho9, hc9, hk9, hF⟩ := dr_some hF
      refine W_st (st' := [.int x8, .ref (ad b9)]) (by rw [va_some ho9]) ?_
      obtain ⟨hvc, hF⟩ := chk_some hF
      refine ld_g hx hb hK hP hc9 hk9 hvc dX0_paintNoise_42 ?_
      refine lv_astoreq (lv' := [(7, va_re ad (s4.2.2.2 b9 x8.toNatClampNeg)), (6, .int s4.2.1), (5, .int s4.1), (4, .int y2), (0, .ref (ad a)), (1, .int p0), (2, .int p1), (3, .int p2)]) hx hb dX0_paintNoise_43 hl (by decide) rfl (fun ls hl => ?_)
      refine lv_iconst (v := (0 : Int32)) hx hb dX0_paintNoise_45 (by decide) ?_
      refine lv_istore (lv' := [(8, .int (0 : Int32)), (7, va_re ad (s4.2.2.2 b9 x8.toNatClampNeg)), (6, .int s4.2.1), (5, .int s4.1), (4, .int y2), (0, .ref (ad a)), (1, .int p0), (2, .int p1), (3, .int p2)]) hx hb dX0_paintNoise_46 hl (by decide) (by generalize ((s4.2.2.2 b9 x8.toNatClampNeg)) = o9; cases o9 <;> rfl) (fun ls hl => ?_)
      obtain ⟨y10, hy10, hF⟩ := bnd_some hF
      have K10 : ∀ (H : Heap) (locs : List Loc) (ls : Array Slot), va_P D classes (wld ct ad G y10.2.2) H → va_D A (wld ct ad G y10.2.2) → va_S A s.heap H locs → lv_has ls 9 [(8, .int y10.2.1), (7, va_re ad (s4.2.2.2 b9 x8.toNatClampNeg)), (6, .int s4.2.1), (5, .int y10.1), (4, .int y2), (0, .ref (ad a)), (1, .int p0), (2, .int p1), (3, .int p2)] → W p l e (headSpec wuX0_paintNoise ({ frames := 1, cells := 0, slots := 0, locals := 21 })).room s m ([.ref (ad a), .int p0, .int p1, .int p2] : List Value).toArray below meth c H locs 0 0 (MQ below (va_Qv (fun (_ : Unit) => True) (fun _ t => kE D ct ad G A y t) A) ([.ref (ad a), .int p0, .int p1, .int p2] : List Value).toArray s 0 0 A) (F0 m 106 ls []) := by
        intro H locs ls hP hD hS hl
        obtain ⟨x13, ex13, hF⟩ := ltt_some hF
        refine lv_iinc (v := x13) (lv' := [(6, .int x13), (8, .int y10.2.1), (7, va_re ad (s4.2.2.2 b9 x8.toNatClampNeg)), (5, .int y10.1), (4, .int y2), (0, .ref (ad a)), (1, .int p0), (2, .int p1), (3, .int p2)]) hx hb dX0_paintNoise_106 hl (k := 2) rfl (by rw [ex13]; rfl) (by decide) rfl (fun ls hl => ?_)
        refine lv_goto (tgt := 27) hx hb dX0_paintNoise_109 (by decide) ?_
        obtain rfl := Option.some.inj hF
        exact hwz6 _ _ _ hP hD hS (lv_sub hl [0, 3, 4, 5, 6, 7, 8] rfl)
      clear hF
      refine itr_rule (fun (s11 : Int32 × Int32 × DD) => ∀ (H : Heap) (locs : List Loc) (ls : Array Slot), va_P D classes (wld ct ad G s11.2.2) H → va_D A (wld ct ad G s11.2.2) → va_S A s.heap H locs → lv_has ls 9 [(8, .int s11.2.1), (7, va_re ad (s4.2.2.2 b9 x8.toNatClampNeg)), (6, .int s4.2.1), (5, .int s11.1), (4, .int y2), (0, .ref (ad a)), (1, .int p0), (2, .int p1), (3, .int p2)] → W p l e (headSpec wuX0_paintNoise ({ frames := 1, cells := 0, slots := 0, locals := 21 })).room s m ([.ref (ad a), .int p0, .int p1, .int p2] : List Value).toArray below meth c H locs 0 0 (MQ below (va_Qv (fun (_ : Unit) => True) (fun _ t => kE D ct ad G A y t) A) ([.ref (ad a), .int p0, .int p1, .int p2] : List Value).toArray s 0 0 A) (F0 m 48 ls [])) ?_ _ _ hy10 _ _ _ hP hD hS (lv_sub hl [0, 1, 2, 3, 4, 5, 6, 7, 8] rfl)
      rintro s11 ⟨z14, hF, hwz14⟩ H locs ls hP hD hS hl
      try dsimp only at hF
      refine lv_iload hx hb dX0_paintNoise_48 (lv_at hl 0 rfl) ?_
      refine lv_aload_n hx hb dX0_paintNoise_50 rfl (lv_at hl 5 rfl) ?_
      refine lv_iload hx hb dX0_paintNoise_51 (lv_at hl 2 rfl) ?_
      obtain ⟨y15, hy15, hF⟩ := bnd_some hF
      have hf9 := wA_in hD hA9 hS
      refine va_calli (va_runV (As := [.int s4.2.1]) (rest := [.int s11.2.1]) ⟨hx, hb, hml, hown, hts⟩ (kX0_wide l D ct ad Z G s11.2.2 H.size a s4.2.1 y15 hc hk hy15) (cwV 1 hts gX0_paintNoise_X0_wide rfl rfl rfl (by decide +kernel) ⟨Nat.le_of_ble_eq_true rfl, Nat.le_of_ble_eq_true rfl⟩) ⟨fun a U g mk q => by obtain ⟨q0, q1, qP, qK, qD, qZ, qN⟩ := q; exact ⟨q0, q1, qP, va_K.moved (u := U) (U := U.calling g mk a) (Vm.Alike.refl U.vm) qK, qD, sF.moved (u := U) (U := U.calling g mk a) (Vm.Alike.refl U.vm) qZ, nF.same rfl qN⟩, va_recv hK hP (ci := 0) (q0 := a) rfl (wld_o ct ad G s11.2.2 hc hk (by decide)), fun U hU hW => ⟨rfl, by rw [hU], by rw [hU]; exact hP, va_K.moved hW.alike hK, hD.weaken (fun _ _ _ _ => trivial), by rw [hU]; exact ((hZ.kept hS.2.1).narrow hf9).moved hW.alike, hN.warm hW⟩⟩ rfl rfl hl.1 rfl (lv_room (Nat.le_of_ble_eq_true rfl)) dX0_paintNoise_53 ⟨(Nat.zero_le _), (Nat.zero_le _)⟩) hS (fun q _ h => hf9 q h) hf9 (fun r u t H locs ht hvm hw hB hz1 hk1 hS => ?_)
      obtain ⟨hP, hK9, hD9⟩ := hB
      rw [ht] at hP
      try dsimp only at hw
      subst hw
      have hD := hD9.weaken (fun _ q _ h => hf9 q.1 h)
      refine lv_aload_n hx hb dX0_paintNoise_56 rfl (lv_at hl 5 rfl) ?_
      refine lv_iload hx hb dX0_paintNoise_57 (lv_at hl 2 rfl) ?_
      obtain ⟨y16, hy16, hF⟩ := bnd_some hF
      have hf9 := wA_in hD hA9 hS
      refine va_calli (va_runV (As := [.int s4.2.1]) (rest := [.int y15.2, .int s11.2.1]) ⟨hx, hb, hml, hown, hts⟩ (kX0_high l D ct ad Z G y15.1 H.size a s4.2.1 y16 hc hk hy16) (cwV 1 hts gX0_paintNoise_X0_high rfl rfl rfl (by decide +kernel) ⟨Nat.le_of_ble_eq_true rfl, Nat.le_of_ble_eq_true rfl⟩) ⟨fun a U g mk q => by obtain ⟨q0, q1, qP, qK, qD, qZ, qN⟩ := q; exact ⟨q0, q1, qP, va_K.moved (u := U) (U := U.calling g mk a) (Vm.Alike.refl U.vm) qK, qD, sF.moved (u := U) (U := U.calling g mk a) (Vm.Alike.refl U.vm) qZ, nF.same rfl qN⟩, va_recv hK hP (ci := 0) (q0 := a) rfl (wld_o ct ad G y15.1 hc hk (by decide)), fun U hU hW => ⟨rfl, by rw [hU], by rw [hU]; exact hP, va_K.moved hW.alike hK, hD.weaken (fun _ _ _ _ => trivial), by rw [hU]; exact ((hZ.kept hS.2.1).narrow hf9).moved hW.alike, hN.warm hW⟩⟩ rfl rfl hl.1 rfl (lv_room (Nat.le_of_ble_eq_true rfl)) dX0_paintNoise_59 ⟨(Nat.zero_le _), (Nat.zero_le _)⟩) hS (fun q _ h => hf9 q h) hf9 (fun r u t H locs ht hvm hw hB hz1 hk1 hS => ?_)
      obtain ⟨hP, hK9, hD9⟩ := hB
      rw [ht] at hP
      try dsimp only at hw
      subst hw
      have hD := hD9.weaken (fun _ q _ h => hf9 q.1 h)
      refine lv_imul hx hb dX0_paintNoise_62 ?_
      obtain ⟨x17, ex17, hF⟩ := ltt_some hF
      refine lv_topi (fun zx17 ezx17 => ?_)
      obtain rfl : x17 = zx17 := ex17.trans ezx17.symm
      refine lv_icmp_ge (tgt := 106) hx hb dX0_paintNoise_63 (by decide) (fun c18 => ?_) (fun c18 => ?_)
      · rw [if_pos c18] at hF
        obtain rfl := Option.some.inj hF
        subst hwz14
        exact K10 _ _ _ hP hD hS (lv_sub hl [0, 1, 2, 3, 4, 5, 6, 7, 8] rfl)
      · rw [if_neg c18] at hF
        refine lv_ldc (v := (1664525 : Int32)) hx hb hown (hts (.constant RX0 187 (1664525 : Int32)) (mu mw_2388)) dX0_paintNoise_66 ?_
        refine lv_iload hx hb dX0_paintNoise_68 (lv_at hl 3 rfl) ?_
        refine lv_imul hx hb dX0_paintNoise_70 ?_
        obtain ⟨x19, ex19, hF⟩ := ltt_some hF
        refine lv_topi (fun zx19 ezx19 => ?_)
        obtain rfl : x19 = zx19 := ex19.trans ezx19.symm
        refine lv_ldc (v := (1013904223 : Int32)) hx hb hown (hts (.constant RX0 188 (1013904223 : Int32)) (mu mw_2389)) dX0_paintNoise_71 ?_
        refine lv_iadd hx hb dX0_paintNoise_73 ?_
        obtain ⟨x20, ex20, hF⟩ := ltt_some hF
        refine lv_topi (fun zx20 ezx20 => ?_)
        obtain rfl : x20 = zx20 := ex20.trans ezx20.symm
        refine lv_istore (lv' := [(5, .int x20), (8, .int s11.2.1), (7, va_re ad (s4.2.2.2 b9 x8.toNatClampNeg)), (6, .int s4.2.1), (4, .int y2), (0, .ref (ad a)), (1, .int p0), (2, .int p1), (3, .int p2)]) hx hb dX0_paintNoise_74 hl (by decide) rfl (fun ls hl => ?_)
        refine lv_aloadq hx hb dX0_paintNoise_76 (lv_at hl 2 rfl) ?_
        refine lv_iload hx hb dX0_paintNoise_78 (lv_at hl 1 rfl) ?_
        refine lv_aloadq hx hb dX0_paintNoise_80 (lv_at hl 2 rfl) ?_
        refine lv_iload hx hb dX0_paintNoise_82 (lv_at hl 1 rfl) ?_
        obtain ⟨b21, ho21, hc21, hk21, hF⟩ := dr_some hF
        refine W_st (st' := [.int s11.2.1, .ref (ad b21), .int s11.2.1, .ref (ad b21)]) (by rw [va_some ho21]) ?_
        obtain ⟨hvc, hF⟩ := chk_some hF
        refine va_iald hx hb hK hP b21 1 (wld_i ct ad G y16.1 hc21 hk21) rfl hvc dX0_paintNoise_84 ?_
        obtain ⟨x22, ex22, hF⟩ := ltt_some hF
        refine lv_topi (fun zx22 ezx22 => ?_)
        obtain rfl : x22 = zx22 := ex22.trans ezx22.symm
        refine lv_iload hx hb dX0_paintNoise_85 (lv_at hl 0 rfl) ?_
        refine lv_bipush (v := (24 : Int32)) hx hb dX0_paintNoise_87 (by decide) ?_
        refine lv_iushr (v := (x20.toUInt32 >>> (((24 : Int32)).toUInt32 &&& Int32.toUInt32 31)).toInt32) hx hb dX0_paintNoise_89 rfl ?_
        obtain ⟨x23, ex23, hF⟩ := ltt_some hF
        refine lv_topi (fun zx23 ezx23 => ?_)
        obtain rfl : x23 = zx23 := ex23.trans ezx23.symm
        refine lv_iload hx hb dX0_paintNoise_90 (lv_at hl 4 rfl) ?_
        obtain ⟨hne, hF⟩ := chk_some hF
        refine lv_irem hx hb dX0_paintNoise_92 hne ?_
        obtain ⟨x24, ex24, hF⟩ := ltt_some hF
        refine lv_topi (fun zx24 ezx24 => ?_)
        obtain rfl : x24 = zx24 := ex24.trans ezx24.symm
        refine lv_iadd hx hb dX0_paintNoise_93 ?_
        obtain ⟨x25, ex25, hF⟩ := ltt_some hF
        refine lv_topi (fun zx25 ezx25 => ?_)
        obtain rfl : x25 = zx25 := ex25.trans ezx25.symm
        refine lv_iload_n hx hb dX0_paintNoise_94 rfl (lv_at hl 7 rfl) ?_
        refine lv_isub hx hb dX0_paintNoise_95 ?_
        obtain ⟨x26, ex26, hF⟩ := ltt_some hF
        refine lv_topi (fun zx26 ezx26 => ?_)
        obtain rfl : x26 = zx26 := ex26.trans ezx26.symm
        obtain ⟨y27, hy27, hF⟩ := bnd_some hF
        have hf9 := wA_in hD hA9 hS
        refine va_calli (va_runSN (As := [.int x26]) (rest := [.int s11.2.1, .ref (ad b21)]) ⟨hx, hb, hml, hown, hts⟩ (kX11_clip l D ct ad Z G y16.1 H.size x26 y27 hy27) ⟨va_cnB 1 hts gX0_paintNoise_X11_clip_n189 rfl rfl rfl (hN.1 (RX0, 189, yX11_clip, RX11) (List.mem_of_getElem? (i := 3) rfl)) (hts (.initialized RX11) (mu mw_166)) (by decide +kernel) ⟨Nat.le_of_ble_eq_true rfl, Nat.le_of_ble_eq_true rfl⟩, hts (.static yX11_clip) (mu mw_998), trivial⟩ ⟨fun a U g mk q => by obtain ⟨q0, q1, qP, qK, qD, qZ, qN⟩ := q; exact ⟨q0, q1, qP, va_K.moved (u := U) (U := U.calling g mk a) (Vm.Alike.refl U.vm) qK, qD, sF.moved (u := U) (U := U.calling g mk a) (Vm.Alike.refl U.vm) qZ, nF.same rfl qN⟩, fun U hU hW => ⟨rfl, by rw [hU], by rw [hU]; exact hP, va_K.moved hW.alike hK, hD.weaken (fun _ _ _ _ => trivial), by rw [hU]; exact ((hZ.kept hS.2.1).narrow hf9).moved hW.alike, hN.warm hW⟩⟩ rfl rfl hl.1 rfl (lv_room (Nat.le_of_ble_eq_true rfl)) dX0_paintNoise_96 ⟨(Nat.zero_le _), (Nat.zero_le _)⟩) hS (fun q _ h => hf9 q h) hf9 (fun r u t H locs ht hvm hw hB hz1 hk1 hS => ?_)
        obtain ⟨hP, hK9, hD9⟩ := hB
        rw [ht] at hP
        try dsimp only at hw
        subst hw
        have hD := hD9.weaken (fun _ q _ h => hf9 q.1 h)
        obtain ⟨hvc, hF⟩ := chk_some hF
        refine va_iast hx hb hK hP hD hS b21 1 (wld_i ct ad G y27.1 hc21 hk21) rfl hvc dX0_paintNoise_99 (fun H locs hP hD hS => ?_)
        obtain ⟨M28, eM28, hF⟩ := ltt_some hF
        rw [set_i ct ad G y27.1 hc21 hk21, ← eM28] at hP hD
        obtain ⟨x29, ex29, hF⟩ := ltt_some hF
        refine lv_iinc (v := x29) (lv' := [(8, .int x29), (5, .int x20), (7, va_re ad (s4.2.2.2 b9 x8.toNatClampNeg)), (6, .int s4.2.1), (4, .int y2), (0, .ref (ad a)), (1, .int p0), (2, .int p1), (3, .int p2)]) hx hb dX0_paintNoise_100 hl (k := 1) rfl (by rw [ex29]; rfl) (by decide) (by generalize ((s4.2.2.2 b9 x8.toNatClampNeg)) = o9; cases o9 <;> rfl) (fun ls hl => ?_)
        refine lv_goto (tgt := 48) hx hb dX0_paintNoise_103 (by decide) ?_
        obtain rfl := Option.some.inj hF
        exact hwz14 _ _ _ hP hD hS (lv_sub hl [0, 2, 3, 1, 4, 5, 6, 7, 8] rfl)
  clear hF
  have hF := hy2
  clear hy2
  refine lv_if_ne (tgt := 14) hx hb dX0_paintNoise_5 (by decide) (fun c30 => ?_) (fun c30 => ?_)
  · rw [if_neg c30] at hF
    refine lv_iload_n hx hb dX0_paintNoise_14 rfl (lv_at hl 1 rfl) ?_
    refine lv_sipush (v := (255 : Int32)) hx hb dX0_paintNoise_15 (by decide) ?_
    refine lv_iand hx hb dX0_paintNoise_18 ?_
    obtain ⟨x31, ex31, hF⟩ := ltt_some hF
    refine lv_topi (fun zx31 ezx31 => ?_)
    obtain rfl : x31 = zx31 := ex31.trans ezx31.symm
    obtain rfl := Option.some.inj hF
    exact J2 _ _ _ hP hD hS (lv_sub hl [0, 1, 2, 3] rfl)
  · rw [if_pos c30] at hF
    refine lv_sipush (v := (256 : Int32)) hx hb dX0_paintNoise_8 (by decide) ?_
    refine lv_goto (tgt := 19) hx hb dX0_paintNoise_11 (by decide) ?_
    obtain rfl := Option.some.inj hF
    exact J2 _ _ _ hP hD hS (lv_sub hl [0, 1, 2, 3] rfl)
set_option maxRecDepth 20000 in
theorem gX0_paintSlope_X0_wide : GoodIn wuX0_paintSlope (wsV RX0 176 RX0 yX0_wide wuX0_wide) := gu_V mw_2376 mw_2378 mw_112 mw_175 mw_2379
set_option maxRecDepth 20000 in
set_option maxRecDepth 20000 in
theorem gX0_paintSlope_X0_high : GoodIn wuX0_paintSlope (wsV RX0 180 RX0 yX0_high wuX0_high) := gu_V mw_2380 mw_2382 mw_113 mw_175 mw_2383
theorem dX0_paintSlope_0 : decode cX0_paintSlope 0 = .ok (.iconst 0, 1) := by decide +kernel
theorem dX0_paintSlope_1 : decode cX0_paintSlope 1 = .ok (.istore 4, 2) := by decide +kernel
theorem dX0_paintSlope_3 : decode cX0_paintSlope 3 = .ok (.iload 4, 2) := by decide +kernel
theorem dX0_paintSlope_5 : decode cX0_paintSlope 5 = .ok (.iconst 3, 1) := by decide +kernel
theorem dX0_paintSlope_6 : decode cX0_paintSlope 6 = .ok (.if_icmp .ge 110, 3) := by decide +kernel
theorem dX0_paintSlope_9 : decode cX0_paintSlope 9 = .ok (.iload 4, 2) := by decide +kernel
theorem dX0_paintSlope_11 : decode cX0_paintSlope 11 = .ok (.ifCond .ne 7, 3) := by decide +kernel
theorem dX0_paintSlope_14 : decode cX0_paintSlope 14 = .ok (.iconst 1, 1) := by decide +kernel
theorem dX0_paintSlope_15 : decode cX0_paintSlope 15 = .ok (.goto 4, 3) := by decide +kernel
theorem dX0_paintSlope_18 : decode cX0_paintSlope 18 = .ok (.iconst 2, 1) := by decide +kernel
theorem dX0_paintSlope_19 : decode cX0_paintSlope 19 = .ok (.istore 5, 2) := by decide +kernel
theorem dX0_paintSlope_21 : decode cX0_paintSlope 21 = .ok (.iconst 0, 1) := by decide +kernel
theorem dX0_paintSlope_22 : decode cX0_paintSlope 22 = .ok (.istore 6, 2) := by decide +kernel
theorem dX0_paintSlope_24 : decode cX0_paintSlope 24 = .ok (.iload 6, 2) := by decide +kernel
theorem dX0_paintSlope_26 : decode cX0_paintSlope 26 = .ok (.aload_n 0, 1) := by decide +kernel
theorem dX0_paintSlope_27 : decode cX0_paintSlope 27 = .ok (.iload 4, 2) := by decide +kernel
theorem dX0_paintSlope_29 : decode cX0_paintSlope 29 = .ok (.invokevirtual 176, 3) := by decide +kernel
theorem dX0_paintSlope_32 : decode cX0_paintSlope 32 = .ok (.aload_n 0, 1) := by decide +kernel
theorem dX0_paintSlope_33 : decode cX0_paintSlope 33 = .ok (.iload 4, 2) := by decide +kernel
theorem dX0_paintSlope_35 : decode cX0_paintSlope 35 = .ok (.invokevirtual 180, 3) := by decide +kernel
theorem dX0_paintSlope_38 : decode cX0_paintSlope 38 = .ok (.imul, 1) := by decide +kernel
theorem dX0_paintSlope_39 : decode cX0_paintSlope 39 = .ok (.if_icmp .ge 71, 3) := by decide +kernel
theorem dX0_paintSlope_42 : decode cX0_paintSlope 42 = .ok (.iload 5, 2) := by decide +kernel
theorem dX0_paintSlope_44 : decode cX0_paintSlope 44 = .ok (.iload 6, 2) := by decide +kernel
theorem dX0_paintSlope_46 : decode cX0_paintSlope 46 = .ok (.aload_n 0, 1) := by decide +kernel
theorem dX0_paintSlope_47 : decode cX0_paintSlope 47 = .ok (.iload 4, 2) := by decide +kernel
theorem dX0_paintSlope_49 : decode cX0_paintSlope 49 = .ok (.invokevirtual 176, 3) := by decide +kernel
theorem dX0_paintSlope_52 : decode cX0_paintSlope 52 = .ok (.irem, 1) := by decide +kernel
theorem dX0_paintSlope_53 : decode cX0_paintSlope 53 = .ok (.imul, 1) := by decide +kernel
theorem dX0_paintSlope_54 : decode cX0_paintSlope 54 = .ok (.istore 7, 2) := by decide +kernel
theorem dX0_paintSlope_56 : decode cX0_paintSlope 56 = .ok (.iload 5, 2) := by decide +kernel
theorem dX0_paintSlope_58 : decode cX0_paintSlope 58 = .ok (.iload 6, 2) := by decide +kernel
theorem dX0_paintSlope_60 : decode cX0_paintSlope 60 = .ok (.aload_n 0, 1) := by decide +kernel
theorem dX0_paintSlope_61 : decode cX0_paintSlope 61 = .ok (.iload 4, 2) := by decide +kernel
theorem dX0_paintSlope_63 : decode cX0_paintSlope 63 = .ok (.invokevirtual 176, 3) := by decide +kernel
theorem dX0_paintSlope_66 : decode cX0_paintSlope 66 = .ok (.idiv, 1) := by decide +kernel
theorem dX0_paintSlope_67 : decode cX0_paintSlope 67 = .ok (.imul, 1) := by decide +kernel
theorem dX0_paintSlope_68 : decode cX0_paintSlope 68 = .ok (.istore 8, 2) := by decide +kernel
theorem dX0_paintSlope_70 : decode cX0_paintSlope 70 = .ok (.aload_n 0, 1) := by decide +kernel
theorem dX0_paintSlope_71 : decode cX0_paintSlope 71 = .ok (.getfield 66, 3) := by decide +kernel
theorem dX0_paintSlope_74 : decode cX0_paintSlope 74 = .ok (.bipush 9, 2) := by decide +kernel
theorem dX0_paintSlope_76 : decode cX0_paintSlope 76 = .ok (.iload 4, 2) := by decide +kernel
theorem dX0_paintSlope_78 : decode cX0_paintSlope 78 = .ok (.iadd, 1) := by decide +kernel
theorem dX0_paintSlope_79 : decode cX0_paintSlope 79 = .ok (.aaload, 1) := by decide +kernel
theorem dX0_paintSlope_80 : decode cX0_paintSlope 80 = .ok (.iload 6, 2) := by decide +kernel
theorem dX0_paintSlope_82 : decode cX0_paintSlope 82 = .ok (.iload_n 1, 1) := by decide +kernel
theorem dX0_paintSlope_83 : decode cX0_paintSlope 83 = .ok (.iload 7, 2) := by decide +kernel
theorem dX0_paintSlope_85 : decode cX0_paintSlope 85 = .ok (.imul, 1) := by decide +kernel
theorem dX0_paintSlope_86 : decode cX0_paintSlope 86 = .ok (.iload_n 2, 1) := by decide +kernel
theorem dX0_paintSlope_87 : decode cX0_paintSlope 87 = .ok (.iload 8, 2) := by decide +kernel
theorem dX0_paintSlope_89 : decode cX0_paintSlope 89 = .ok (.imul, 1) := by decide +kernel
theorem dX0_paintSlope_90 : decode cX0_paintSlope 90 = .ok (.iadd, 1) := by decide +kernel
theorem dX0_paintSlope_91 : decode cX0_paintSlope 91 = .ok (.iload_n 3, 1) := by decide +kernel
theorem dX0_paintSlope_92 : decode cX0_paintSlope 92 = .ok (.iadd, 1) := by decide +kernel
theorem dX0_paintSlope_93 : decode cX0_paintSlope 93 = .ok (.bipush 40, 2) := by decide +kernel
theorem dX0_paintSlope_95 : decode cX0_paintSlope 95 = .ok (.iload 4, 2) := by decide +kernel
theorem dX0_paintSlope_97 : decode cX0_paintSlope 97 = .ok (.imul, 1) := by decide +kernel
theorem dX0_paintSlope_98 : decode cX0_paintSlope 98 = .ok (.iadd, 1) := by decide +kernel
theorem dX0_paintSlope_99 : decode cX0_paintSlope 99 = .ok (.sipush 255, 3) := by decide +kernel
theorem dX0_paintSlope_102 : decode cX0_paintSlope 102 = .ok (.iand, 1) := by decide +kernel
theorem dX0_paintSlope_103 : decode cX0_paintSlope 103 = .ok (.iastore, 1) := by decide +kernel
theorem dX0_paintSlope_104 : decode cX0_paintSlope 104 = .ok (.iinc 6 1, 3) := by decide +kernel
theorem dX0_paintSlope_107 : decode cX0_paintSlope 107 = .ok (.goto (-83), 3) := by decide +kernel
theorem dX0_paintSlope_110 : decode cX0_paintSlope 110 = .ok (.iinc 4 1, 3) := by decide +kernel
theorem dX0_paintSlope_113 : decode cX0_paintSlope 113 = .ok (.goto (-110), 3) := by decide +kernel
theorem dX0_paintSlope_116 : decode cX0_paintSlope 116 = .ok (.return_, 1) := by decide +kernel
def FX0_paintSlope (G : GG) (M : DD) (a : Nat) (p0 : Int32) (p1 : Int32) (p2 : Int32) : Option (DD) :=
  bnd (itr (fun (s2 : Int32 × DD) => ((if ((3 : Int32)) ≤ s2.1 then (some (.inr (s2.1, s2.2))) else
  (bnd (if s2.1 = ((0 : Int32)) then (some ((1 : Int32))) else
  (some ((2 : Int32)))) fun (y6 : Int32) =>
  bnd (itr (fun (s8 : Int32 × DD) => ((bnd (FX0_wide G s8.2 a s2.1) fun y12 =>
  bnd (FX0_high G y12.1 a s2.1) fun y13 =>
  ltt ((y12.2 * y13.2)) fun x14 =>
  if x14 ≤ s8.1 then (some (.inr (s8.1, y13.1))) else
  (bnd (FX0_wide G y13.1 a s2.1) fun y16 =>
  chk (¬ y16.2 = 0) <|
  ltt (s8.1 - s8.1 / y16.2 * y16.2) fun x17 =>
  ltt ((y6 * x17)) fun x18 =>
  bnd (FX0_wide G y16.1 a s2.1) fun y19 =>
  chk (¬ y19.2 = 0) <|
  ltt (s8.1 / y19.2) fun x20 =>
  ltt ((y6 * x20)) fun x21 =>
  ltt ((((9 : Int32)) + s2.1)) fun x22 =>
  dr G 15 ((y19.1.2 a 8)) fun b23 =>
  chk (¬ (x22 < 0 ∨ G.2.2 b23 ≤ x22.toNatClampNeg)) <|
  ltt ((p0 * x18)) fun x24 =>
  ltt ((p1 * x21)) fun x25 =>
  ltt ((x24 + x25)) fun x26 =>
  ltt ((x26 + p2)) fun x27 =>
  ltt ((((40 : Int32)) * s2.1)) fun x28 =>
  ltt ((x27 + x28)) fun x29 =>
  ltt ((x29 &&& ((255 : Int32)))) fun x30 =>
  dr G 13 ((y19.1.2 b23 x22.toNatClampNeg)) fun b31 =>
  chk (¬ (s8.1 < 0 ∨ G.2.2 b31 ≤ s8.1.toNatClampNeg)) <|
  ltt (uI y19.1 b31 s8.1.toNatClampNeg x30) fun M32 =>
  ltt (s8.1 + (1 : Int32)) fun x33 =>
  some (.inl (x33, M32)))) : Option ((Int32 × DD) ⊕ (Int32 × DD)))) 1000000 ((0 : Int32), s2.2)) fun (y7 : Int32 × DD) =>
  ltt (s2.1 + (1 : Int32)) fun x10 =>
  some (.inl (x10, y7.2)))) : Option ((Int32 × DD) ⊕ (Int32 × DD)))) 1000000 ((0 : Int32), M)) fun (y1 : Int32 × DD) =>
  some y1.2
set_option maxHeartbeats 4000000 in
set_option maxRecDepth 100000 in
theorem kX0_paintSlope (l : Launch) (D : va_G) (ct : CT) (ad : Nat → Nat) (Z : Nat → Nat) (G : GG) (M : DD) (sz : Nat) (a : Nat) (p0 : Int32) (p1 : Int32) (p2 : Int32) (y : DD) (hc : a < G.1) (hk : G.2.1 a = 0) (hF : FX0_paintSlope G M a p0 p1 p2 = some y) : Met l yX0_paintSlope wuX0_paintSlope ({ frames := 1, cells := 0, slots := 0, locals := 21 }) (va_Pc [.ref (ad a), .int p0, .int p1, .int p2] (kB D ct ad Z G M sz)) (va_Qv (fun (_ : Unit) => True) (fun _ t => kE D ct ad G (wA ad G sz) y t) (wA ad G sz)) 0 0 (wA ad G sz) := by
  refine Met.ofW (cc := cX0_paintSlope) (maxL := 9) (ret := none) (by decide) rfl ?_
  intro p e s m args below meth c s₁ B hml hv
  obtain ⟨rfl, hsz, hP, hK, hD0, hZ, hN⟩ := hv
  have hx := B.exec
  have hb := B.bytes
  have hr := B.returns
  have hts := atoms_spec (ws := wuX0_paintSlope) B.pre
  have hown : s.vm.findClass RX0 = some m.cls := findClass_of_methodNamed B.named
  have hlocks := B.notSynchronized
  subst hsz
  have hD := wD_self (sz := s.heap.size) hD0
  have hA9 : ∀ q, s.heap.size ≤ q → wA ad G s.heap.size q := fun q h => Or.inr h
  generalize hAe : wA ad G s.heap.size = A at hD hA9 hZ ⊢
  have hS : va_S A s.heap s.heap [] := va_S.rf
  have hl := lv_entry ([.ref (ad a), .int p0, .int p1, .int p2]) (n := 9) (Nat.le_of_ble_eq_true rfl)
  rw [lg_entry_eq]
  generalize (lg_sl ([.ref (ad a), .int p0, .int p1, .int p2]) ++ List.replicate (9 - (lg_sl ([.ref (ad a), .int p0, .int p1, .int p2])).length) Slot.unset).toArray = ls at hl ⊢
  have hl : lv_has ls 9 [(0, .ref (ad a)), (1, .int p0), (2, .int p1), (3, .int p2)] := hl
  unfold FX0_paintSlope at hF
  refine lv_iconst (v := (0 : Int32)) hx hb dX0_paintSlope_0 (by decide) ?_
  refine lv_istore (lv' := [(4, .int (0 : Int32)), (0, .ref (ad a)), (1, .int p0), (2, .int p1), (3, .int p2)]) hx hb dX0_paintSlope_1 hl (by decide) rfl (fun ls hl => ?_)
  obtain ⟨y1, hy1, hF⟩ := bnd_some hF
  have K1 : ∀ (H : Heap) (locs : List Loc) (ls : Array Slot), va_P D classes (wld ct ad G y1.2) H → va_D A (wld ct ad G y1.2) → va_S A s.heap H locs → lv_has ls 9 [(4, .int y1.1), (0, .ref (ad a)), (1, .int p0), (2, .int p1), (3, .int p2)] → W p l e (headSpec wuX0_paintSlope ({ frames := 1, cells := 0, slots := 0, locals := 21 })).room s m ([.ref (ad a), .int p0, .int p1, .int p2] : List Value).toArray below meth c H locs 0 0 (MQ below (va_Qv (fun (_ : Unit) => True) (fun _ t => kE D ct ad G A y t) A) ([.ref (ad a), .int p0, .int p1, .int p2] : List Value).toArray s 0 0 A) (F0 m 116 ls []) := by
    intro H locs ls hP hD hS hl
    obtain rfl := Option.some.inj hF
    exact W.vret hx hb hr (fun t ht hW => ⟨⟨(), rfl, trivial, ⟨by rw [ht]; exact hP, va_K.moved hW.alike hK, hD⟩⟩, hS.F ht⟩) hS.2.2 dX0_paintSlope_116
  clear hF
  refine itr_rule (fun (s2 : Int32 × DD) => ∀ (H : Heap) (locs : List Loc) (ls : Array Slot), va_P D classes (wld ct ad G s2.2) H → va_D A (wld ct ad G s2.2) → va_S A s.heap H locs → lv_has ls 9 [(4, .int s2.1), (0, .ref (ad a)), (1, .int p0), (2, .int p1), (3, .int p2)] → W p l e (headSpec wuX0_paintSlope ({ frames := 1, cells := 0, slots := 0, locals := 21 })).room s m ([.ref (ad a), .int p0, .int p1, .int p2] : List Value).toArray below meth c H locs 0 0 (MQ below (va_Qv (fun (_ : Unit) => True) (fun _ t => kE D ct ad G A y t) A) ([.ref (ad a), .int p0, .int p1, .int p2] : List Value).toArray s 0 0 A) (F0 m 3 ls [])) ?_ _ _ hy1 _ _ _ hP hD hS (lv_sub hl [0, 1, 2, 3, 4] rfl)
  rintro s2 ⟨z4, hF, hwz4⟩ H locs ls hP hD hS hl
  try dsimp only at hF
  refine lv_iload hx hb dX0_paintSlope_3 (lv_at hl 0 rfl) ?_
  refine lv_iconst (v := (3 : Int32)) hx hb dX0_paintSlope_5 (by decide) ?_
  refine lv_icmp_ge (tgt := 116) hx hb dX0_paintSlope_6 (by decide) (fun c5 => ?_) (fun c5 => ?_)
  · rw [if_pos c5] at hF
    obtain rfl := Option.some.inj hF
    subst hwz4
    exact K1 _ _ _ hP hD hS (lv_sub hl [0, 1, 2, 3, 4] rfl)
  · rw [if_neg c5] at hF
    refine lv_iload hx hb dX0_paintSlope_9 (lv_at hl 0 rfl) ?_
    obtain ⟨y6, hy6, hF⟩ := bnd_some hF
    have J6 : ∀ (H : Heap) (locs : List Loc) (ls : Array Slot), va_P D classes (wld ct ad G s2.2) H → va_D A (wld ct ad G s2.2) → va_S A s.heap H locs → lv_has ls 9 [(4, .int s2.1), (0, .ref (ad a)), (1, .int p0), (2, .int p1), (3, .int p2)] → W p l e (headSpec wuX0_paintSlope ({ frames := 1, cells := 0, slots := 0, locals := 21 })).room s m ([.ref (ad a), .int p0, .int p1, .int p2] : List Value).toArray below meth c H locs 0 0 (MQ below (va_Qv (fun (_ : Unit) => True) (fun _ t => kE D ct ad G A y t) A) ([.ref (ad a), .int p0, .int p1, .int p2] : List Value).toArray s 0 0 A) (F0 m 19 ls [.int y6]) := by
      intro H locs ls hP hD hS hl
      refine lv_istore (lv' := [(5, .int y6), (4, .int s2.1), (0, .ref (ad a)), (1, .int p0), (2, .int p1), (3, .int p2)]) hx hb dX0_paintSlope_19 hl (by decide) rfl (fun ls hl => ?_)
      refine lv_iconst (v := (0 : Int32)) hx hb dX0_paintSlope_21 (by decide) ?_
      refine lv_istore (lv' := [(6, .int (0 : Int32)), (5, .int y6), (4, .int s2.1), (0, .ref (ad a)), (1, .int p0), (2, .int p1), (3, .int p2)]) hx hb dX0_paintSlope_22 hl (by decide) rfl (fun ls hl => ?_)
      obtain ⟨y7, hy7, hF⟩ := bnd_some hF
      have K7 : ∀ (H : Heap) (locs : List Loc) (ls : Array Slot), va_P D classes (wld ct ad G y7.2) H → va_D A (wld ct ad G y7.2) → va_S A s.heap H locs → lv_has ls 9 [(6, .int y7.1), (5, .int y6), (4, .int s2.1), (0, .ref (ad a)), (1, .int p0), (2, .int p1), (3, .int p2)] → W p l e (headSpec wuX0_paintSlope ({ frames := 1, cells := 0, slots := 0, locals := 21 })).room s m ([.ref (ad a), .int p0, .int p1, .int p2] : List Value).toArray below meth c H locs 0 0 (MQ below (va_Qv (fun (_ : Unit) => True) (fun _ t => kE D ct ad G A y t) A) ([.ref (ad a), .int p0, .int p1, .int p2] : List Value).toArray s 0 0 A) (F0 m 110 ls []) := by
        intro H locs ls hP hD hS hl
        obtain ⟨x10, ex10, hF⟩ := ltt_some hF
        refine lv_iinc (v := x10) (lv' := [(4, .int x10), (6, .int y7.1), (5, .int y6), (0, .ref (ad a)), (1, .int p0), (2, .int p1), (3, .int p2)]) hx hb dX0_paintSlope_110 hl (k := 2) rfl (by rw [ex10]; rfl) (by decide) rfl (fun ls hl => ?_)
        refine lv_goto (tgt := 3) hx hb dX0_paintSlope_113 (by decide) ?_
        obtain rfl := Option.some.inj hF
        exact hwz4 _ _ _ hP hD hS (lv_sub hl [0, 3, 4, 5, 6] rfl)
      clear hF
      refine itr_rule (fun (s8 : Int32 × DD) => ∀ (H : Heap) (locs : List Loc) (ls : Array Slot), va_P D classes (wld ct ad G s8.2) H → va_D A (wld ct ad G s8.2) → va_S A s.heap H locs → lv_has ls 9 [(6, .int s8.1), (5, .int y6), (4, .int s2.1), (0, .ref (ad a)), (1, .int p0), (2, .int p1), (3, .int p2)] → W p l e (headSpec wuX0_paintSlope ({ frames := 1, cells := 0, slots := 0, locals := 21 })).room s m ([.ref (ad a), .int p0, .int p1, .int p2] : List Value).toArray below meth c H locs 0 0 (MQ below (va_Qv (fun (_ : Unit) => True) (fun _ t => kE D ct ad G A y t) A) ([.ref (ad a), .int p0, .int p1, .int p2] : List Value).toArray s 0 0 A) (F0 m 24 ls [])) ?_ _ _ hy7 _ _ _ hP hD hS (lv_sub hl [0, 1, 2, 3, 4, 5, 6] rfl)
      rintro s8 ⟨z11, hF, hwz11⟩ H locs ls hP hD hS hl
      try dsimp only at hF
      refine lv_iload hx hb dX0_paintSlope_24 (lv_at hl 0 rfl) ?_
      refine lv_aload_n hx hb dX0_paintSlope_26 rfl (lv_at hl 3 rfl) ?_
      refine lv_iload hx hb dX0_paintSlope_27 (lv_at hl 2 rfl) ?_
      obtain ⟨y12, hy12, hF⟩ := bnd_some hF
      have hf9 := wA_in hD hA9 hS
      refine va_calli (va_runV (As := [.int s2.1]) (rest := [.int s8.1]) ⟨hx, hb, hml, hown, hts⟩ (kX0_wide l D ct ad Z G s8.2 H.size a s2.1 y12 hc hk hy12) (cwV 1 hts gX0_paintSlope_X0_wide rfl rfl rfl (by decide +kernel) ⟨Nat.le_of_ble_eq_true rfl, Nat.le_of_ble_eq_true rfl⟩) ⟨fun a U g mk q => by obtain ⟨q0, q1, qP, qK, qD, qZ, qN⟩ := q; exact ⟨q0, q1, qP, va_K.moved (u := U) (U := U.calling g mk a) (Vm.Alike.refl U.vm) qK, qD, sF.moved (u := U) (U := U.calling g mk a) (Vm.Alike.refl U.vm) qZ, nF.same rfl qN⟩, va_recv hK hP (ci := 0) (q0 := a) rfl (wld_o ct ad G s8.2 hc hk (by decide)), fun U hU hW => ⟨rfl, by rw [hU], by rw [hU]; exact hP, va_K.moved hW.alike hK, hD.weaken (fun _ _ _ _ => trivial), by rw [hU]; exact ((hZ.kept hS.2.1).narrow hf9).moved hW.alike, hN.warm hW⟩⟩ rfl rfl hl.1 rfl (lv_room (Nat.le_of_ble_eq_true rfl)) dX0_paintSlope_29 ⟨(Nat.zero_le _), (Nat.zero_le _)⟩) hS (fun q _ h => hf9 q h) hf9 (fun r u t H locs ht hvm hw hB hz1 hk1 hS => ?_)
      obtain ⟨hP, hK9, hD9⟩ := hB
      rw [ht] at hP
      try dsimp only at hw
      subst hw
      have hD := hD9.weaken (fun _ q _ h => hf9 q.1 h)
      refine lv_aload_n hx hb dX0_paintSlope_32 rfl (lv_at hl 3 rfl) ?_
      refine lv_iload hx hb dX0_paintSlope_33 (lv_at hl 2 rfl) ?_
      obtain ⟨y13, hy13, hF⟩ := bnd_some hF
      have hf9 := wA_in hD hA9 hS
      refine va_calli (va_runV (As := [.int s2.1]) (rest := [.int y12.2, .int s8.1]) ⟨hx, hb, hml, hown, hts⟩ (kX0_high l D ct ad Z G y12.1 H.size a s2.1 y13 hc hk hy13) (cwV 1 hts gX0_paintSlope_X0_high rfl rfl rfl (by decide +kernel) ⟨Nat.le_of_ble_eq_true rfl, Nat.le_of_ble_eq_true rfl⟩) ⟨fun a U g mk q => by obtain ⟨q0, q1, qP, qK, qD, qZ, qN⟩ := q; exact ⟨q0, q1, qP, va_K.moved (u := U) (U := U.calling g mk a) (Vm.Alike.refl U.vm) qK, qD, sF.moved (u := U) (U := U.calling g mk a) (Vm.Alike.refl U.vm) qZ, nF.same rfl qN⟩, va_recv hK hP (ci := 0) (q0 := a) rfl (wld_o ct ad G y12.1 hc hk (by decide)), fun U hU hW => ⟨rfl, by rw [hU], by rw [hU]; exact hP, va_K.moved hW.alike hK, hD.weaken (fun _ _ _ _ => trivial), by rw [hU]; exact ((hZ.kept hS.2.1).narrow hf9).moved hW.alike, hN.warm hW⟩⟩ rfl rfl hl.1 rfl (lv_room (Nat.le_of_ble_eq_true rfl)) dX0_paintSlope_35 ⟨(Nat.zero_le _), (Nat.zero_le _)⟩) hS (fun q _ h => hf9 q h) hf9 (fun r u t H locs ht hvm hw hB hz1 hk1 hS => ?_)
      obtain ⟨hP, hK9, hD9⟩ := hB
      rw [ht] at hP
      try dsimp only at hw
      subst hw
      have hD := hD9.weaken (fun _ q _ h => hf9 q.1 h)
      refine lv_imul hx hb dX0_paintSlope_38 ?_
      obtain ⟨x14, ex14, hF⟩ := ltt_some hF
      refine lv_topi (fun zx14 ezx14 => ?_)
      obtain rfl : x14 = zx14 := ex14.trans ezx14.symm
      refine lv_icmp_ge (tgt := 110) hx hb dX0_paintSlope_39 (by decide) (fun c15 => ?_) (fun c15 => ?_)
      · rw [if_pos c15] at hF
        obtain rfl := Option.some.inj hF
        subst hwz11
        exact K7 _ _ _ hP hD hS (lv_sub hl [0, 1, 2, 3, 4, 5, 6] rfl)
      · rw [if_neg c15] at hF
        refine lv_iload hx hb dX0_paintSlope_42 (lv_at hl 1 rfl) ?_
        refine lv_iload hx hb dX0_paintSlope_44 (lv_at hl 0 rfl) ?_
        refine lv_aload_n hx hb dX0_paintSlope_46 rfl (lv_at hl 3 rfl) ?_
        refine lv_iload hx hb dX0_paintSlope_47 (lv_at hl 2 rfl) ?_
        obtain ⟨y16, hy16, hF⟩ := bnd_some hF
        have hf9 := wA_in hD hA9 hS
        refine va_calli (va_runV (As := [.int s2.1]) (rest := [.int s8.1, .int y6]) ⟨hx, hb, hml, hown, hts⟩ (kX0_wide l D ct ad Z G y13.1 H.size a s2.1 y16 hc hk hy16) (cwV 1 hts gX0_paintSlope_X0_wide rfl rfl rfl (by decide +kernel) ⟨Nat.le_of_ble_eq_true rfl, Nat.le_of_ble_eq_true rfl⟩) ⟨fun a U g mk q => by obtain ⟨q0, q1, qP, qK, qD, qZ, qN⟩ := q; exact ⟨q0, q1, qP, va_K.moved (u := U) (U := U.calling g mk a) (Vm.Alike.refl U.vm) qK, qD, sF.moved (u := U) (U := U.calling g mk a) (Vm.Alike.refl U.vm) qZ, nF.same rfl qN⟩, va_recv hK hP (ci := 0) (q0 := a) rfl (wld_o ct ad G y13.1 hc hk (by decide)), fun U hU hW => ⟨rfl, by rw [hU], by rw [hU]; exact hP, va_K.moved hW.alike hK, hD.weaken (fun _ _ _ _ => trivial), by rw [hU]; exact ((hZ.kept hS.2.1).narrow hf9).moved hW.alike, hN.warm hW⟩⟩ rfl rfl hl.1 rfl (lv_room (Nat.le_of_ble_eq_true rfl)) dX0_paintSlope_49 ⟨(Nat.zero_le _), (Nat.zero_le _)⟩) hS (fun q _ h => hf9 q h) hf9 (fun r u t H locs ht hvm hw hB hz1 hk1 hS => ?_)
        obtain ⟨hP, hK9, hD9⟩ := hB
        rw [ht] at hP
        try dsimp only at hw
        subst hw
        have hD := hD9.weaken (fun _ q _ h => hf9 q.1 h)
        obtain ⟨hne, hF⟩ := chk_some hF
        refine lv_irem hx hb dX0_paintSlope_52 hne ?_
        obtain ⟨x17, ex17, hF⟩ := ltt_some hF
        refine lv_topi (fun zx17 ezx17 => ?_)
        obtain rfl : x17 = zx17 := ex17.trans ezx17.symm
        refine lv_imul hx hb dX0_paintSlope_53 ?_
        obtain ⟨x18, ex18, hF⟩ := ltt_some hF
        refine lv_topi (fun zx18 ezx18 => ?_)
        obtain rfl : x18 = zx18 := ex18.trans ezx18.symm
        refine lv_istore (lv' := [(7, .int x18), (6, .int s8.1), (5, .int y6), (4, .int s2.1), (0, .ref (ad a)), (1, .int p0), (2, .int p1), (3, .int p2)]) hx hb dX0_paintSlope_54 hl (by decide) rfl (fun ls hl => ?_)
        refine lv_iload hx hb dX0_paintSlope_56 (lv_at hl 2 rfl) ?_
        refine lv_iload hx hb dX0_paintSlope_58 (lv_at hl 1 rfl) ?_
        refine lv_aload_n hx hb dX0_paintSlope_60 rfl (lv_at hl 4 rfl) ?_
        refine lv_iload hx hb dX0_paintSlope_61 (lv_at hl 3 rfl) ?_
        obtain ⟨y19, hy19, hF⟩ := bnd_some hF
        have hf9 := wA_in hD hA9 hS
        refine va_calli (va_runV (As := [.int s2.1]) (rest := [.int s8.1, .int y6]) ⟨hx, hb, hml, hown, hts⟩ (kX0_wide l D ct ad Z G y16.1 H.size a s2.1 y19 hc hk hy19) (cwV 1 hts gX0_paintSlope_X0_wide rfl rfl rfl (by decide +kernel) ⟨Nat.le_of_ble_eq_true rfl, Nat.le_of_ble_eq_true rfl⟩) ⟨fun a U g mk q => by obtain ⟨q0, q1, qP, qK, qD, qZ, qN⟩ := q; exact ⟨q0, q1, qP, va_K.moved (u := U) (U := U.calling g mk a) (Vm.Alike.refl U.vm) qK, qD, sF.moved (u := U) (U := U.calling g mk a) (Vm.Alike.refl U.vm) qZ, nF.same rfl qN⟩, va_recv hK hP (ci := 0) (q0 := a) rfl (wld_o ct ad G y16.1 hc hk (by decide)), fun U hU hW => ⟨rfl, by rw [hU], by rw [hU]; exact hP, va_K.moved hW.alike hK, hD.weaken (fun _ _ _ _ => trivial), by rw [hU]; exact ((hZ.kept hS.2.1).narrow hf9).moved hW.alike, hN.warm hW⟩⟩ rfl rfl hl.1 rfl (lv_room (Nat.le_of_ble_eq_true rfl)) dX0_paintSlope_63 ⟨(Nat.zero_le _), (Nat.zero_le _)⟩) hS (fun q _ h => hf9 q h) hf9 (fun r u t H locs ht hvm hw hB hz1 hk1 hS => ?_)
        obtain ⟨hP, hK9, hD9⟩ := hB
        rw [ht] at hP
        try dsimp only at hw
        subst hw
        have hD := hD9.weaken (fun _ q _ h => hf9 q.1 h)
        obtain ⟨hne, hF⟩ := chk_some hF
        refine lv_idiv hx hb dX0_paintSlope_66 hne ?_
        obtain ⟨x20, ex20, hF⟩ := ltt_some hF
        refine lv_topi (fun zx20 ezx20 => ?_)
        obtain rfl : x20 = zx20 := ex20.trans ezx20.symm
        refine lv_imul hx hb dX0_paintSlope_67 ?_
        obtain ⟨x21, ex21, hF⟩ := ltt_some hF
        refine lv_topi (fun zx21 ezx21 => ?_)
        obtain rfl : x21 = zx21 := ex21.trans ezx21.symm
        refine lv_istore (lv' := [(8, .int x21), (7, .int x18), (6, .int s8.1), (5, .int y6), (4, .int s2.1), (0, .ref (ad a)), (1, .int p0), (2, .int p1), (3, .int p2)]) hx hb dX0_paintSlope_68 hl (by decide) rfl (fun ls hl => ?_)
        refine lv_aload_n hx hb dX0_paintSlope_70 rfl (lv_at hl 5 rfl) ?_
        refine va_get (D := D) (ci := 0) (v := va_re ad (y19.1.2 a 8)) (C := RX0) (T := TX0) (N := 21) hx hb hts (mus hf_X0) hown hK hP a (wld_o ct ad G y19.1 hc hk (by decide)) rfl 8 (by decide) (hts (.fieldLink RX0 66 "VideoSuite$Coder" "planes" "[[I") (mu mw_822)) (fun _ h9 => h9) rfl dX0_paintSlope_71 ?_
        refine lv_bipush (v := (9 : Int32)) hx hb dX0_paintSlope_74 (by decide) ?_
        refine lv_iload hx hb dX0_paintSlope_76 (lv_at hl 4 rfl) ?_
        refine lv_iadd hx hb dX0_paintSlope_78 ?_
        obtain ⟨x22, ex22, hF⟩ := ltt_some hF
        refine lv_topi (fun zx22 ezx22 => ?_)
        obtain rfl : x22 = zx22 := ex22.trans ezx22.symm
        obtain ⟨b23, ho23, hc23, hk23, hF⟩ := dr_some hF
        refine W_st (st' := [.int x22, .ref (ad b23)]) (by rw [va_some ho23]) ?_
        obtain ⟨hvc, hF⟩ := chk_some hF
        refine ld_g hx hb hK hP hc23 hk23 hvc dX0_paintSlope_79 ?_
        refine lv_iload hx hb dX0_paintSlope_80 (lv_at hl 2 rfl) ?_
        refine lv_iload_n hx hb dX0_paintSlope_82 rfl (lv_at hl 6 rfl) ?_
        refine lv_iload hx hb dX0_paintSlope_83 (lv_at hl 1 rfl) ?_
        refine lv_imul hx hb dX0_paintSlope_85 ?_
        obtain ⟨x24, ex24, hF⟩ := ltt_some hF
        refine lv_topi (fun zx24 ezx24 => ?_)
        obtain rfl : x24 = zx24 := ex24.trans ezx24.symm
        refine lv_iload_n hx hb dX0_paintSlope_86 rfl (lv_at hl 7 rfl) ?_
        refine lv_iload hx hb dX0_paintSlope_87 (lv_at hl 0 rfl) ?_
        refine lv_imul hx hb dX0_paintSlope_89 ?_
        obtain ⟨x25, ex25, hF⟩ := ltt_some hF
        refine lv_topi (fun zx25 ezx25 => ?_)
        obtain rfl : x25 = zx25 := ex25.trans ezx25.symm
        refine lv_iadd hx hb dX0_paintSlope_90 ?_
        obtain ⟨x26, ex26, hF⟩ := ltt_some hF
        refine lv_topi (fun zx26 ezx26 => ?_)
        obtain rfl : x26 = zx26 := ex26.trans ezx26.symm
        refine lv_iload_n hx hb dX0_paintSlope_91 rfl (lv_at hl 8 rfl) ?_
        refine lv_iadd hx hb dX0_paintSlope_92 ?_
        obtain ⟨x27, ex27, hF⟩ := ltt_some hF
        refine lv_topi (fun zx27 ezx27 => ?_)
        obtain rfl : x27 = zx27 := ex27.trans ezx27.symm
        refine lv_bipush (v := (40 : Int32)) hx hb dX0_paintSlope_93 (by decide) ?_
        refine lv_iload hx hb dX0_paintSlope_95 (lv_at hl 4 rfl) ?_
        refine lv_imul hx hb dX0_paintSlope_97 ?_
        obtain ⟨x28, ex28, hF⟩ := ltt_some hF
        refine lv_topi (fun zx28 ezx28 => ?_)
        obtain rfl : x28 = zx28 := ex28.trans ezx28.symm
        refine lv_iadd hx hb dX0_paintSlope_98 ?_
        obtain ⟨x29, ex29, hF⟩ := ltt_some hF
        refine lv_topi (fun zx29 ezx29 => ?_)
        obtain rfl : x29 = zx29 := ex29.trans ezx29.symm
        refine lv_sipush (v := (255 : Int32)) hx hb dX0_paintSlope_99 (by decide) ?_
        refine lv_iand hx hb dX0_paintSlope_102 ?_
        obtain ⟨x30, ex30, hF⟩ := ltt_some hF
        refine lv_topi (fun zx30 ezx30 => ?_)
        obtain rfl : x30 = zx30 := ex30.trans ezx30.symm
        obtain ⟨b31, ho31, hc31, hk31, hF⟩ := dr_some hF
        refine W_st (st' := [.int x30, .int s8.1, .ref (ad b31)]) (by rw [va_some ho31]) ?_
        obtain ⟨hvc, hF⟩ := chk_some hF
        refine va_iast hx hb hK hP hD hS b31 1 (wld_i ct ad G y19.1 hc31 hk31) rfl hvc dX0_paintSlope_103 (fun H locs hP hD hS => ?_)
        obtain ⟨M32, eM32, hF⟩ := ltt_some hF
        rw [set_i ct ad G y19.1 hc31 hk31, ← eM32] at hP hD
        obtain ⟨x33, ex33, hF⟩ := ltt_some hF
        refine lv_iinc (v := x33) (lv' := [(6, .int x33), (8, .int x21), (7, .int x18), (5, .int y6), (4, .int s2.1), (0, .ref (ad a)), (1, .int p0), (2, .int p1), (3, .int p2)]) hx hb dX0_paintSlope_104 hl (k := 2) rfl (by rw [ex33]; rfl) (by decide) rfl (fun ls hl => ?_)
        refine lv_goto (tgt := 24) hx hb dX0_paintSlope_107 (by decide) ?_
        obtain rfl := Option.some.inj hF
        exact hwz11 _ _ _ hP hD hS (lv_sub hl [0, 3, 4, 5, 6, 7, 8] rfl)
    clear hF
    have hF := hy6
    clear hy6
    refine lv_if_ne (tgt := 18) hx hb dX0_paintSlope_11 (by decide) (fun c34 => ?_) (fun c34 => ?_)
    · rw [if_neg c34] at hF
      refine lv_iconst (v := (2 : Int32)) hx hb dX0_paintSlope_18 (by decide) ?_
      obtain rfl := Option.some.inj hF
      exact J6 _ _ _ hP hD hS (lv_sub hl [0, 1, 2, 3, 4] rfl)
    · rw [if_pos c34] at hF
      refine lv_iconst (v := (1 : Int32)) hx hb dX0_paintSlope_14 (by decide) ?_
      refine lv_goto (tgt := 19) hx hb dX0_paintSlope_15 (by decide) ?_
      obtain rfl := Option.some.inj hF
      exact J6 _ _ _ hP hD hS (lv_sub hl [0, 1, 2, 3, 4] rfl)
set_option maxRecDepth 20000 in
theorem gX0_paintSquare_X0_high : GoodIn wuX0_paintSquare (wsV RX0 180 RX0 yX0_high wuX0_high) := gu_V mw_2380 mw_2382 mw_113 mw_175 mw_2383
set_option maxRecDepth 20000 in
set_option maxRecDepth 20000 in
theorem gX0_paintSquare_X0_wide : GoodIn wuX0_paintSquare (wsV RX0 176 RX0 yX0_wide wuX0_wide) := gu_V mw_2376 mw_2378 mw_112 mw_175 mw_2379
theorem dX0_paintSquare_0 : decode cX0_paintSquare 0 = .ok (.iload_n 2, 1) := by decide +kernel
theorem dX0_paintSquare_1 : decode cX0_paintSquare 1 = .ok (.istore 4, 2) := by decide +kernel
theorem dX0_paintSquare_3 : decode cX0_paintSquare 3 = .ok (.iload 4, 2) := by decide +kernel
theorem dX0_paintSquare_5 : decode cX0_paintSquare 5 = .ok (.iload_n 2, 1) := by decide +kernel
theorem dX0_paintSquare_6 : decode cX0_paintSquare 6 = .ok (.bipush 8, 2) := by decide +kernel
theorem dX0_paintSquare_8 : decode cX0_paintSquare 8 = .ok (.iadd, 1) := by decide +kernel
theorem dX0_paintSquare_9 : decode cX0_paintSquare 9 = .ok (.if_icmp .ge 67, 3) := by decide +kernel
theorem dX0_paintSquare_12 : decode cX0_paintSquare 12 = .ok (.iload 4, 2) := by decide +kernel
theorem dX0_paintSquare_14 : decode cX0_paintSquare 14 = .ok (.aload_n 0, 1) := by decide +kernel
theorem dX0_paintSquare_15 : decode cX0_paintSquare 15 = .ok (.iconst 0, 1) := by decide +kernel
theorem dX0_paintSquare_16 : decode cX0_paintSquare 16 = .ok (.invokevirtual 180, 3) := by decide +kernel
theorem dX0_paintSquare_19 : decode cX0_paintSquare 19 = .ok (.if_icmp .ge 57, 3) := by decide +kernel
theorem dX0_paintSquare_22 : decode cX0_paintSquare 22 = .ok (.iload_n 1, 1) := by decide +kernel
theorem dX0_paintSquare_23 : decode cX0_paintSquare 23 = .ok (.istore 5, 2) := by decide +kernel
theorem dX0_paintSquare_25 : decode cX0_paintSquare 25 = .ok (.iload 5, 2) := by decide +kernel
theorem dX0_paintSquare_27 : decode cX0_paintSquare 27 = .ok (.iload_n 1, 1) := by decide +kernel
theorem dX0_paintSquare_28 : decode cX0_paintSquare 28 = .ok (.bipush 8, 2) := by decide +kernel
theorem dX0_paintSquare_30 : decode cX0_paintSquare 30 = .ok (.iadd, 1) := by decide +kernel
theorem dX0_paintSquare_31 : decode cX0_paintSquare 31 = .ok (.if_icmp .ge 39, 3) := by decide +kernel
theorem dX0_paintSquare_34 : decode cX0_paintSquare 34 = .ok (.iload 5, 2) := by decide +kernel
theorem dX0_paintSquare_36 : decode cX0_paintSquare 36 = .ok (.aload_n 0, 1) := by decide +kernel
theorem dX0_paintSquare_37 : decode cX0_paintSquare 37 = .ok (.iconst 0, 1) := by decide +kernel
theorem dX0_paintSquare_38 : decode cX0_paintSquare 38 = .ok (.invokevirtual 176, 3) := by decide +kernel
theorem dX0_paintSquare_41 : decode cX0_paintSquare 41 = .ok (.if_icmp .ge 29, 3) := by decide +kernel
theorem dX0_paintSquare_44 : decode cX0_paintSquare 44 = .ok (.aload_n 0, 1) := by decide +kernel
theorem dX0_paintSquare_45 : decode cX0_paintSquare 45 = .ok (.getfield 66, 3) := by decide +kernel
theorem dX0_paintSquare_48 : decode cX0_paintSquare 48 = .ok (.bipush 9, 2) := by decide +kernel
theorem dX0_paintSquare_50 : decode cX0_paintSquare 50 = .ok (.aaload, 1) := by decide +kernel
theorem dX0_paintSquare_51 : decode cX0_paintSquare 51 = .ok (.iload 4, 2) := by decide +kernel
theorem dX0_paintSquare_53 : decode cX0_paintSquare 53 = .ok (.aload_n 0, 1) := by decide +kernel
theorem dX0_paintSquare_54 : decode cX0_paintSquare 54 = .ok (.iconst 0, 1) := by decide +kernel
theorem dX0_paintSquare_55 : decode cX0_paintSquare 55 = .ok (.invokevirtual 176, 3) := by decide +kernel
theorem dX0_paintSquare_58 : decode cX0_paintSquare 58 = .ok (.imul, 1) := by decide +kernel
theorem dX0_paintSquare_59 : decode cX0_paintSquare 59 = .ok (.iload 5, 2) := by decide +kernel
theorem dX0_paintSquare_61 : decode cX0_paintSquare 61 = .ok (.iadd, 1) := by decide +kernel
theorem dX0_paintSquare_62 : decode cX0_paintSquare 62 = .ok (.iload_n 3, 1) := by decide +kernel
theorem dX0_paintSquare_63 : decode cX0_paintSquare 63 = .ok (.iastore, 1) := by decide +kernel
theorem dX0_paintSquare_64 : decode cX0_paintSquare 64 = .ok (.iinc 5 1, 3) := by decide +kernel
theorem dX0_paintSquare_67 : decode cX0_paintSquare 67 = .ok (.goto (-42), 3) := by decide +kernel
theorem dX0_paintSquare_70 : decode cX0_paintSquare 70 = .ok (.iinc 4 1, 3) := by decide +kernel
theorem dX0_paintSquare_73 : decode cX0_paintSquare 73 = .ok (.goto (-70), 3) := by decide +kernel
theorem dX0_paintSquare_76 : decode cX0_paintSquare 76 = .ok (.return_, 1) := by decide +kernel
def FX0_paintSquare (G : GG) (M : DD) (a : Nat) (p0 : Int32) (p1 : Int32) (p2 : Int32) : Option (DD) :=
  bnd (itr (fun (s2 : Int32 × DD) => ((ltt ((p1 + ((8 : Int32)))) fun x5 =>
  if x5 ≤ s2.1 then (some (.inr (s2.1, s2.2))) else
  (bnd (FX0_high G s2.2 a ((0 : Int32))) fun y7 =>
  if y7.2 ≤ s2.1 then (some (.inr (s2.1, y7.1))) else
  (bnd (itr (fun (s10 : Int32 × DD) => ((ltt ((p0 + ((8 : Int32)))) fun x14 =>
  if x14 ≤ s10.1 then (some (.inr (s10.1, s10.2))) else
  (bnd (FX0_wide G s10.2 a ((0 : Int32))) fun y16 =>
  if y16.2 ≤ s10.1 then (some (.inr (s10.1, y16.1))) else
  (dr G 15 ((y16.1.2 a 8)) fun b18 =>
  chk (¬ (((9 : Int32)) < 0 ∨ G.2.2 b18 ≤ ((9 : Int32)).toNatClampNeg)) <|
  bnd (FX0_wide G y16.1 a ((0 : Int32))) fun y19 =>
  ltt ((s2.1 * y19.2)) fun x20 =>
  ltt ((x20 + s10.1)) fun x21 =>
  dr G 13 ((y16.1.2 b18 ((9 : Int32)).toNatClampNeg)) fun b22 =>
  chk (¬ (x21 < 0 ∨ G.2.2 b22 ≤ x21.toNatClampNeg)) <|
  ltt (uI y19.1 b22 x21.toNatClampNeg p2) fun M23 =>
  ltt (s10.1 + (1 : Int32)) fun x24 =>
  some (.inl (x24, M23))))) : Option ((Int32 × DD) ⊕ (Int32 × DD)))) 1000000 (p0, y7.1)) fun (y9 : Int32 × DD) =>
  ltt (s2.1 + (1 : Int32)) fun x12 =>
  some (.inl (x12, y9.2))))) : Option ((Int32 × DD) ⊕ (Int32 × DD)))) 1000000 (p1, M)) fun (y1 : Int32 × DD) =>
  some y1.2
set_option maxHeartbeats 4000000 in
set_option maxRecDepth 100000 in
theorem kX0_paintSquare (l : Launch) (D : va_G) (ct : CT) (ad : Nat → Nat) (Z : Nat → Nat) (G : GG) (M : DD) (sz : Nat) (a : Nat) (p0 : Int32) (p1 : Int32) (p2 : Int32) (y : DD) (hc : a < G.1) (hk : G.2.1 a = 0) (hF : FX0_paintSquare G M a p0 p1 p2 = some y) : Met l yX0_paintSquare wuX0_paintSquare ({ frames := 1, cells := 0, slots := 0, locals := 21 }) (va_Pc [.ref (ad a), .int p0, .int p1, .int p2] (kB D ct ad Z G M sz)) (va_Qv (fun (_ : Unit) => True) (fun _ t => kE D ct ad G (wA ad G sz) y t) (wA ad G sz)) 0 0 (wA ad G sz) := by
  refine Met.ofW (cc := cX0_paintSquare) (maxL := 6) (ret := none) (by decide) rfl ?_
  intro p e s m args below meth c s₁ B hml hv
  obtain ⟨rfl, hsz, hP, hK, hD0, hZ, hN⟩ := hv
  have hx := B.exec
  have hb := B.bytes
  have hr := B.returns
  have hts := atoms_spec (ws := wuX0_paintSquare) B.pre
  have hown : s.vm.findClass RX0 = some m.cls := findClass_of_methodNamed B.named
  have hlocks := B.notSynchronized
  subst hsz
  have hD := wD_self (sz := s.heap.size) hD0
  have hA9 : ∀ q, s.heap.size ≤ q → wA ad G s.heap.size q := fun q h => Or.inr h
  generalize hAe : wA ad G s.heap.size = A at hD hA9 hZ ⊢
  have hS : va_S A s.heap s.heap [] := va_S.rf
  have hl := lv_entry ([.ref (ad a), .int p0, .int p1, .int p2]) (n := 6) (Nat.le_of_ble_eq_true rfl)
  rw [lg_entry_eq]
  generalize (lg_sl ([.ref (ad a), .int p0, .int p1, .int p2]) ++ List.replicate (6 - (lg_sl ([.ref (ad a), .int p0, .int p1, .int p2])).length) Slot.unset).toArray = ls at hl ⊢
  have hl : lv_has ls 6 [(0, .ref (ad a)), (1, .int p0), (2, .int p1), (3, .int p2)] := hl
  unfold FX0_paintSquare at hF
  refine lv_iload_n hx hb dX0_paintSquare_0 rfl (lv_at hl 2 rfl) ?_
  refine lv_istore (lv' := [(4, .int p1), (0, .ref (ad a)), (1, .int p0), (2, .int p1), (3, .int p2)]) hx hb dX0_paintSquare_1 hl (by decide) rfl (fun ls hl => ?_)
  obtain ⟨y1, hy1, hF⟩ := bnd_some hF
  have K1 : ∀ (H : Heap) (locs : List Loc) (ls : Array Slot), va_P D classes (wld ct ad G y1.2) H → va_D A (wld ct ad G y1.2) → va_S A s.heap H locs → lv_has ls 6 [(4, .int y1.1), (0, .ref (ad a)), (1, .int p0), (2, .int p1), (3, .int p2)] → W p l e (headSpec wuX0_paintSquare ({ frames := 1, cells := 0, slots := 0, locals := 21 })).room s m ([.ref (ad a), .int p0, .int p1, .int p2] : List Value).toArray below meth c H locs 0 0 (MQ below (va_Qv (fun (_ : Unit) => True) (fun _ t => kE D ct ad G A y t) A) ([.ref (ad a), .int p0, .int p1, .int p2] : List Value).toArray s 0 0 A) (F0 m 76 ls []) := by
    intro H locs ls hP hD hS hl
    obtain rfl := Option.some.inj hF
    exact W.vret hx hb hr (fun t ht hW => ⟨⟨(), rfl, trivial, ⟨by rw [ht]; exact hP, va_K.moved hW.alike hK, hD⟩⟩, hS.F ht⟩) hS.2.2 dX0_paintSquare_76
  clear hF
  refine itr_rule (fun (s2 : Int32 × DD) => ∀ (H : Heap) (locs : List Loc) (ls : Array Slot), va_P D classes (wld ct ad G s2.2) H → va_D A (wld ct ad G s2.2) → va_S A s.heap H locs → lv_has ls 6 [(4, .int s2.1), (0, .ref (ad a)), (1, .int p0), (2, .int p1), (3, .int p2)] → W p l e (headSpec wuX0_paintSquare ({ frames := 1, cells := 0, slots := 0, locals := 21 })).room s m ([.ref (ad a), .int p0, .int p1, .int p2] : List Value).toArray below meth c H locs 0 0 (MQ below (va_Qv (fun (_ : Unit) => True) (fun _ t => kE D ct ad G A y t) A) ([.ref (ad a), .int p0, .int p1, .int p2] : List Value).toArray s 0 0 A) (F0 m 3 ls [])) ?_ _ _ hy1 _ _ _ hP hD hS (lv_sub hl [0, 1, 2, 3, 4] rfl)
  rintro s2 ⟨z4, hF, hwz4⟩ H locs ls hP hD hS hl
  try dsimp only at hF
  refine lv_iload hx hb dX0_paintSquare_3 (lv_at hl 0 rfl) ?_
  refine lv_iload_n hx hb dX0_paintSquare_5 rfl (lv_at hl 3 rfl) ?_
  refine lv_bipush (v := (8 : Int32)) hx hb dX0_paintSquare_6 (by decide) ?_
  refine lv_iadd hx hb dX0_paintSquare_8 ?_
  obtain ⟨x5, ex5, hF⟩ := ltt_some hF
  refine lv_topi (fun zx5 ezx5 => ?_)
  obtain rfl : x5 = zx5 := ex5.trans ezx5.symm
  refine lv_icmp_ge (tgt := 76) hx hb dX0_paintSquare_9 (by decide) (fun c6 => ?_) (fun c6 => ?_)
  · rw [if_pos c6] at hF
    obtain rfl := Option.some.inj hF
    subst hwz4
    exact K1 _ _ _ hP hD hS (lv_sub hl [0, 1, 2, 3, 4] rfl)
  · rw [if_neg c6] at hF
    refine lv_iload hx hb dX0_paintSquare_12 (lv_at hl 0 rfl) ?_
    refine lv_aload_n hx hb dX0_paintSquare_14 rfl (lv_at hl 1 rfl) ?_
    refine lv_iconst (v := (0 : Int32)) hx hb dX0_paintSquare_15 (by decide) ?_
    obtain ⟨y7, hy7, hF⟩ := bnd_some hF
    have hf9 := wA_in hD hA9 hS
    refine va_calli (va_runV (As := [.int (0 : Int32)]) (rest := [.int s2.1]) ⟨hx, hb, hml, hown, hts⟩ (kX0_high l D ct ad Z G s2.2 H.size a ((0 : Int32)) y7 hc hk hy7) (cwV 1 hts gX0_paintSquare_X0_high rfl rfl rfl (by decide +kernel) ⟨Nat.le_of_ble_eq_true rfl, Nat.le_of_ble_eq_true rfl⟩) ⟨fun a U g mk q => by obtain ⟨q0, q1, qP, qK, qD, qZ, qN⟩ := q; exact ⟨q0, q1, qP, va_K.moved (u := U) (U := U.calling g mk a) (Vm.Alike.refl U.vm) qK, qD, sF.moved (u := U) (U := U.calling g mk a) (Vm.Alike.refl U.vm) qZ, nF.same rfl qN⟩, va_recv hK hP (ci := 0) (q0 := a) rfl (wld_o ct ad G s2.2 hc hk (by decide)), fun U hU hW => ⟨rfl, by rw [hU], by rw [hU]; exact hP, va_K.moved hW.alike hK, hD.weaken (fun _ _ _ _ => trivial), by rw [hU]; exact ((hZ.kept hS.2.1).narrow hf9).moved hW.alike, hN.warm hW⟩⟩ rfl rfl hl.1 rfl (lv_room (Nat.le_of_ble_eq_true rfl)) dX0_paintSquare_16 ⟨(Nat.zero_le _), (Nat.zero_le _)⟩) hS (fun q _ h => hf9 q h) hf9 (fun r u t H locs ht hvm hw hB hz1 hk1 hS => ?_)
    obtain ⟨hP, hK9, hD9⟩ := hB
    rw [ht] at hP
    try dsimp only at hw
    subst hw
    have hD := hD9.weaken (fun _ q _ h => hf9 q.1 h)
    refine lv_icmp_ge (tgt := 76) hx hb dX0_paintSquare_19 (by decide) (fun c8 => ?_) (fun c8 => ?_)
    · rw [if_pos c8] at hF
      obtain rfl := Option.some.inj hF
      subst hwz4
      exact K1 _ _ _ hP hD hS (lv_sub hl [0, 1, 2, 3, 4] rfl)
    · rw [if_neg c8] at hF
      refine lv_iload_n hx hb dX0_paintSquare_22 rfl (lv_at hl 2 rfl) ?_
      refine lv_istore (lv' := [(5, .int p0), (4, .int s2.1), (0, .ref (ad a)), (1, .int p0), (2, .int p1), (3, .int p2)]) hx hb dX0_paintSquare_23 hl (by decide) rfl (fun ls hl => ?_)
      obtain ⟨y9, hy9, hF⟩ := bnd_some hF
      have K9 : ∀ (H : Heap) (locs : List Loc) (ls : Array Slot), va_P D classes (wld ct ad G y9.2) H → va_D A (wld ct ad G y9.2) → va_S A s.heap H locs → lv_has ls 6 [(5, .int y9.1), (4, .int s2.1), (0, .ref (ad a)), (1, .int p0), (2, .int p1), (3, .int p2)] → W p l e (headSpec wuX0_paintSquare ({ frames := 1, cells := 0, slots := 0, locals := 21 })).room s m ([.ref (ad a), .int p0, .int p1, .int p2] : List Value).toArray below meth c H locs 0 0 (MQ below (va_Qv (fun (_ : Unit) => True) (fun _ t => kE D ct ad G A y t) A) ([.ref (ad a), .int p0, .int p1, .int p2] : List Value).toArray s 0 0 A) (F0 m 70 ls []) := by
        intro H locs ls hP hD hS hl
        obtain ⟨x12, ex12, hF⟩ := ltt_some hF
        refine lv_iinc (v := x12) (lv' := [(4, .int x12), (5, .int y9.1), (0, .ref (ad a)), (1, .int p0), (2, .int p1), (3, .int p2)]) hx hb dX0_paintSquare_70 hl (k := 1) rfl (by rw [ex12]; rfl) (by decide) rfl (fun ls hl => ?_)
        refine lv_goto (tgt := 3) hx hb dX0_paintSquare_73 (by decide) ?_
        obtain rfl := Option.some.inj hF
        exact hwz4 _ _ _ hP hD hS (lv_sub hl [0, 2, 3, 4, 5] rfl)
      clear hF
      refine itr_rule (fun (s10 : Int32 × DD) => ∀ (H : Heap) (locs : List Loc) (ls : Array Slot), va_P D classes (wld ct ad G s10.2) H → va_D A (wld ct ad G s10.2) → va_S A s.heap H locs → lv_has ls 6 [(5, .int s10.1), (4, .int s2.1), (0, .ref (ad a)), (1, .int p0), (2, .int p1), (3, .int p2)] → W p l e (headSpec wuX0_paintSquare ({ frames := 1, cells := 0, slots := 0, locals := 21 })).room s m ([.ref (ad a), .int p0, .int p1, .int p2] : List Value).toArray below meth c H locs 0 0 (MQ below (va_Qv (fun (_ : Unit) => True) (fun _ t => kE D ct ad G A y t) A) ([.ref (ad a), .int p0, .int p1, .int p2] : List Value).toArray s 0 0 A) (F0 m 25 ls [])) ?_ _ _ hy9 _ _ _ hP hD hS (lv_sub hl [0, 1, 2, 3, 4, 5] rfl)
      rintro s10 ⟨z13, hF, hwz13⟩ H locs ls hP hD hS hl
      try dsimp only at hF
      refine lv_iload hx hb dX0_paintSquare_25 (lv_at hl 0 rfl) ?_
      refine lv_iload_n hx hb dX0_paintSquare_27 rfl (lv_at hl 3 rfl) ?_
      refine lv_bipush (v := (8 : Int32)) hx hb dX0_paintSquare_28 (by decide) ?_
      refine lv_iadd hx hb dX0_paintSquare_30 ?_
      obtain ⟨x14, ex14, hF⟩ := ltt_some hF
      refine lv_topi (fun zx14 ezx14 => ?_)
      obtain rfl : x14 = zx14 := ex14.trans ezx14.symm
      refine lv_icmp_ge (tgt := 70) hx hb dX0_paintSquare_31 (by decide) (fun c15 => ?_) (fun c15 => ?_)
      · rw [if_pos c15] at hF
        obtain rfl := Option.some.inj hF
        subst hwz13
        exact K9 _ _ _ hP hD hS (lv_sub hl [0, 1, 2, 3, 4, 5] rfl)
      · rw [if_neg c15] at hF
        refine lv_iload hx hb dX0_paintSquare_34 (lv_at hl 0 rfl) ?_
        refine lv_aload_n hx hb dX0_paintSquare_36 rfl (lv_at hl 2 rfl) ?_
        refine lv_iconst (v := (0 : Int32)) hx hb dX0_paintSquare_37 (by decide) ?_
        obtain ⟨y16, hy16, hF⟩ := bnd_some hF
        have hf9 := wA_in hD hA9 hS
        refine va_calli (va_runV (As := [.int (0 : Int32)]) (rest := [.int s10.1]) ⟨hx, hb, hml, hown, hts⟩ (kX0_wide l D ct ad Z G s10.2 H.size a ((0 : Int32)) y16 hc hk hy16) (cwV 1 hts gX0_paintSquare_X0_wide rfl rfl rfl (by decide +kernel) ⟨Nat.le_of_ble_eq_true rfl, Nat.le_of_ble_eq_true rfl⟩) ⟨fun a U g mk q => by obtain ⟨q0, q1, qP, qK, qD, qZ, qN⟩ := q; exact ⟨q0, q1, qP, va_K.moved (u := U) (U := U.calling g mk a) (Vm.Alike.refl U.vm) qK, qD, sF.moved (u := U) (U := U.calling g mk a) (Vm.Alike.refl U.vm) qZ, nF.same rfl qN⟩, va_recv hK hP (ci := 0) (q0 := a) rfl (wld_o ct ad G s10.2 hc hk (by decide)), fun U hU hW => ⟨rfl, by rw [hU], by rw [hU]; exact hP, va_K.moved hW.alike hK, hD.weaken (fun _ _ _ _ => trivial), by rw [hU]; exact ((hZ.kept hS.2.1).narrow hf9).moved hW.alike, hN.warm hW⟩⟩ rfl rfl hl.1 rfl (lv_room (Nat.le_of_ble_eq_true rfl)) dX0_paintSquare_38 ⟨(Nat.zero_le _), (Nat.zero_le _)⟩) hS (fun q _ h => hf9 q h) hf9 (fun r u t H locs ht hvm hw hB hz1 hk1 hS => ?_)
        obtain ⟨hP, hK9, hD9⟩ := hB
        rw [ht] at hP
        try dsimp only at hw
        subst hw
        have hD := hD9.weaken (fun _ q _ h => hf9 q.1 h)
        refine lv_icmp_ge (tgt := 70) hx hb dX0_paintSquare_41 (by decide) (fun c17 => ?_) (fun c17 => ?_)
        · rw [if_pos c17] at hF
          obtain rfl := Option.some.inj hF
          subst hwz13
          exact K9 _ _ _ hP hD hS (lv_sub hl [0, 1, 2, 3, 4, 5] rfl)
        · rw [if_neg c17] at hF
          refine lv_aload_n hx hb dX0_paintSquare_44 rfl (lv_at hl 2 rfl) ?_
          refine va_get (D := D) (ci := 0) (v := va_re ad (y16.1.2 a 8)) (C := RX0) (T := TX0) (N := 21) hx hb hts (mus hf_X0) hown hK hP a (wld_o ct ad G y16.1 hc hk (by decide)) rfl 8 (by decide) (hts (.fieldLink RX0 66 "VideoSuite$Coder" "planes" "[[I") (mu mw_822)) (fun _ h9 => h9) rfl dX0_paintSquare_45 ?_
          refine lv_bipush (v := (9 : Int32)) hx hb dX0_paintSquare_48 (by decide) ?_
          obtain ⟨b18, ho18, hc18, hk18, hF⟩ := dr_some hF
          refine W_st (st' := [.int (9 : Int32), .ref (ad b18)]) (by rw [va_some ho18]) ?_
          obtain ⟨hvc, hF⟩ := chk_some hF
          refine ld_g hx hb hK hP hc18 hk18 hvc dX0_paintSquare_50 ?_
          refine lv_iload hx hb dX0_paintSquare_51 (lv_at hl 1 rfl) ?_
          refine lv_aload_n hx hb dX0_paintSquare_53 rfl (lv_at hl 2 rfl) ?_
          refine lv_iconst (v := (0 : Int32)) hx hb dX0_paintSquare_54 (by decide) ?_
          obtain ⟨y19, hy19, hF⟩ := bnd_some hF
          have hf9 := wA_in hD hA9 hS
          refine va_calli (va_runV (As := [.int (0 : Int32)]) (rest := [.int s2.1, va_re ad (y16.1.2 b18 ((9 : Int32)).toNatClampNeg)]) ⟨hx, hb, hml, hown, hts⟩ (kX0_wide l D ct ad Z G y16.1 H.size a ((0 : Int32)) y19 hc hk hy19) (cwV 1 hts gX0_paintSquare_X0_wide rfl rfl rfl (by decide +kernel) ⟨Nat.le_of_ble_eq_true rfl, Nat.le_of_ble_eq_true rfl⟩) ⟨fun a U g mk q => by obtain ⟨q0, q1, qP, qK, qD, qZ, qN⟩ := q; exact ⟨q0, q1, qP, va_K.moved (u := U) (U := U.calling g mk a) (Vm.Alike.refl U.vm) qK, qD, sF.moved (u := U) (U := U.calling g mk a) (Vm.Alike.refl U.vm) qZ, nF.same rfl qN⟩, va_recv hK hP (ci := 0) (q0 := a) rfl (wld_o ct ad G y16.1 hc hk (by decide)), fun U hU hW => ⟨rfl, by rw [hU], by rw [hU]; exact hP, va_K.moved hW.alike hK, hD.weaken (fun _ _ _ _ => trivial), by rw [hU]; exact ((hZ.kept hS.2.1).narrow hf9).moved hW.alike, hN.warm hW⟩⟩ rfl rfl hl.1 rfl (lv_room (by simp only [List.map, va_re_cat]; exact Nat.le_of_ble_eq_true rfl)) dX0_paintSquare_55 ⟨(Nat.zero_le _), (Nat.zero_le _)⟩) hS (fun q _ h => hf9 q h) hf9 (fun r u t H locs ht hvm hw hB hz1 hk1 hS => ?_)
          obtain ⟨hP, hK9, hD9⟩ := hB
          rw [ht] at hP
          try dsimp only at hw
          subst hw
          have hD := hD9.weaken (fun _ q _ h => hf9 q.1 h)
          refine lv_imul hx hb dX0_paintSquare_58 ?_
          obtain ⟨x20, ex20, hF⟩ := ltt_some hF
          refine lv_topi (fun zx20 ezx20 => ?_)
          obtain rfl : x20 = zx20 := ex20.trans ezx20.symm
          refine lv_iload hx hb dX0_paintSquare_59 (lv_at hl 0 rfl) ?_
          refine lv_iadd hx hb dX0_paintSquare_61 ?_
          obtain ⟨x21, ex21, hF⟩ := ltt_some hF
          refine lv_topi (fun zx21 ezx21 => ?_)
          obtain rfl : x21 = zx21 := ex21.trans ezx21.symm
          refine lv_iload_n hx hb dX0_paintSquare_62 rfl (lv_at hl 5 rfl) ?_
          obtain ⟨b22, ho22, hc22, hk22, hF⟩ := dr_some hF
          refine W_st (st' := [.int p2, .int x21, .ref (ad b22)]) (by rw [va_some ho22]) ?_
          obtain ⟨hvc, hF⟩ := chk_some hF
          refine va_iast hx hb hK hP hD hS b22 1 (wld_i ct ad G y19.1 hc22 hk22) rfl hvc dX0_paintSquare_63 (fun H locs hP hD hS => ?_)
          obtain ⟨M23, eM23, hF⟩ := ltt_some hF
          rw [set_i ct ad G y19.1 hc22 hk22, ← eM23] at hP hD
          obtain ⟨x24, ex24, hF⟩ := ltt_some hF
          refine lv_iinc (v := x24) (lv' := [(5, .int x24), (4, .int s2.1), (0, .ref (ad a)), (1, .int p0), (2, .int p1), (3, .int p2)]) hx hb dX0_paintSquare_64 hl (k := 0) rfl (by rw [ex24]; rfl) (by decide) rfl (fun ls hl => ?_)
          refine lv_goto (tgt := 25) hx hb dX0_paintSquare_67 (by decide) ?_
          obtain rfl := Option.some.inj hF
          exact hwz13 _ _ _ hP hD hS (lv_sub hl [0, 1, 2, 3, 4, 5] rfl)
set_option maxRecDepth 20000 in
theorem gX0_setVector_X9_setMove : GoodIn wuX0_setVector (wsV RX0 432 RX9 yX9_setMove wuX9_setMove) := gu_V mw_2524 mw_1970 mw_1971 mw_171 mw_1972
theorem dX0_setVector_0 : decode cX0_setVector 0 = .ok (.aload_n 0, 1) := by decide +kernel
theorem dX0_setVector_1 : decode cX0_setVector 1 = .ok (.getfield 36, 3) := by decide +kernel
theorem dX0_setVector_4 : decode cX0_setVector 4 = .ok (.getfield 429, 3) := by decide +kernel
theorem dX0_setVector_7 : decode cX0_setVector 7 = .ok (.iconst 2, 1) := by decide +kernel
theorem dX0_setVector_8 : decode cX0_setVector 8 = .ok (.bipush 16, 2) := by decide +kernel
theorem dX0_setVector_10 : decode cX0_setVector 10 = .ok (.iload_n 2, 1) := by decide +kernel
theorem dX0_setVector_11 : decode cX0_setVector 11 = .ok (.imul, 1) := by decide +kernel
theorem dX0_setVector_12 : decode cX0_setVector 12 = .ok (.iload_n 3, 1) := by decide +kernel
theorem dX0_setVector_13 : decode cX0_setVector 13 = .ok (.iadd, 1) := by decide +kernel
theorem dX0_setVector_14 : decode cX0_setVector 14 = .ok (.imul, 1) := by decide +kernel
theorem dX0_setVector_15 : decode cX0_setVector 15 = .ok (.iload 4, 2) := by decide +kernel
theorem dX0_setVector_17 : decode cX0_setVector 17 = .ok (.aload_n 0, 1) := by decide +kernel
theorem dX0_setVector_18 : decode cX0_setVector 18 = .ok (.getfield 36, 3) := by decide +kernel
theorem dX0_setVector_21 : decode cX0_setVector 21 = .ok (.getfield 419, 3) := by decide +kernel
theorem dX0_setVector_24 : decode cX0_setVector 24 = .ok (.isub, 1) := by decide +kernel
theorem dX0_setVector_25 : decode cX0_setVector 25 = .ok (.iastore, 1) := by decide +kernel
theorem dX0_setVector_26 : decode cX0_setVector 26 = .ok (.aload_n 0, 1) := by decide +kernel
theorem dX0_setVector_27 : decode cX0_setVector 27 = .ok (.getfield 36, 3) := by decide +kernel
theorem dX0_setVector_30 : decode cX0_setVector 30 = .ok (.getfield 429, 3) := by decide +kernel
theorem dX0_setVector_33 : decode cX0_setVector 33 = .ok (.iconst 2, 1) := by decide +kernel
theorem dX0_setVector_34 : decode cX0_setVector 34 = .ok (.bipush 16, 2) := by decide +kernel
theorem dX0_setVector_36 : decode cX0_setVector 36 = .ok (.iload_n 2, 1) := by decide +kernel
theorem dX0_setVector_37 : decode cX0_setVector 37 = .ok (.imul, 1) := by decide +kernel
theorem dX0_setVector_38 : decode cX0_setVector 38 = .ok (.iload_n 3, 1) := by decide +kernel
theorem dX0_setVector_39 : decode cX0_setVector 39 = .ok (.iadd, 1) := by decide +kernel
theorem dX0_setVector_40 : decode cX0_setVector 40 = .ok (.imul, 1) := by decide +kernel
theorem dX0_setVector_41 : decode cX0_setVector 41 = .ok (.iconst 1, 1) := by decide +kernel
theorem dX0_setVector_42 : decode cX0_setVector 42 = .ok (.iadd, 1) := by decide +kernel
theorem dX0_setVector_43 : decode cX0_setVector 43 = .ok (.iload 5, 2) := by decide +kernel
theorem dX0_setVector_45 : decode cX0_setVector 45 = .ok (.aload_n 0, 1) := by decide +kernel
theorem dX0_setVector_46 : decode cX0_setVector 46 = .ok (.getfield 36, 3) := by decide +kernel
theorem dX0_setVector_49 : decode cX0_setVector 49 = .ok (.getfield 422, 3) := by decide +kernel
theorem dX0_setVector_52 : decode cX0_setVector 52 = .ok (.isub, 1) := by decide +kernel
theorem dX0_setVector_53 : decode cX0_setVector 53 = .ok (.iastore, 1) := by decide +kernel
theorem dX0_setVector_54 : decode cX0_setVector 54 = .ok (.aload_n 0, 1) := by decide +kernel
theorem dX0_setVector_55 : decode cX0_setVector 55 = .ok (.getfield 36, 3) := by decide +kernel
theorem dX0_setVector_58 : decode cX0_setVector 58 = .ok (.iload_n 1, 1) := by decide +kernel
theorem dX0_setVector_59 : decode cX0_setVector 59 = .ok (.iload_n 2, 1) := by decide +kernel
theorem dX0_setVector_60 : decode cX0_setVector 60 = .ok (.iload_n 3, 1) := by decide +kernel
theorem dX0_setVector_61 : decode cX0_setVector 61 = .ok (.iload 4, 2) := by decide +kernel
theorem dX0_setVector_63 : decode cX0_setVector 63 = .ok (.iload 5, 2) := by decide +kernel
theorem dX0_setVector_65 : decode cX0_setVector 65 = .ok (.invokevirtual 432, 3) := by decide +kernel
theorem dX0_setVector_68 : decode cX0_setVector 68 = .ok (.return_, 1) := by decide +kernel
def FX0_setVector (G : GG) (M : DD) (a : Nat) (p0 : Int32) (p1 : Int32) (p2 : Int32) (p3 : Int32) (p4 : Int32) : Option (DD) :=
  dr G 9 ((M.2 a 3)) fun b2 =>
  ltt ((((16 : Int32)) * p1)) fun x3 =>
  ltt ((x3 + p2)) fun x4 =>
  ltt ((((2 : Int32)) * x4)) fun x5 =>
  ltt (M.1 b2 18) fun x6 =>
  ltt ((p3 - x6)) fun x7 =>
  dr G 13 ((M.2 b2 17)) fun b8 =>
  chk (¬ (x5 < 0 ∨ G.2.2 b8 ≤ x5.toNatClampNeg)) <|
  ltt (uI M b8 x5.toNatClampNeg x7) fun M9 =>
  dr G 9 ((M9.2 a 3)) fun b10 =>
  ltt ((((16 : Int32)) * p1)) fun x11 =>
  ltt ((x11 + p2)) fun x12 =>
  ltt ((((2 : Int32)) * x12)) fun x13 =>
  ltt ((x13 + ((1 : Int32)))) fun x14 =>
  ltt (M9.1 b10 19) fun x15 =>
  ltt ((p4 - x15)) fun x16 =>
  dr G 13 ((M9.2 b10 17)) fun b17 =>
  chk (¬ (x14 < 0 ∨ G.2.2 b17 ≤ x14.toNatClampNeg)) <|
  ltt (uI M9 b17 x14.toNatClampNeg x16) fun M18 =>
  dr G 9 ((M18.2 a 3)) fun b19 =>
  bnd (FX9_setMove G M18 b19 p0 p1 p2 p3 p4) fun y20 =>
  some y20
set_option maxHeartbeats 4000000 in
set_option maxRecDepth 100000 in
theorem kX0_setVector (l : Launch) (D : va_G) (ct : CT) (ad : Nat → Nat) (Z : Nat → Nat) (G : GG) (M : DD) (sz : Nat) (a : Nat) (p0 : Int32) (p1 : Int32) (p2 : Int32) (p3 : Int32) (p4 : Int32) (y : DD) (hc : a < G.1) (hk : G.2.1 a = 0) (hF : FX0_setVector G M a p0 p1 p2 p3 p4 = some y) : Met l yX0_setVector wuX0_setVector ({ frames := 2, cells := 0, slots := 0, locals := 52 }) (va_Pc [.ref (ad a), .int p0, .int p1, .int p2, .int p3, .int p4] (kB D ct ad Z G M sz)) (va_Qv (fun (_ : Unit) => True) (fun _ t => kE D ct ad G (wA ad G sz) y t) (wA ad G sz)) 0 0 (wA ad G sz) := by
  refine Met.ofW (cc := cX0_setVector) (maxL := 6) (ret := none) (by decide) rfl ?_
  intro p e s m args below meth c s₁ B hml hv
  obtain ⟨rfl, hsz, hP, hK, hD0, hZ, hN⟩ := hv
  have hx := B.exec
  have hb := B.bytes
  have hr := B.returns
  have hts := atoms_spec (ws := wuX0_setVector) B.pre
  have hown : s.vm.findClass RX0 = some m.cls := findClass_of_methodNamed B.named
  have hlocks := B.notSynchronized
  subst hsz
  have hD := wD_self (sz := s.heap.size) hD0
  have hA9 : ∀ q, s.heap.size ≤ q → wA ad G s.heap.size q := fun q h => Or.inr h
  generalize hAe : wA ad G s.heap.size = A at hD hA9 hZ ⊢
  have hS : va_S A s.heap s.heap [] := va_S.rf
  have hl := lv_entry ([.ref (ad a), .int p0, .int p1, .int p2, .int p3, .int p4]) (n := 6) (Nat.le_of_ble_eq_true rfl)
  rw [lg_entry_eq]
  generalize (lg_sl ([.ref (ad a), .int p0, .int p1, .int p2, .int p3, .int p4]) ++ List.replicate (6 - (lg_sl ([.ref (ad a), .int p0, .int p1, .int p2, .int p3, .int p4])).length) Slot.unset).toArray = ls at hl ⊢
  have hl : lv_has ls 6 [(0, .ref (ad a)), (1, .int p0), (2, .int p1), (3, .int p2), (4, .int p3), (5, .int p4)] := hl
  unfold FX0_setVector at hF
  refine lv_aload_n hx hb dX0_setVector_0 rfl (lv_at hl 0 rfl) ?_
  refine va_get (D := D) (ci := 0) (v := va_re ad (M.2 a 3)) (C := RX0) (T := TX0) (N := 21) hx hb hts (mus hf_X0) hown hK hP a (wld_o ct ad G M hc hk (by decide)) rfl 3 (by decide) (hts (.fieldLink RX0 36 "VideoSuite$Coder" "work" "LVideoSuite$Work;") (mu mw_817)) (fun _ h9 => h9) rfl dX0_setVector_1 ?_
  obtain ⟨b2, ho2, hc2, hk2, hF⟩ := dr_some hF
  refine W_st (st' := [.ref (ad b2)]) (by rw [va_some ho2]) ?_
  refine va_get (D := D) (ci := 9) (v := va_re ad (M.2 b2 17)) (C := RX9) (T := TX9) (N := 20) hx hb hts (mus hf_X9) hown hK hP b2 (wld_o ct ad G M hc2 hk2 (by decide)) rfl 17 (by decide) (hts (.fieldLink RX0 429 "VideoSuite$Work" "difference" "[I") (mu mw_479)) (fun _ h9 => h9) rfl dX0_setVector_4 ?_
  refine lv_iconst (v := (2 : Int32)) hx hb dX0_setVector_7 (by decide) ?_
  refine lv_bipush (v := (16 : Int32)) hx hb dX0_setVector_8 (by decide) ?_
  refine lv_iload_n hx hb dX0_setVector_10 rfl (lv_at hl 2 rfl) ?_
  refine lv_imul hx hb dX0_setVector_11 ?_
  obtain ⟨x3, ex3, hF⟩ := ltt_some hF
  refine lv_topi (fun zx3 ezx3 => ?_)
  obtain rfl : x3 = zx3 := ex3.trans ezx3.symm
  refine lv_iload_n hx hb dX0_setVector_12 rfl (lv_at hl 3 rfl) ?_
  refine lv_iadd hx hb dX0_setVector_13 ?_
  obtain ⟨x4, ex4, hF⟩ := ltt_some hF
  refine lv_topi (fun zx4 ezx4 => ?_)
  obtain rfl : x4 = zx4 := ex4.trans ezx4.symm
  refine lv_imul hx hb dX0_setVector_14 ?_
  obtain ⟨x5, ex5, hF⟩ := ltt_some hF
  refine lv_topi (fun zx5 ezx5 => ?_)
  obtain rfl : x5 = zx5 := ex5.trans ezx5.symm
  refine lv_iload hx hb dX0_setVector_15 (lv_at hl 4 rfl) ?_
  refine lv_aload_n hx hb dX0_setVector_17 rfl (lv_at hl 0 rfl) ?_
  refine va_get (D := D) (ci := 0) (v := va_re ad (M.2 a 3)) (C := RX0) (T := TX0) (N := 21) hx hb hts (mus hf_X0) hown hK hP a (wld_o ct ad G M hc hk (by decide)) rfl 3 (by decide) (hts (.fieldLink RX0 36 "VideoSuite$Coder" "work" "LVideoSuite$Work;") (mu mw_817)) (fun _ h9 => h9) rfl dX0_setVector_18 ?_
  refine W_st (st' := [.ref (ad b2), .int p3, .int x5, va_re ad (M.2 b2 17)]) (by rw [va_some ho2]) ?_
  refine va_get (D := D) (ci := 9) (v := .int (M.1 b2 18)) (C := RX9) (T := TX9) (N := 20) hx hb hts (mus hf_X9) hown hK hP b2 (wld_o ct ad G M hc2 hk2 (by decide)) rfl 18 (by decide) (hts (.fieldLink RX0 419 "VideoSuite$Work" "guessX" "I") (mu mw_482)) (fun _ h9 => h9) rfl dX0_setVector_21 ?_
  obtain ⟨x6, ex6, hF⟩ := ltt_some hF
  refine lv_topi (fun zx6 ezx6 => ?_)
  obtain rfl : x6 = zx6 := ex6.trans ezx6.symm
  refine lv_isub hx hb dX0_setVector_24 ?_
  obtain ⟨x7, ex7, hF⟩ := ltt_some hF
  refine lv_topi (fun zx7 ezx7 => ?_)
  obtain rfl : x7 = zx7 := ex7.trans ezx7.symm
  obtain ⟨b8, ho8, hc8, hk8, hF⟩ := dr_some hF
  refine W_st (st' := [.int x7, .int x5, .ref (ad b8)]) (by rw [va_some ho8]) ?_
  obtain ⟨hvc, hF⟩ := chk_some hF
  refine va_iast hx hb hK hP hD hS b8 1 (wld_i ct ad G M hc8 hk8) rfl hvc dX0_setVector_25 (fun H locs hP hD hS => ?_)
  obtain ⟨M9, eM9, hF⟩ := ltt_some hF
  rw [set_i ct ad G M hc8 hk8, ← eM9] at hP hD
  refine lv_aload_n hx hb dX0_setVector_26 rfl (lv_at hl 0 rfl) ?_
  refine va_get (D := D) (ci := 0) (v := va_re ad (M9.2 a 3)) (C := RX0) (T := TX0) (N := 21) hx hb hts (mus hf_X0) hown hK hP a (wld_o ct ad G M9 hc hk (by decide)) rfl 3 (by decide) (hts (.fieldLink RX0 36 "VideoSuite$Coder" "work" "LVideoSuite$Work;") (mu mw_817)) (fun _ h9 => h9) rfl dX0_setVector_27 ?_
  obtain ⟨b10, ho10, hc10, hk10, hF⟩ := dr_some hF
  refine W_st (st' := [.ref (ad b10)]) (by rw [va_some ho10]) ?_
  refine va_get (D := D) (ci := 9) (v := va_re ad (M9.2 b10 17)) (C := RX9) (T := TX9) (N := 20) hx hb hts (mus hf_X9) hown hK hP b10 (wld_o ct ad G M9 hc10 hk10 (by decide)) rfl 17 (by decide) (hts (.fieldLink RX0 429 "VideoSuite$Work" "difference" "[I") (mu mw_479)) (fun _ h9 => h9) rfl dX0_setVector_30 ?_
  refine lv_iconst (v := (2 : Int32)) hx hb dX0_setVector_33 (by decide) ?_
  refine lv_bipush (v := (16 : Int32)) hx hb dX0_setVector_34 (by decide) ?_
  refine lv_iload_n hx hb dX0_setVector_36 rfl (lv_at hl 2 rfl) ?_
  refine lv_imul hx hb dX0_setVector_37 ?_
  obtain ⟨x11, ex11, hF⟩ := ltt_some hF
  refine lv_topi (fun zx11 ezx11 => ?_)
  obtain rfl : x11 = zx11 := ex11.trans ezx11.symm
  refine lv_iload_n hx hb dX0_setVector_38 rfl (lv_at hl 3 rfl) ?_
  refine lv_iadd hx hb dX0_setVector_39 ?_
  obtain ⟨x12, ex12, hF⟩ := ltt_some hF
  refine lv_topi (fun zx12 ezx12 => ?_)
  obtain rfl : x12 = zx12 := ex12.trans ezx12.symm
  refine lv_imul hx hb dX0_setVector_40 ?_
  obtain ⟨x13, ex13, hF⟩ := ltt_some hF
  refine lv_topi (fun zx13 ezx13 => ?_)
  obtain rfl : x13 = zx13 := ex13.trans ezx13.symm
  refine lv_iconst (v := (1 : Int32)) hx hb dX0_setVector_41 (by decide) ?_
  refine lv_iadd hx hb dX0_setVector_42 ?_
  obtain ⟨x14, ex14, hF⟩ := ltt_some hF
  refine lv_topi (fun zx14 ezx14 => ?_)
  obtain rfl : x14 = zx14 := ex14.trans ezx14.symm
  refine lv_iload hx hb dX0_setVector_43 (lv_at hl 5 rfl) ?_
  refine lv_aload_n hx hb dX0_setVector_45 rfl (lv_at hl 0 rfl) ?_
  refine va_get (D := D) (ci := 0) (v := va_re ad (M9.2 a 3)) (C := RX0) (T := TX0) (N := 21) hx hb hts (mus hf_X0) hown hK hP a (wld_o ct ad G M9 hc hk (by decide)) rfl 3 (by decide) (hts (.fieldLink RX0 36 "VideoSuite$Coder" "work" "LVideoSuite$Work;") (mu mw_817)) (fun _ h9 => h9) rfl dX0_setVector_46 ?_
  refine W_st (st' := [.ref (ad b10), .int p4, .int x14, va_re ad (M9.2 b10 17)]) (by rw [va_some ho10]) ?_
  refine va_get (D := D) (ci := 9) (v := .int (M9.1 b10 19)) (C := RX9) (T := TX9) (N := 20) hx hb hts (mus hf_X9) hown hK hP b10 (wld_o ct ad G M9 hc10 hk10 (by decide)) rfl 19 (by decide) (hts (.fieldLink RX0 422 "VideoSuite$Work" "guessY" "I") (mu mw_485)) (fun _ h9 => h9) rfl dX0_setVector_49 ?_
  obtain ⟨x15, ex15, hF⟩ := ltt_some hF
  refine lv_topi (fun zx15 ezx15 => ?_)
  obtain rfl : x15 = zx15 := ex15.trans ezx15.symm
  refine lv_isub hx hb dX0_setVector_52 ?_
  obtain ⟨x16, ex16, hF⟩ := ltt_some hF
  refine lv_topi (fun zx16 ezx16 => ?_)
  obtain rfl : x16 = zx16 := ex16.trans ezx16.symm
  obtain ⟨b17, ho17, hc17, hk17, hF⟩ := dr_some hF
  refine W_st (st' := [.int x16, .int x14, .ref (ad b17)]) (by rw [va_some ho17]) ?_
  obtain ⟨hvc, hF⟩ := chk_some hF
  refine va_iast hx hb hK hP hD hS b17 1 (wld_i ct ad G M9 hc17 hk17) rfl hvc dX0_setVector_53 (fun H locs hP hD hS => ?_)
  obtain ⟨M18, eM18, hF⟩ := ltt_some hF
  rw [set_i ct ad G M9 hc17 hk17, ← eM18] at hP hD
  refine lv_aload_n hx hb dX0_setVector_54 rfl (lv_at hl 0 rfl) ?_
  refine va_get (D := D) (ci := 0) (v := va_re ad (M18.2 a 3)) (C := RX0) (T := TX0) (N := 21) hx hb hts (mus hf_X0) hown hK hP a (wld_o ct ad G M18 hc hk (by decide)) rfl 3 (by decide) (hts (.fieldLink RX0 36 "VideoSuite$Coder" "work" "LVideoSuite$Work;") (mu mw_817)) (fun _ h9 => h9) rfl dX0_setVector_55 ?_
  refine lv_iload_n hx hb dX0_setVector_58 rfl (lv_at hl 1 rfl) ?_
  refine lv_iload_n hx hb dX0_setVector_59 rfl (lv_at hl 2 rfl) ?_
  refine lv_iload_n hx hb dX0_setVector_60 rfl (lv_at hl 3 rfl) ?_
  refine lv_iload hx hb dX0_setVector_61 (lv_at hl 4 rfl) ?_
  refine lv_iload hx hb dX0_setVector_63 (lv_at hl 5 rfl) ?_
  obtain ⟨b19, ho19, hc19, hk19, hF⟩ := dr_some hF
  refine W_st (st' := [.int p4, .int p3, .int p2, .int p1, .int p0, .ref (ad b19)]) (by rw [va_some ho19]) ?_
  obtain ⟨y20, hy20, hF⟩ := bnd_some hF
  have hf9 := wA_in hD hA9 hS
  refine va_callv (va_runV (As := [.int p0, .int p1, .int p2, .int p3, .int p4]) (rest := []) ⟨hx, hb, hml, hown, hts⟩ (kX9_setMove l D ct ad Z G M18 H.size b19 p0 p1 p2 p3 p4 y20 hc19 hk19 hy20) (cwV 5 hts gX0_setVector_X9_setMove rfl rfl rfl (by decide +kernel) ⟨Nat.le_of_ble_eq_true rfl, Nat.le_of_ble_eq_true rfl⟩) ⟨fun a U g mk q => by obtain ⟨q0, q1, qP, qK, qD, qZ, qN⟩ := q; exact ⟨q0, q1, qP, va_K.moved (u := U) (U := U.calling g mk a) (Vm.Alike.refl U.vm) qK, qD, sF.moved (u := U) (U := U.calling g mk a) (Vm.Alike.refl U.vm) qZ, nF.same rfl qN⟩, va_recv hK hP (ci := 9) (q0 := b19) rfl (wld_o ct ad G M18 hc19 hk19 (by decide)), fun U hU hW => ⟨rfl, by rw [hU], by rw [hU]; exact hP, va_K.moved hW.alike hK, hD.weaken (fun _ _ _ _ => trivial), by rw [hU]; exact ((hZ.kept hS.2.1).narrow hf9).moved hW.alike, hN.warm hW⟩⟩ rfl rfl hl.1 rfl (lv_room (Nat.le_of_ble_eq_true rfl)) dX0_setVector_65 ⟨(Nat.zero_le _), (Nat.zero_le _)⟩) hS (fun q _ h => hf9 q h) hf9 (fun u t H locs ht hvm hw hB hz1 hk1 hS => ?_)
  obtain ⟨hP, hK9, hD9⟩ := hB
  rw [ht] at hP
  have hD := hD9.weaken (fun _ q _ h => hf9 q.1 h)
  obtain rfl := Option.some.inj hF
  exact W.vret hx hb hr (fun t ht hW => ⟨⟨(), rfl, trivial, ⟨by rw [ht]; exact hP, va_K.moved hW.alike hK, hD⟩⟩, hS.F ht⟩) hS.2.2 dX0_setVector_68
set_option maxRecDepth 20000 in
theorem gX10_bitsOfTe_X10_bitsOfUe : GoodIn wuX10_bitsOfTe (va_wsS RX10 101 yX10_bitsOfUe wuX10_bitsOfUe) := gu_S mw_1173 mw_1174 mw_176 mw_1175
theorem dX10_bitsOfTe_0 : decode cX10_bitsOfTe 0 = .ok (.iload_n 0, 1) := by decide +kernel
theorem dX10_bitsOfTe_1 : decode cX10_bitsOfTe 1 = .ok (.iconst 1, 1) := by decide +kernel
theorem dX10_bitsOfTe_2 : decode cX10_bitsOfTe 2 = .ok (.if_icmp .ne 7, 3) := by decide +kernel
theorem dX10_bitsOfTe_5 : decode cX10_bitsOfTe 5 = .ok (.iconst 1, 1) := by decide +kernel
theorem dX10_bitsOfTe_6 : decode cX10_bitsOfTe 6 = .ok (.goto 7, 3) := by decide +kernel
theorem dX10_bitsOfTe_9 : decode cX10_bitsOfTe 9 = .ok (.iload_n 1, 1) := by decide +kernel
theorem dX10_bitsOfTe_10 : decode cX10_bitsOfTe 10 = .ok (.invokestatic 101, 3) := by decide +kernel
theorem dX10_bitsOfTe_13 : decode cX10_bitsOfTe 13 = .ok (.ireturn, 1) := by decide +kernel
def FX10_bitsOfTe (G : GG) (M : DD) (p0 : Int32) (p1 : Int32) : Option (DD × Int32) :=
  bnd (if p0 = ((1 : Int32)) then (some ((1 : Int32), M)) else
  (bnd (FX10_bitsOfUe G M p1) fun y3 =>
  some (y3.2, y3.1))) fun (y1 : Int32 × DD) =>
  some (y1.2, y1.1)
set_option maxHeartbeats 4000000 in
set_option maxRecDepth 100000 in
theorem kX10_bitsOfTe (l : Launch) (D : va_G) (ct : CT) (ad : Nat → Nat) (Z : Nat → Nat) (G : GG) (M : DD) (sz : Nat) (p0 : Int32) (p1 : Int32) (y : DD × Int32) (hF : FX10_bitsOfTe G M p0 p1 = some y) : Met l yX10_bitsOfTe wuX10_bitsOfTe ({ frames := 1, cells := 0, slots := 0, locals := 21 }) (va_Pc [.int p0, .int p1] (kB D ct ad Z G M sz)) (va_Qi (fun (q : Int32) (_ : Unit) => q = y.2) (fun _ t => kE D ct ad G (wA ad G sz) y.1 t) (wA ad G sz)) 0 0 (wA ad G sz) := by
  refine Met.ofW (cc := cX10_bitsOfTe) (maxL := 2) (ret := (some .int)) (by decide) rfl ?_
  intro p e s m args below meth c s₁ B hml hv
  obtain ⟨rfl, hsz, hP, hK, hD0, hZ, hN⟩ := hv
  have hx := B.exec
  have hb := B.bytes
  have hr := B.returns
  have hts := atoms_spec (ws := wuX10_bitsOfTe) B.pre
  have hown : s.vm.findClass RX10 = some m.cls := findClass_of_methodNamed B.named
  have hlocks := B.notSynchronized
  subst hsz
  have hD := wD_self (sz := s.heap.size) hD0
  have hA9 : ∀ q, s.heap.size ≤ q → wA ad G s.heap.size q := fun q h => Or.inr h
  generalize hAe : wA ad G s.heap.size = A at hD hA9 hZ ⊢
  have hS : va_S A s.heap s.heap [] := va_S.rf
  have hl := lv_entry ([.int p0, .int p1]) (n := 2) (Nat.le_of_ble_eq_true rfl)
  rw [lg_entry_eq]
  generalize (lg_sl ([.int p0, .int p1]) ++ List.replicate (2 - (lg_sl ([.int p0, .int p1])).length) Slot.unset).toArray = ls at hl ⊢
  have hl : lv_has ls 2 [(0, .int p0), (1, .int p1)] := hl
  unfold FX10_bitsOfTe at hF
  refine lv_iload_n hx hb dX10_bitsOfTe_0 rfl (lv_at hl 0 rfl) ?_
  refine lv_iconst (v := (1 : Int32)) hx hb dX10_bitsOfTe_1 (by decide) ?_
  obtain ⟨y1, hy1, hF⟩ := bnd_some hF
  have J1 : ∀ (H : Heap) (locs : List Loc) (ls : Array Slot), va_P D classes (wld ct ad G y1.2) H → va_D A (wld ct ad G y1.2) → va_S A s.heap H locs → lv_has ls 2 [(0, .int p0), (1, .int p1)] → W p l e (headSpec wuX10_bitsOfTe ({ frames := 1, cells := 0, slots := 0, locals := 21 })).room s m ([.int p0, .int p1] : List Value).toArray below meth c H locs 0 0 (MQ below (va_Qi (fun (q : Int32) (_ : Unit) => q = y.2) (fun _ t => kE D ct ad G A y.1 t) A) ([.int p0, .int p1] : List Value).toArray s 0 0 A) (F0 m 13 ls [.int y1.1]) := by
    intro H locs ls hP hD hS hl
    obtain rfl := Option.some.inj hF
    exact W.iret (v := y1.1) hx hb hr (fun t ht hW => ⟨⟨_, (), rfl, rfl, ⟨by rw [ht]; exact hP, va_K.moved hW.alike hK, hD⟩⟩, hS.F ht⟩) hS.2.2 dX10_bitsOfTe_13
  clear hF
  have hF := hy1
  clear hy1
  refine lv_icmp_ne (tgt := 9) hx hb dX10_bitsOfTe_2 (by decide) (fun c2 => ?_) (fun c2 => ?_)
  · rw [if_neg c2] at hF
    refine lv_iload_n hx hb dX10_bitsOfTe_9 rfl (lv_at hl 1 rfl) ?_
    obtain ⟨y3, hy3, hF⟩ := bnd_some hF
    have hf9 := wA_in hD hA9 hS
    refine va_calli (va_runS (As := [.int p1]) (rest := []) ⟨hx, hb, hml, hown, hts⟩ (kX10_bitsOfUe l D ct ad Z G M s.heap.size p1 y3 hy3) (va_cwS 1 hts gX10_bitsOfTe_X10_bitsOfUe rfl rfl rfl (by decide +kernel) ⟨Nat.le_of_ble_eq_true rfl, Nat.le_of_ble_eq_true rfl⟩) ⟨fun a U g mk q => by obtain ⟨q0, q1, qP, qK, qD, qZ, qN⟩ := q; exact ⟨q0, q1, qP, va_K.moved (u := U) (U := U.calling g mk a) (Vm.Alike.refl U.vm) qK, qD, sF.moved (u := U) (U := U.calling g mk a) (Vm.Alike.refl U.vm) qZ, nF.same rfl qN⟩, fun U hU hW => ⟨rfl, by rw [hU], by rw [hU]; exact hP, va_K.moved hW.alike hK, hD.weaken (fun _ _ _ _ => trivial), by rw [hU]; exact ((hZ.kept hS.2.1).narrow hf9).moved hW.alike, hN.warm hW⟩⟩ rfl rfl hl.1 rfl (lv_room (Nat.le_of_ble_eq_true rfl)) dX10_bitsOfTe_10 ⟨(Nat.zero_le _), (Nat.zero_le _)⟩) hS (fun q _ h => hf9 q h) hf9 (fun r u t H locs ht hvm hw hB hz1 hk1 hS => ?_)
    obtain ⟨hP, hK9, hD9⟩ := hB
    rw [ht] at hP
    try dsimp only at hw
    subst hw
    have hD := hD9.weaken (fun _ q _ h => hf9 q.1 h)
    obtain rfl := Option.some.inj hF
    exact J1 _ _ _ hP hD hS (lv_sub hl [0, 1] rfl)
  · rw [if_pos c2] at hF
    refine lv_iconst (v := (1 : Int32)) hx hb dX10_bitsOfTe_5 (by decide) ?_
    refine lv_goto (tgt := 13) hx hb dX10_bitsOfTe_6 (by decide) ?_
    obtain rfl := Option.some.inj hF
    exact J1 _ _ _ hP hD hS (lv_sub hl [0, 1] rfl)
set_option maxRecDepth 20000 in
theorem gX10_code_X10_widen : GoodIn wuX10_code (wsV RX10 84 RX10 yX10_widen wuX10_widen) := gu_V mw_1164 mw_1166 mw_27 mw_176 mw_1167
set_option maxRecDepth 20000 in
theorem gX10_code_X10_put : GoodIn wuX10_code (wsV RX10 50 RX10 yX10_put wuX10_put) := gu_V mw_1144 mw_1146 mw_26 mw_176 mw_1147
set_option maxRecDepth 20000 in
theorem dX10_code_0 : decode cX10_code 0 = .ok (.iconst 0, 1) := by decide +kernel
theorem dX10_code_1 : decode cX10_code 1 = .ok (.istore 5, 2) := by decide +kernel
theorem dX10_code_3 : decode cX10_code 3 = .ok (.iload 5, 2) := by decide +kernel
theorem dX10_code_5 : decode cX10_code 5 = .ok (.iload 4, 2) := by decide +kernel
theorem dX10_code_7 : decode cX10_code 7 = .ok (.if_icmp .ge 200, 3) := by decide +kernel
theorem dX10_code_10 : decode cX10_code 10 = .ok (.lload_n 2, 1) := by decide +kernel
theorem dX10_code_11 : decode cX10_code 11 = .ok (.iload 4, 2) := by decide +kernel
theorem dX10_code_13 : decode cX10_code 13 = .ok (.iconst 1, 1) := by decide +kernel
theorem dX10_code_14 : decode cX10_code 14 = .ok (.isub, 1) := by decide +kernel
theorem dX10_code_15 : decode cX10_code 15 = .ok (.iload 5, 2) := by decide +kernel
theorem dX10_code_17 : decode cX10_code 17 = .ok (.isub, 1) := by decide +kernel
theorem dX10_code_18 : decode cX10_code 18 = .ok (.lshr, 1) := by decide +kernel
theorem dX10_code_19 : decode cX10_code 19 = .ok (.l2i, 1) := by decide +kernel
theorem dX10_code_20 : decode cX10_code 20 = .ok (.iconst 1, 1) := by decide +kernel
theorem dX10_code_21 : decode cX10_code 21 = .ok (.iand, 1) := by decide +kernel
theorem dX10_code_22 : decode cX10_code 22 = .ok (.istore 6, 2) := by decide +kernel
theorem dX10_code_24 : decode cX10_code 24 = .ok (.aload_n 0, 1) := by decide +kernel
theorem dX10_code_25 : decode cX10_code 25 = .ok (.getfield 30, 3) := by decide +kernel
theorem dX10_code_28 : decode cX10_code 28 = .ok (.ifCond .ne 12, 3) := by decide +kernel
theorem dX10_code_31 : decode cX10_code 31 = .ok (.aload_n 0, 1) := by decide +kernel
theorem dX10_code_32 : decode cX10_code 32 = .ok (.iload 6, 2) := by decide +kernel
theorem dX10_code_34 : decode cX10_code 34 = .ok (.invokevirtual 50, 3) := by decide +kernel
theorem dX10_code_37 : decode cX10_code 37 = .ok (.goto 164, 3) := by decide +kernel
theorem dX10_code_40 : decode cX10_code 40 = .ok (.bipush 16, 2) := by decide +kernel
theorem dX10_code_42 : decode cX10_code 42 = .ok (.iload_n 1, 1) := by decide +kernel
theorem dX10_code_43 : decode cX10_code 43 = .ok (.imul, 1) := by decide +kernel
theorem dX10_code_44 : decode cX10_code 44 = .ok (.iload 5, 2) := by decide +kernel
theorem dX10_code_46 : decode cX10_code 46 = .ok (.bipush 15, 2) := by decide +kernel
theorem dX10_code_48 : decode cX10_code 48 = .ok (.if_icmp .ge 8, 3) := by decide +kernel
theorem dX10_code_51 : decode cX10_code 51 = .ok (.iload 5, 2) := by decide +kernel
theorem dX10_code_53 : decode cX10_code 53 = .ok (.goto 5, 3) := by decide +kernel
theorem dX10_code_56 : decode cX10_code 56 = .ok (.bipush 15, 2) := by decide +kernel
theorem dX10_code_58 : decode cX10_code 58 = .ok (.iadd, 1) := by decide +kernel
theorem dX10_code_59 : decode cX10_code 59 = .ok (.istore 7, 2) := by decide +kernel
theorem dX10_code_61 : decode cX10_code 61 = .ok (.aload_n 0, 1) := by decide +kernel
theorem dX10_code_62 : decode cX10_code 62 = .ok (.getfield 20, 3) := by decide +kernel
theorem dX10_code_65 : decode cX10_code 65 = .ok (.iload 7, 2) := by decide +kernel
theorem dX10_code_67 : decode cX10_code 67 = .ok (.iaload, 1) := by decide +kernel
theorem dX10_code_68 : decode cX10_code 68 = .ok (.iconst 1, 1) := by decide +kernel
theorem dX10_code_69 : decode cX10_code 69 = .ok (.ishr, 1) := by decide +kernel
theorem dX10_code_70 : decode cX10_code 70 = .ok (.istore 8, 2) := by decide +kernel
theorem dX10_code_72 : decode cX10_code 72 = .ok (.aload_n 0, 1) := by decide +kernel
theorem dX10_code_73 : decode cX10_code 73 = .ok (.getfield 20, 3) := by decide +kernel
theorem dX10_code_76 : decode cX10_code 76 = .ok (.iload 7, 2) := by decide +kernel
theorem dX10_code_78 : decode cX10_code 78 = .ok (.iaload, 1) := by decide +kernel
theorem dX10_code_79 : decode cX10_code 79 = .ok (.iconst 1, 1) := by decide +kernel
theorem dX10_code_80 : decode cX10_code 80 = .ok (.iand, 1) := by decide +kernel
theorem dX10_code_81 : decode cX10_code 81 = .ok (.istore 9, 2) := by decide +kernel
theorem dX10_code_83 : decode cX10_code 83 = .ok (.getstatic 72, 3) := by decide +kernel
theorem dX10_code_86 : decode cX10_code 86 = .ok (.iconst 4, 1) := by decide +kernel
theorem dX10_code_87 : decode cX10_code 87 = .ok (.iload 8, 2) := by decide +kernel
theorem dX10_code_89 : decode cX10_code 89 = .ok (.imul, 1) := by decide +kernel
theorem dX10_code_90 : decode cX10_code 90 = .ok (.aload_n 0, 1) := by decide +kernel
theorem dX10_code_91 : decode cX10_code 91 = .ok (.getfield 75, 3) := by decide +kernel
theorem dX10_code_94 : decode cX10_code 94 = .ok (.bipush 6, 2) := by decide +kernel
theorem dX10_code_96 : decode cX10_code 96 = .ok (.ishr, 1) := by decide +kernel
theorem dX10_code_97 : decode cX10_code 97 = .ok (.iconst 3, 1) := by decide +kernel
theorem dX10_code_98 : decode cX10_code 98 = .ok (.iand, 1) := by decide +kernel
theorem dX10_code_99 : decode cX10_code 99 = .ok (.iadd, 1) := by decide +kernel
theorem dX10_code_100 : decode cX10_code 100 = .ok (.iaload, 1) := by decide +kernel
theorem dX10_code_101 : decode cX10_code 101 = .ok (.istore 10, 2) := by decide +kernel
theorem dX10_code_103 : decode cX10_code 103 = .ok (.aload_n 0, 1) := by decide +kernel
theorem dX10_code_104 : decode cX10_code 104 = .ok (.dup, 1) := by decide +kernel
theorem dX10_code_105 : decode cX10_code 105 = .ok (.getfield 75, 3) := by decide +kernel
theorem dX10_code_108 : decode cX10_code 108 = .ok (.iload 10, 2) := by decide +kernel
theorem dX10_code_110 : decode cX10_code 110 = .ok (.isub, 1) := by decide +kernel
theorem dX10_code_111 : decode cX10_code 111 = .ok (.putfield 75, 3) := by decide +kernel
theorem dX10_code_114 : decode cX10_code 114 = .ok (.iload 6, 2) := by decide +kernel
theorem dX10_code_116 : decode cX10_code 116 = .ok (.iload 9, 2) := by decide +kernel
theorem dX10_code_118 : decode cX10_code 118 = .ok (.if_icmp .ne 24, 3) := by decide +kernel
theorem dX10_code_121 : decode cX10_code 121 = .ok (.iload 8, 2) := by decide +kernel
theorem dX10_code_123 : decode cX10_code 123 = .ok (.bipush 62, 2) := by decide +kernel
theorem dX10_code_125 : decode cX10_code 125 = .ok (.if_icmp .ge 10, 3) := by decide +kernel
theorem dX10_code_128 : decode cX10_code 128 = .ok (.iload 8, 2) := by decide +kernel
theorem dX10_code_130 : decode cX10_code 130 = .ok (.iconst 1, 1) := by decide +kernel
theorem dX10_code_131 : decode cX10_code 131 = .ok (.iadd, 1) := by decide +kernel
theorem dX10_code_132 : decode cX10_code 132 = .ok (.goto 5, 3) := by decide +kernel
theorem dX10_code_135 : decode cX10_code 135 = .ok (.bipush 62, 2) := by decide +kernel
theorem dX10_code_137 : decode cX10_code 137 = .ok (.istore 8, 2) := by decide +kernel
theorem dX10_code_139 : decode cX10_code 139 = .ok (.goto 44, 3) := by decide +kernel
theorem dX10_code_142 : decode cX10_code 142 = .ok (.aload_n 0, 1) := by decide +kernel
theorem dX10_code_143 : decode cX10_code 143 = .ok (.dup, 1) := by decide +kernel
theorem dX10_code_144 : decode cX10_code 144 = .ok (.getfield 78, 3) := by decide +kernel
theorem dX10_code_147 : decode cX10_code 147 = .ok (.aload_n 0, 1) := by decide +kernel
theorem dX10_code_148 : decode cX10_code 148 = .ok (.getfield 75, 3) := by decide +kernel
theorem dX10_code_151 : decode cX10_code 151 = .ok (.iadd, 1) := by decide +kernel
theorem dX10_code_152 : decode cX10_code 152 = .ok (.putfield 78, 3) := by decide +kernel
theorem dX10_code_155 : decode cX10_code 155 = .ok (.aload_n 0, 1) := by decide +kernel
theorem dX10_code_156 : decode cX10_code 156 = .ok (.iload 10, 2) := by decide +kernel
theorem dX10_code_158 : decode cX10_code 158 = .ok (.putfield 75, 3) := by decide +kernel
theorem dX10_code_161 : decode cX10_code 161 = .ok (.iload 8, 2) := by decide +kernel
theorem dX10_code_163 : decode cX10_code 163 = .ok (.ifCond .ne 8, 3) := by decide +kernel
theorem dX10_code_166 : decode cX10_code 166 = .ok (.iload 6, 2) := by decide +kernel
theorem dX10_code_168 : decode cX10_code 168 = .ok (.goto 5, 3) := by decide +kernel
theorem dX10_code_171 : decode cX10_code 171 = .ok (.iload 9, 2) := by decide +kernel
theorem dX10_code_173 : decode cX10_code 173 = .ok (.istore 9, 2) := by decide +kernel
theorem dX10_code_175 : decode cX10_code 175 = .ok (.getstatic 81, 3) := by decide +kernel
theorem dX10_code_178 : decode cX10_code 178 = .ok (.iload 8, 2) := by decide +kernel
theorem dX10_code_180 : decode cX10_code 180 = .ok (.iaload, 1) := by decide +kernel
theorem dX10_code_181 : decode cX10_code 181 = .ok (.istore 8, 2) := by decide +kernel
theorem dX10_code_183 : decode cX10_code 183 = .ok (.aload_n 0, 1) := by decide +kernel
theorem dX10_code_184 : decode cX10_code 184 = .ok (.getfield 20, 3) := by decide +kernel
theorem dX10_code_187 : decode cX10_code 187 = .ok (.iload 7, 2) := by decide +kernel
theorem dX10_code_189 : decode cX10_code 189 = .ok (.iload 8, 2) := by decide +kernel
theorem dX10_code_191 : decode cX10_code 191 = .ok (.iconst 1, 1) := by decide +kernel
theorem dX10_code_192 : decode cX10_code 192 = .ok (.ishl, 1) := by decide +kernel
theorem dX10_code_193 : decode cX10_code 193 = .ok (.iload 9, 2) := by decide +kernel
theorem dX10_code_195 : decode cX10_code 195 = .ok (.ior, 1) := by decide +kernel
theorem dX10_code_196 : decode cX10_code 196 = .ok (.iastore, 1) := by decide +kernel
theorem dX10_code_197 : decode cX10_code 197 = .ok (.aload_n 0, 1) := by decide +kernel
theorem dX10_code_198 : decode cX10_code 198 = .ok (.invokevirtual 84, 3) := by decide +kernel
theorem dX10_code_201 : decode cX10_code 201 = .ok (.iinc 5 1, 3) := by decide +kernel
theorem dX10_code_204 : decode cX10_code 204 = .ok (.goto (-201), 3) := by decide +kernel
theorem dX10_code_207 : decode cX10_code 207 = .ok (.return_, 1) := by decide +kernel
noncomputable def FX10_code (G : GG) (M : DD) (a : Nat) (p0 : Int32) (p1 : Int64) (p2 : Int32) : Option (NN × DD) :=
  bnd (itrA (fun (s2 : NN × Int32 × DD) => ((if p2 ≤ s2.2.1 then (some ([], .inr ((s2.2.1, s2.2.2)))) else
  (ltt ((p2 - ((1 : Int32)))) fun x12 =>
  ltt ((x12 - s2.2.1)) fun x13 =>
  ltt (p1 >>> (x13.toInt64 &&& 63)) fun x14 =>
  ltt (x14.toInt32) fun x15 =>
  ltt ((x15 &&& ((1 : Int32)))) fun x16 =>
  ltt (s2.2.2.1 a 8) fun x17 =>
  bnd (if x17 = ((0 : Int32)) then (bnd (FX10_put (xt G s2.1) s2.2.2 a x16) fun y65 =>
  app y65.1 <|
  ltt (s2.1 ++ y65.1) fun L67 =>
  some ([], y65.2)) else
  (ltt ((((16 : Int32)) * p0)) fun x25 =>
  bnd (if ((15 : Int32)) ≤ s2.2.1 then (some ((15 : Int32))) else
  (some (s2.2.1))) fun (y26 : Int32) =>
  ltt ((x25 + y26)) fun x27 =>
  dr (xt G s2.1) 13 ((s2.2.2.2 a 13)) fun b28 =>
  chk (¬ (x27 < 0 ∨ (xt G s2.1).2.2 b28 ≤ x27.toNatClampNeg)) <|
  ltt (s2.2.2.1 b28 x27.toNatClampNeg) fun x29 =>
  ltt ((x29 >>> (((1 : Int32)) &&& 31))) fun x30 =>
  chk (¬ (x27 < 0 ∨ (xt G s2.1).2.2 b28 ≤ x27.toNatClampNeg)) <|
  ltt (s2.2.2.1 b28 x27.toNatClampNeg) fun x31 =>
  ltt ((x31 &&& ((1 : Int32)))) fun x32 =>
  ltt ((((4 : Int32)) * x30)) fun x33 =>
  ltt (s2.2.2.1 a 10) fun x34 =>
  ltt ((x34 >>> (((6 : Int32)) &&& 31))) fun x35 =>
  ltt ((x35 &&& ((3 : Int32)))) fun x36 =>
  ltt ((x33 + x36)) fun x37 =>
  chk (¬ (x37 < 0 ∨ 256 ≤ x37.toNatClampNeg)) <|
  ltt ((sT 8).getD x37.toNatClampNeg 0) fun x38 =>
  ltt (s2.2.2.1 a 10) fun x39 =>
  ltt ((x39 - x38)) fun x40 =>
  ltt (uI s2.2.2 a 10 x40) fun M41 =>
  bnd (if x16 = x32 then (bnd (if ((62 : Int32)) ≤ x30 then (some ((62 : Int32))) else
  (ltt ((x30 + ((1 : Int32)))) fun x63 =>
  some (x63))) fun (y61 : Int32) =>
  some (y61, x32, M41)) else
  (ltt (M41.1 a 9) fun x53 =>
  ltt (M41.1 a 10) fun x54 =>
  ltt ((x53 + x54)) fun x55 =>
  ltt (uI M41 a 9 x55) fun M56 =>
  ltt (uI M56 a 10 x38) fun M57 =>
  bnd (if x30 = ((0 : Int32)) then (some (x16)) else
  (some (x32))) fun (y58 : Int32) =>
  chk (¬ (x30 < 0 ∨ 64 ≤ x30.toNatClampNeg)) <|
  ltt ((sT 7).getD x30.toNatClampNeg 0) fun x59 =>
  some (x59, y58, M57))) fun (y42 : Int32 × Int32 × DD) =>
  ltt ((y42.1 <<< (((1 : Int32)) &&& 31))) fun x43 =>
  ltt ((x43 ||| y42.2.1)) fun x44 =>
  dr (xt G s2.1) 13 ((y42.2.2.2 a 13)) fun b45 =>
  chk (¬ (x27 < 0 ∨ (xt G s2.1).2.2 b45 ≤ x27.toNatClampNeg)) <|
  ltt (uI y42.2.2 b45 x27.toNatClampNeg x44) fun M46 =>
  bnd (FX10_widen (xt G s2.1) M46 a) fun y47 =>
  app y47.1 <|
  ltt (s2.1 ++ y47.1) fun L49 =>
  some ([], y47.2))) fun (y18 : NN × DD) =>
  app y18.1 <|
  ltt (s2.1 ++ y18.1) fun L20 =>
  ltt (s2.2.1 + (1 : Int32)) fun x22 =>
  some ([], .inl (L20, (x22, y18.2))))) : Option (NN × ((NN × Int32 × DD) ⊕ (Int32 × DD))))) 1000000 ([], ((0 : Int32), M))) fun (y1 : NN × Int32 × DD) =>
  app y1.1 <|
  ltt ([] ++ y1.1) fun L4 =>
  some ([], y1.2.2)
set_option maxHeartbeats 4000000 in
set_option maxRecDepth 100000 in
theorem kX10_code (l : Launch) (D : va_G) (ct : CT) (ad : Nat → Nat) (Z : Nat → Nat) (G : GG) (M : DD) (sz : Nat) (a : Nat) (p0 : Int32) (p1 : Int64) (p2 : Int32) (y : NN × DD) (hc : a < G.1) (hk : G.2.1 a = 10) (hF : FX10_code G M a p0 p1 p2 = some y) : Met l yX10_code wuX10_code ({ frames := 4, cells := y.1.length, slots := wt y.1, locals := 145 }) (va_Pc [.ref (ad a), .int p0, .long p1, .int p2] (kB D ct ad Z G M sz)) (va_Qv (fun (u : Nat → Nat) => agr G.1 ad u) (fun u t => kE D ct u (xt G y.1) (wA ad G sz) y.2 t) (wA ad G sz)) y.1.length (wt y.1) (wA ad G sz) := by
  refine Met.ofW (cc := cX10_code) (maxL := 11) (ret := none) (by decide) rfl ?_
  intro p e s m args below meth c s₁ B hml hv
  obtain ⟨rfl, hsz, hP, hK, hD0, hZ, hN⟩ := hv
  have hx := B.exec
  have hb := B.bytes
  have hr := B.returns
  have hts := atoms_spec (ws := wuX10_code) B.pre
  have hown : s.vm.findClass RX10 = some m.cls := findClass_of_methodNamed B.named
  have hlocks := B.notSynchronized
  subst hsz
  have hD := wD_self (sz := s.heap.size) hD0
  have hA9 : ∀ q, s.heap.size ≤ q → wA ad G s.heap.size q := fun q h => Or.inr h
  generalize hAe : wA ad G s.heap.size = A at hD hA9 hZ ⊢
  have hS : va_S A s.heap s.heap [] := va_S.rf
  have hl := lv_entry ([.ref (ad a), .int p0, .long p1, .int p2]) (n := 11) (Nat.le_of_ble_eq_true rfl)
  rw [lg_entry_eq]
  generalize (lg_sl ([.ref (ad a), .int p0, .long p1, .int p2]) ++ List.replicate (11 - (lg_sl ([.ref (ad a), .int p0, .long p1, .int p2])).length) Slot.unset).toArray = ls at hl ⊢
  have hl : lv_has ls 11 [(0, .ref (ad a)), (1, .int p0), (2, .long p1), (4, .int p2)] := hl
  unfold FX10_code at hF
  rw [← wld_0 ct ad G M] at hP hD
  have hk := xt_k0 hc hk
  have hc := xt_l0 hc
  have hag := agr_rf G.1 ad
  obtain ⟨w0, hw0⟩ : ∃ z, z = y := ⟨_, rfl⟩
  rw [← hw0] at hF
  have hT : y.1 = [] ++ w0.1 := by rw [hw0]; rfl
  have h2 : y.2 = w0.2 := by rw [hw0]
  have hbl : y.1.length ≤ y.1.length ∧ wt y.1 ≤ wt y.1 := ⟨Nat.le_refl _, Nat.le_refl _⟩
  refine lv_iconst (v := (0 : Int32)) hx hb dX10_code_0 (by decide) ?_
  refine lv_istore (lv' := [(5, .int (0 : Int32)), (0, .ref (ad a)), (1, .int p0), (2, .long p1), (4, .int p2)]) hx hb dX10_code_1 hl (by decide) rfl (fun ls hl => ?_)
  obtain ⟨y1, hy1, hF⟩ := bnd_some hF
  obtain ⟨w3, hF, ew3⟩ := app_some hF
  obtain ⟨L4, eL4, hF⟩ := ltt_some hF
  have hT4 : y.1 = ([] ++ y1.1) ++ w3.1 := by rw [hT, ew3]; simp only [List.append_assoc]
  have hbl4 : L4.length ≤ y.1.length ∧ wt L4 ≤ wt y.1 := by rw [eL4]; exact room_d hT4 hbl
  have K1 : ∀ (ad5 : Nat → Nat), agr G.1 ad ad5 → ∀ (H : Heap) (locs : List Loc) (ls : Array Slot), va_P D classes (wld ct ad5 (xt G L4) y1.2.2) H → va_D A (wld ct ad5 (xt G L4) y1.2.2) → va_S A s.heap H locs → lv_has ls 11 [] → W p l e (headSpec wuX10_code ({ frames := 4, cells := y.1.length, slots := wt y.1, locals := 145 })).room s m ([.ref (ad a), .int p0, .long p1, .int p2] : List Value).toArray below meth c H locs (L4 : NN).length (wt L4) (MQ below (va_Qv (fun (u : Nat → Nat) => agr G.1 ad u) (fun u t => kE D ct u (xt G y.1) A y.2 t) A) ([.ref (ad a), .int p0, .long p1, .int p2] : List Value).toArray s y.1.length (wt y.1) A) (F0 m 207 ls []) := by
    intro ad5 hag H locs ls hP hD hS hl
    have hT : y.1 = L4 ++ w3.1 := by rw [hT4, eL4]
    have h2 : y.2 = w3.2 := by rw [h2, ew3]
    have hk : (xt G L4).2.1 a = 10 := by rw [eL4]; exact xt_k _ hc hk
    have hc : a < (xt G L4).1 := by rw [eL4]; exact xt_l _ hc
    obtain rfl := Option.some.inj hF
    have e1 : y.1 = L4 := by rw [hT]; exact List.append_nil _
    have e2 : y.2 = y1.2.2 := h2
    refine W.widen (k := y.1.length) (n := wt y.1) (Nat.le_of_eq (by rw [e1])) (Nat.le_of_eq (by rw [e1])) ?_
    exact W.vret hx hb hr (fun t ht hW => ⟨⟨ad5, rfl, hag, (by unfold kE; rw [e1, e2]; exact ⟨by rw [ht]; exact hP, va_K.moved hW.alike hK, hD⟩)⟩, hS.F ht⟩) hS.2.2 dX10_code_207
  clear hF
  refine itrA_rule (fun (s2 : NN × Int32 × DD) (r7 : NN) => (∃ t, s2.1 = [] ++ t) → L4 = s2.1 ++ r7 → ∀ (ad6 : Nat → Nat), agr G.1 ad ad6 → ∀ (H : Heap) (locs : List Loc) (ls : Array Slot), va_P D classes (wld ct ad6 (xt G s2.1) s2.2.2) H → va_D A (wld ct ad6 (xt G s2.1) s2.2.2) → va_S A s.heap H locs → lv_has ls 11 [(5, .int s2.2.1), (0, .ref (ad6 a)), (1, .int p0), (2, .long p1), (4, .int p2)] → W p l e (headSpec wuX10_code ({ frames := 4, cells := y.1.length, slots := wt y.1, locals := 145 })).room s m ([.ref (ad a), .int p0, .long p1, .int p2] : List Value).toArray below meth c H locs (s2.1 : NN).length (wt s2.1) (MQ below (va_Qv (fun (u : Nat → Nat) => agr G.1 ad u) (fun u t => kE D ct u (xt G y.1) A y.2 t) A) ([.ref (ad a), .int p0, .long p1, .int p2] : List Value).toArray s y.1.length (wt y.1) A) (F0 m 3 ls [])) ?_ _ _ _ hy1 ⟨[], (List.append_nil _).symm⟩ eL4 _ hag _ _ _ hP hD hS (lv_sub hl [0, 1, 2, 3, 4] rfl)
  rintro s2 r7 ⟨z8, hF, ⟨t1, et1⟩, hwz8⟩ ⟨u1, eu1⟩ eq1 ad6 hag H locs ls hP hD hS hl
  try dsimp only at hF
  obtain ⟨L9, eL9⟩ : ∃ x, x = s2.1 ++ z8.1 := ⟨_, rfl⟩
  obtain ⟨w10, hw10⟩ : ∃ x, x = z8 := ⟨_, rfl⟩
  rw [← hw10] at hF
  have hbl : L9.length ≤ y.1.length ∧ wt L9 ≤ wt y.1 := room_d (show L4 = L9 ++ t1 by rw [eq1, et1, eL9]; simp only [List.append_assoc]) hbl4
  have hT : L9 = s2.1 ++ w10.1 := by rw [eL9, hw10]
  have h2 : z8.2 = w10.2 := by rw [hw10]
  have hk : (xt G s2.1).2.1 a = 10 := by rw [eu1]; exact xt_k _ hc hk
  have hc : a < (xt G s2.1).1 := by rw [eu1]; exact xt_l _ hc
  refine lv_iload hx hb dX10_code_3 (lv_at hl 0 rfl) ?_
  refine lv_iload hx hb dX10_code_5 (lv_at hl 4 rfl) ?_
  refine lv_icmp_ge (tgt := 207) hx hb dX10_code_7 (by decide) (fun c11 => ?_) (fun c11 => ?_)
  · rw [if_pos c11] at hF
    obtain rfl := Option.some.inj hF
    have e1 : L9 = s2.1 := by rw [hT]; exact List.append_nil _
    have e2 : z8.2 = .inr ((s2.2.1, s2.2.2)) := h2
    rw [e2] at hwz8
    obtain ⟨hw1, hw2⟩ := hwz8
    have e8 : L4 = s2.1 := by rw [eq1, hw2, ← eL9, e1]
    rw [e8] at K1
    try rw [← hw1] at K1
    exact K1 _ hag _ _ _ hP hD hS (lv_sub hl [] rfl)
  · rw [if_neg c11] at hF
    refine lv_lload_n hx hb dX10_code_10 rfl (lv_at hl 3 rfl) ?_
    refine lv_iload hx hb dX10_code_11 (lv_at hl 4 rfl) ?_
    refine lv_iconst (v := (1 : Int32)) hx hb dX10_code_13 (by decide) ?_
    refine lv_isub hx hb dX10_code_14 ?_
    obtain ⟨x12, ex12, hF⟩ := ltt_some hF
    refine lv_topi (fun zx12 ezx12 => ?_)
    obtain rfl : x12 = zx12 := ex12.trans ezx12.symm
    refine lv_iload hx hb dX10_code_15 (lv_at hl 0 rfl) ?_
    refine lv_isub hx hb dX10_code_17 ?_
    obtain ⟨x13, ex13, hF⟩ := ltt_some hF
    refine lv_topi (fun zx13 ezx13 => ?_)
    obtain rfl : x13 = zx13 := ex13.trans ezx13.symm
    refine lv_lshr (v := p1 >>> (x13.toInt64 &&& 63)) hx hb dX10_code_18 rfl ?_
    obtain ⟨x14, ex14, hF⟩ := ltt_some hF
    refine lv_topl (fun zx14 ezx14 => ?_)
    obtain rfl : x14 = zx14 := ex14.trans ezx14.symm
    refine lv_l2i (v := x14.toInt32) hx hb dX10_code_19 rfl ?_
    obtain ⟨x15, ex15, hF⟩ := ltt_some hF
    refine lv_topi (fun zx15 ezx15 => ?_)
    obtain rfl : x15 = zx15 := ex15.trans ezx15.symm
    refine lv_iconst (v := (1 : Int32)) hx hb dX10_code_20 (by decide) ?_
    refine lv_iand hx hb dX10_code_21 ?_
    obtain ⟨x16, ex16, hF⟩ := ltt_some hF
    refine lv_topi (fun zx16 ezx16 => ?_)
    obtain rfl : x16 = zx16 := ex16.trans ezx16.symm
    refine lv_istore (lv' := [(6, .int x16), (5, .int s2.2.1), (0, .ref (ad6 a)), (1, .int p0), (2, .long p1), (4, .int p2)]) hx hb dX10_code_22 hl (by decide) rfl (fun ls hl => ?_)
    refine lv_aload_n hx hb dX10_code_24 rfl (lv_at hl 2 rfl) ?_
    refine va_get (D := D) (ci := 10) (v := .int (s2.2.2.1 a 8)) (C := RX10) (T := TX10) (N := 20) hx hb hts (mus hf_X10) hown hK hP a (wld_o ct ad6 (xt G s2.1) s2.2.2 hc hk (by decide)) rfl 8 (by decide) (hts (.fieldLink RX10 30 "VideoSuite$Writer" "arith" "Z") (mu mw_747)) (fun _ h9 => h9) rfl dX10_code_25 ?_
    obtain ⟨x17, ex17, hF⟩ := ltt_some hF
    refine lv_topi (fun zx17 ezx17 => ?_)
    obtain rfl : x17 = zx17 := ex17.trans ezx17.symm
    obtain ⟨y18, hy18, hF⟩ := bnd_some hF
    obtain ⟨w19, hF, ew19⟩ := app_some hF
    obtain ⟨L20, eL20, hF⟩ := ltt_some hF
    have hT20 : L9 = (s2.1 ++ y18.1) ++ w19.1 := by rw [hT, ew19]; simp only [List.append_assoc]
    have hbl20 : L20.length ≤ y.1.length ∧ wt L20 ≤ wt y.1 := by rw [eL20]; exact room_d hT20 hbl
    have J18 : ∀ (ad21 : Nat → Nat), agr G.1 ad ad21 → ∀ (H : Heap) (locs : List Loc) (ls : Array Slot), va_P D classes (wld ct ad21 (xt G L20) y18.2) H → va_D A (wld ct ad21 (xt G L20) y18.2) → va_S A s.heap H locs → lv_has ls 11 [(5, .int s2.2.1), (0, .ref (ad21 a)), (1, .int p0), (2, .long p1), (4, .int p2)] → W p l e (headSpec wuX10_code ({ frames := 4, cells := y.1.length, slots := wt y.1, locals := 145 })).room s m ([.ref (ad a), .int p0, .long p1, .int p2] : List Value).toArray below meth c H locs (L20 : NN).length (wt L20) (MQ below (va_Qv (fun (u : Nat → Nat) => agr G.1 ad u) (fun u t => kE D ct u (xt G y.1) A y.2 t) A) ([.ref (ad a), .int p0, .long p1, .int p2] : List Value).toArray s y.1.length (wt y.1) A) (F0 m 201 ls []) := by
      intro ad21 hag H locs ls hP hD hS hl
      have hT : L9 = L20 ++ w19.1 := by rw [hT20, eL20]
      have h2 : z8.2 = w19.2 := by rw [h2, ew19]
      have hk : (xt G L20).2.1 a = 10 := by rw [eL20]; exact xt_k _ hc hk
      have hc : a < (xt G L20).1 := by rw [eL20]; exact xt_l _ hc
      obtain ⟨x22, ex22, hF⟩ := ltt_some hF
      refine lv_iinc (v := x22) (lv' := [(5, .int x22), (0, .ref (ad21 a)), (1, .int p0), (2, .long p1), (4, .int p2)]) hx hb dX10_code_201 hl (k := 0) rfl (by rw [ex22]; rfl) (by decide) rfl (fun ls hl => ?_)
      refine lv_goto (tgt := 3) hx hb dX10_code_204 (by decide) ?_
      obtain rfl := Option.some.inj hF
      have e1 : L9 = L20 := by rw [hT]; exact List.append_nil _
      have e2 : z8.2 = .inl (L20, (x22, y18.2)) := h2
      rw [e2] at hwz8
      obtain ⟨r2, er2, hwz8⟩ := hwz8
      exact hwz8 ⟨u1 ++ z8.1, by show L20 = _; rw [← e1, eL9, eu1]; simp only [List.append_assoc]⟩ (by show L4 = L20 ++ r2; rw [eq1, er2, ← e1, eL9]; simp only [List.append_assoc]) _ hag _ _ _ hP hD hS (lv_sub hl [0, 1, 2, 3, 4] rfl)
    clear hF
    obtain ⟨w23, hw23⟩ : ∃ z, z = y18 := ⟨_, rfl⟩
    have hF := hy18
    rw [← hw23] at hF
    clear hy18
    have hT : L20 = s2.1 ++ w23.1 := by rw [eL20, hw23]
    have h2 : y18.2 = w23.2 := by rw [hw23]
    have hbl := hbl20
    refine lv_if_ne (tgt := 40) hx hb dX10_code_28 (by decide) (fun c24 => ?_) (fun c24 => ?_)
    · rw [if_neg c24] at hF
      refine lv_bipush (v := (16 : Int32)) hx hb dX10_code_40 (by decide) ?_
      refine lv_iload_n hx hb dX10_code_42 rfl (lv_at hl 3 rfl) ?_
      refine lv_imul hx hb dX10_code_43 ?_
      obtain ⟨x25, ex25, hF⟩ := ltt_some hF
      refine lv_topi (fun zx25 ezx25 => ?_)
      obtain rfl : x25 = zx25 := ex25.trans ezx25.symm
      refine lv_iload hx hb dX10_code_44 (lv_at hl 1 rfl) ?_
      refine lv_bipush (v := (15 : Int32)) hx hb dX10_code_46 (by decide) ?_
      obtain ⟨y26, hy26, hF⟩ := bnd_some hF
      have J26 : ∀ (H : Heap) (locs : List Loc) (ls : Array Slot), va_P D classes (wld ct ad6 (xt G s2.1) s2.2.2) H → va_D A (wld ct ad6 (xt G s2.1) s2.2.2) → va_S A s.heap H locs → lv_has ls 11 [(6, .int x16), (5, .int s2.2.1), (0, .ref (ad6 a)), (1, .int p0), (2, .long p1), (4, .int p2)] → W p l e (headSpec wuX10_code ({ frames := 4, cells := y.1.length, slots := wt y.1, locals := 145 })).room s m ([.ref (ad a), .int p0, .long p1, .int p2] : List Value).toArray below meth c H locs (s2.1 : NN).length (wt s2.1) (MQ below (va_Qv (fun (u : Nat → Nat) => agr G.1 ad u) (fun u t => kE D ct u (xt G y.1) A y.2 t) A) ([.ref (ad a), .int p0, .long p1, .int p2] : List Value).toArray s y.1.length (wt y.1) A) (F0 m 58 ls [.int y26, .int x25]) := by
        intro H locs ls hP hD hS hl
        refine lv_iadd hx hb dX10_code_58 ?_
        obtain ⟨x27, ex27, hF⟩ := ltt_some hF
        refine lv_topi (fun zx27 ezx27 => ?_)
        obtain rfl : x27 = zx27 := ex27.trans ezx27.symm
        refine lv_istore (lv' := [(7, .int x27), (6, .int x16), (5, .int s2.2.1), (0, .ref (ad6 a)), (1, .int p0), (2, .long p1), (4, .int p2)]) hx hb dX10_code_59 hl (by decide) rfl (fun ls hl => ?_)
        refine lv_aload_n hx hb dX10_code_61 rfl (lv_at hl 3 rfl) ?_
        refine va_get (D := D) (ci := 10) (v := va_re ad6 (s2.2.2.2 a 13)) (C := RX10) (T := TX10) (N := 20) hx hb hts (mus hf_X10) hown hK hP a (wld_o ct ad6 (xt G s2.1) s2.2.2 hc hk (by decide)) rfl 13 (by decide) (hts (.fieldLink RX10 20 "VideoSuite$Writer" "state" "[I") (mu mw_752)) (fun _ h9 => h9) rfl dX10_code_62 ?_
        refine lv_iload hx hb dX10_code_65 (lv_at hl 0 rfl) ?_
        obtain ⟨b28, ho28, hc28, hk28, hF⟩ := dr_some hF
        refine W_st (st' := [.int x27, .ref (ad6 b28)]) (by rw [va_some ho28]) ?_
        obtain ⟨hvc, hF⟩ := chk_some hF
        refine va_iald hx hb hK hP b28 1 (wld_i ct ad6 (xt G s2.1) s2.2.2 hc28 hk28) rfl hvc dX10_code_67 ?_
        obtain ⟨x29, ex29, hF⟩ := ltt_some hF
        refine lv_topi (fun zx29 ezx29 => ?_)
        obtain rfl : x29 = zx29 := ex29.trans ezx29.symm
        refine lv_iconst (v := (1 : Int32)) hx hb dX10_code_68 (by decide) ?_
        refine lv_ishr hx hb dX10_code_69 ?_
        obtain ⟨x30, ex30, hF⟩ := ltt_some hF
        refine lv_topi (fun zx30 ezx30 => ?_)
        obtain rfl : x30 = zx30 := ex30.trans ezx30.symm
        refine lv_istore (lv' := [(8, .int x30), (7, .int x27), (6, .int x16), (5, .int s2.2.1), (0, .ref (ad6 a)), (1, .int p0), (2, .long p1), (4, .int p2)]) hx hb dX10_code_70 hl (by decide) rfl (fun ls hl => ?_)
        refine lv_aload_n hx hb dX10_code_72 rfl (lv_at hl 4 rfl) ?_
        refine va_get (D := D) (ci := 10) (v := va_re ad6 (s2.2.2.2 a 13)) (C := RX10) (T := TX10) (N := 20) hx hb hts (mus hf_X10) hown hK hP a (wld_o ct ad6 (xt G s2.1) s2.2.2 hc hk (by decide)) rfl 13 (by decide) (hts (.fieldLink RX10 20 "VideoSuite$Writer" "state" "[I") (mu mw_752)) (fun _ h9 => h9) rfl dX10_code_73 ?_
        refine lv_iload hx hb dX10_code_76 (lv_at hl 1 rfl) ?_
        refine W_st (st' := [.int x27, .ref (ad6 b28)]) (by rw [va_some ho28]) ?_
        obtain ⟨hvc, hF⟩ := chk_some hF
        refine va_iald hx hb hK hP b28 1 (wld_i ct ad6 (xt G s2.1) s2.2.2 hc28 hk28) rfl hvc dX10_code_78 ?_
        obtain ⟨x31, ex31, hF⟩ := ltt_some hF
        refine lv_topi (fun zx31 ezx31 => ?_)
        obtain rfl : x31 = zx31 := ex31.trans ezx31.symm
        refine lv_iconst (v := (1 : Int32)) hx hb dX10_code_79 (by decide) ?_
        refine lv_iand hx hb dX10_code_80 ?_
        obtain ⟨x32, ex32, hF⟩ := ltt_some hF
        refine lv_topi (fun zx32 ezx32 => ?_)
        obtain rfl : x32 = zx32 := ex32.trans ezx32.symm
        refine lv_istore (lv' := [(9, .int x32), (8, .int x30), (7, .int x27), (6, .int x16), (5, .int s2.2.1), (0, .ref (ad6 a)), (1, .int p0), (2, .long p1), (4, .int p2)]) hx hb dX10_code_81 hl (by decide) rfl (fun ls hl => ?_)
        refine va_gets hx hb (hZ.1 8 (by decide)).1 hS hown (hts (.fieldLink RX10 72 "VideoSuite$Reader" "LOWER" "[I") (mu mw_1160)) (fun _ h => h) dX10_code_83 ?_
        refine lv_iconst (v := (4 : Int32)) hx hb dX10_code_86 (by decide) ?_
        refine lv_iload hx hb dX10_code_87 (lv_at hl 1 rfl) ?_
        refine lv_imul hx hb dX10_code_89 ?_
        obtain ⟨x33, ex33, hF⟩ := ltt_some hF
        refine lv_topi (fun zx33 ezx33 => ?_)
        obtain rfl : x33 = zx33 := ex33.trans ezx33.symm
        refine lv_aload_n hx hb dX10_code_90 rfl (lv_at hl 5 rfl) ?_
        refine va_get (D := D) (ci := 10) (v := .int (s2.2.2.1 a 10)) (C := RX10) (T := TX10) (N := 20) hx hb hts (mus hf_X10) hown hK hP a (wld_o ct ad6 (xt G s2.1) s2.2.2 hc hk (by decide)) rfl 10 (by decide) (hts (.fieldLink RX10 75 "VideoSuite$Writer" "range" "I") (mu mw_749)) (fun _ h9 => h9) rfl dX10_code_91 ?_
        obtain ⟨x34, ex34, hF⟩ := ltt_some hF
        refine lv_topi (fun zx34 ezx34 => ?_)
        obtain rfl : x34 = zx34 := ex34.trans ezx34.symm
        refine lv_bipush (v := (6 : Int32)) hx hb dX10_code_94 (by decide) ?_
        refine lv_ishr hx hb dX10_code_96 ?_
        obtain ⟨x35, ex35, hF⟩ := ltt_some hF
        refine lv_topi (fun zx35 ezx35 => ?_)
        obtain rfl : x35 = zx35 := ex35.trans ezx35.symm
        refine lv_iconst (v := (3 : Int32)) hx hb dX10_code_97 (by decide) ?_
        refine lv_iand hx hb dX10_code_98 ?_
        obtain ⟨x36, ex36, hF⟩ := ltt_some hF
        refine lv_topi (fun zx36 ezx36 => ?_)
        obtain rfl : x36 = zx36 := ex36.trans ezx36.symm
        refine lv_iadd hx hb dX10_code_99 ?_
        obtain ⟨x37, ex37, hF⟩ := ltt_some hF
        refine lv_topi (fun zx37 ezx37 => ?_)
        obtain rfl : x37 = zx37 := ex37.trans ezx37.symm
        obtain ⟨hvc, hF⟩ := chk_some hF
        refine va_ti (v := .int ((sT 8).getD x37.toNatClampNeg 0)) hx hb (hZ.1 8 (by decide)).2 hS hvc rfl dX10_code_100 ?_
        obtain ⟨x38, ex38, hF⟩ := ltt_some hF
        refine lv_topi (fun zx38 ezx38 => ?_)
        obtain rfl : x38 = zx38 := ex38.trans ezx38.symm
        refine lv_istore (lv' := [(10, .int x38), (9, .int x32), (8, .int x30), (7, .int x27), (6, .int x16), (5, .int s2.2.1), (0, .ref (ad6 a)), (1, .int p0), (2, .long p1), (4, .int p2)]) hx hb dX10_code_101 hl (by decide) rfl (fun ls hl => ?_)
        refine lv_aload_n hx hb dX10_code_103 rfl (lv_at hl 6 rfl) ?_
        refine lv_dup hx hb dX10_code_104 rfl ?_
        refine va_get (D := D) (ci := 10) (v := .int (s2.2.2.1 a 10)) (C := RX10) (T := TX10) (N := 20) hx hb hts (mus hf_X10) hown hK hP a (wld_o ct ad6 (xt G s2.1) s2.2.2 hc hk (by decide)) rfl 10 (by decide) (hts (.fieldLink RX10 75 "VideoSuite$Writer" "range" "I") (mu mw_749)) (fun _ h9 => h9) rfl dX10_code_105 ?_
        obtain ⟨x39, ex39, hF⟩ := ltt_some hF
        refine lv_topi (fun zx39 ezx39 => ?_)
        obtain rfl : x39 = zx39 := ex39.trans ezx39.symm
        refine lv_iload hx hb dX10_code_108 (lv_at hl 0 rfl) ?_
        refine lv_isub hx hb dX10_code_110 ?_
        obtain ⟨x40, ex40, hF⟩ := ltt_some hF
        refine lv_topi (fun zx40 ezx40 => ?_)
        obtain rfl : x40 = zx40 := ex40.trans ezx40.symm
        refine va_put (D := D) (ci := 10) (v := .int x40) (ty := .int) (C := RX10) (T := TX10) (N := 20) hx hb hts (mus hf_X10) tyX10 tyX10_ok nmX10 hown hK hP hD hS a (wld_o ct ad6 (xt G s2.1) s2.2.2 hc hk (by decide)) rfl 10 (by decide) (hts (.fieldLink RX10 75 "VideoSuite$Writer" "range" "I") (mu mw_749)) (fun _ h9 => h9) rfl (by decide +kernel) rfl rfl (Nat.le_of_ble_eq_true rfl) dX10_code_111 (fun H locs hP hD hS => ?_)
        obtain ⟨M41, eM41, hF⟩ := ltt_some hF
        rw [set_oI ct ad6 (xt G s2.1) s2.2.2 hc hk (by decide) (by rfl), ← eM41] at hP hD
        refine lv_iload hx hb dX10_code_114 (lv_at hl 4 rfl) ?_
        refine lv_iload hx hb dX10_code_116 (lv_at hl 1 rfl) ?_
        obtain ⟨y42, hy42, hF⟩ := bnd_some hF
        have J42 : ∀ (H : Heap) (locs : List Loc) (ls : Array Slot), va_P D classes (wld ct ad6 (xt G s2.1) y42.2.2) H → va_D A (wld ct ad6 (xt G s2.1) y42.2.2) → va_S A s.heap H locs → lv_has ls 11 [(10, .int x38), (9, .int y42.2.1), (8, .int y42.1), (7, .int x27), (6, .int x16), (5, .int s2.2.1), (0, .ref (ad6 a)), (1, .int p0), (2, .long p1), (4, .int p2)] → W p l e (headSpec wuX10_code ({ frames := 4, cells := y.1.length, slots := wt y.1, locals := 145 })).room s m ([.ref (ad a), .int p0, .long p1, .int p2] : List Value).toArray below meth c H locs (s2.1 : NN).length (wt s2.1) (MQ below (va_Qv (fun (u : Nat → Nat) => agr G.1 ad u) (fun u t => kE D ct u (xt G y.1) A y.2 t) A) ([.ref (ad a), .int p0, .long p1, .int p2] : List Value).toArray s y.1.length (wt y.1) A) (F0 m 183 ls []) := by
          intro H locs ls hP hD hS hl
          refine lv_aload_n hx hb dX10_code_183 rfl (lv_at hl 6 rfl) ?_
          refine va_get (D := D) (ci := 10) (v := va_re ad6 (y42.2.2.2 a 13)) (C := RX10) (T := TX10) (N := 20) hx hb hts (mus hf_X10) hown hK hP a (wld_o ct ad6 (xt G s2.1) y42.2.2 hc hk (by decide)) rfl 13 (by decide) (hts (.fieldLink RX10 20 "VideoSuite$Writer" "state" "[I") (mu mw_752)) (fun _ h9 => h9) rfl dX10_code_184 ?_
          refine lv_iload hx hb dX10_code_187 (lv_at hl 3 rfl) ?_
          refine lv_iload hx hb dX10_code_189 (lv_at hl 2 rfl) ?_
          refine lv_iconst (v := (1 : Int32)) hx hb dX10_code_191 (by decide) ?_
          refine lv_ishl hx hb dX10_code_192 ?_
          obtain ⟨x43, ex43, hF⟩ := ltt_some hF
          refine lv_topi (fun zx43 ezx43 => ?_)
          obtain rfl : x43 = zx43 := ex43.trans ezx43.symm
          refine lv_iload hx hb dX10_code_193 (lv_at hl 1 rfl) ?_
          refine lv_ior hx hb dX10_code_195 ?_
          obtain ⟨x44, ex44, hF⟩ := ltt_some hF
          refine lv_topi (fun zx44 ezx44 => ?_)
          obtain rfl : x44 = zx44 := ex44.trans ezx44.symm
          obtain ⟨b45, ho45, hc45, hk45, hF⟩ := dr_some hF
          refine W_st (st' := [.int x44, .int x27, .ref (ad6 b45)]) (by rw [va_some ho45]) ?_
          obtain ⟨hvc, hF⟩ := chk_some hF
          refine va_iast hx hb hK hP hD hS b45 1 (wld_i ct ad6 (xt G s2.1) y42.2.2 hc45 hk45) rfl hvc dX10_code_196 (fun H locs hP hD hS => ?_)
          obtain ⟨M46, eM46, hF⟩ := ltt_some hF
          rw [set_i ct ad6 (xt G s2.1) y42.2.2 hc45 hk45, ← eM46] at hP hD
          refine lv_aload_n hx hb dX10_code_197 rfl (lv_at hl 6 rfl) ?_
          obtain ⟨y47, hy47, hF⟩ := bnd_some hF
          obtain ⟨w48, hF, ew48⟩ := app_some hF
          obtain ⟨L49, eL49, hF⟩ := ltt_some hF
          have hT49 : L20 = (s2.1 ++ y47.1) ++ w48.1 := by rw [hT, ew48]; simp only [List.append_assoc]
          have hf9 := wA_in hD hA9 hS
          refine va_callv (va_runV (As := []) (rest := []) ⟨hx, hb, hml, hown, hts⟩ (kX10_widen l D ct ad6 Z (xt G s2.1) M46 _ a y47 hc hk hy47) (cwV 0 hts gX10_code_X10_widen rfl rfl rfl (by decide +kernel) ⟨Nat.le_of_ble_eq_true rfl, Nat.le_of_ble_eq_true rfl⟩) ⟨fun a U g mk q => by obtain ⟨q0, q1, qP, qK, qD, qZ, qN⟩ := q; exact ⟨q0, q1, qP, va_K.moved (u := U) (U := U.calling g mk a) (Vm.Alike.refl U.vm) qK, qD, sF.moved (u := U) (U := U.calling g mk a) (Vm.Alike.refl U.vm) qZ, nF.same rfl qN⟩, va_recv hK hP (ci := 10) (q0 := a) rfl (wld_o ct ad6 (xt G s2.1) M46 hc hk (by decide)), fun U hU hW => ⟨rfl, by rw [hU], by rw [hU]; exact hP, va_K.moved hW.alike hK, hD.weaken (fun _ _ _ _ => trivial), by rw [hU]; exact ((hZ.kept hS.2.1).narrow hf9).moved hW.alike, hN.warm hW⟩⟩ rfl rfl hl.1 rfl (lv_room (Nat.le_of_ble_eq_true rfl)) dX10_code_198 (room_s hT49 hbl)) hS (fun q _ h => hf9 q h) hf9 (fun ad50 t H locs ht hvm hw hB hz1 hk1 hS => ?_)
          have hn51 := hw
          obtain ⟨hP, hK9, hD9⟩ := hB
          rw [ht] at hP
          have hD := hD9.weaken (fun _ q _ h => hf9 q.1 h)
          rw [xt_xt, ← eL49] at hP hD
          refine W_cs (k := L49.length) (n := wt L49) (by rw [eL49]; exact (len_s s2.1 y47.1).symm) (by rw [eL49]; exact (wt_app s2.1 y47.1).symm) ?_
          have hT : L20 = L49 ++ w48.1 := by rw [hT49, eL49]
          have h2 : y18.2 = w48.2 := by rw [h2, ew48]
          have hl := lv_sub (l' := [(5, .int s2.2.1), (0, .ref (ad6 a)), (1, .int p0), (2, .long p1), (4, .int p2)]) hl [5, 6, 7, 8, 9] rfl
          have e9 : ([(5, .int s2.2.1), (0, .ref (ad6 a)), (1, .int p0), (2, .long p1), (4, .int p2)] : List (Nat × Value)) = [(5, .int s2.2.1), (0, .ref (ad50 a)), (1, .int p0), (2, .long p1), (4, .int p2)] := (by first | rfl | simp only [hn51 a hc])
          rw [e9] at hl
          clear e9
          have hk : (xt G L49).2.1 a = 10 := by rw [eL49]; exact xt_k _ hc hk
          have hc : a < (xt G L49).1 := by rw [eL49]; exact xt_l _ hc
          have hk28 : (xt G L49).2.1 b28 = 13 := by rw [eL49]; exact xt_k _ hc28 hk28
          have hc28 : b28 < (xt G L49).1 := by rw [eL49]; exact xt_l _ hc28
          have hk45 : (xt G L49).2.1 b45 = 13 := by rw [eL49]; exact xt_k _ hc45 hk45
          have hc45 : b45 < (xt G L49).1 := by rw [eL49]; exact xt_l _ hc45
          have hag := agr_t (xt_ge _ _) hag hn51
          obtain rfl := Option.some.inj hF
          have e1 : L20 = L49 := by rw [hT]; exact List.append_nil _
          have e2 : y18.2 = y47.2 := h2
          rw [e1] at J18
          try rw [e2] at J18
          exact J18 _ hag _ _ _ hP hD hS (lv_sub hl [0, 1, 2, 3, 4] rfl)
        clear hF
        have hF := hy42
        clear hy42
        refine lv_icmp_ne (tgt := 142) hx hb dX10_code_118 (by decide) (fun c52 => ?_) (fun c52 => ?_)
        · rw [if_neg c52] at hF
          refine lv_aload_n hx hb dX10_code_142 rfl (lv_at hl 6 rfl) ?_
          refine lv_dup hx hb dX10_code_143 rfl ?_
          refine va_get (D := D) (ci := 10) (v := .int (M41.1 a 9)) (C := RX10) (T := TX10) (N := 20) hx hb hts (mus hf_X10) hown hK hP a (wld_o ct ad6 (xt G s2.1) M41 hc hk (by decide)) rfl 9 (by decide) (hts (.fieldLink RX10 78 "VideoSuite$Writer" "low" "I") (mu mw_748)) (fun _ h9 => h9) rfl dX10_code_144 ?_
          obtain ⟨x53, ex53, hF⟩ := ltt_some hF
          refine lv_topi (fun zx53 ezx53 => ?_)
          obtain rfl : x53 = zx53 := ex53.trans ezx53.symm
          refine lv_aload_n hx hb dX10_code_147 rfl (lv_at hl 6 rfl) ?_
          refine va_get (D := D) (ci := 10) (v := .int (M41.1 a 10)) (C := RX10) (T := TX10) (N := 20) hx hb hts (mus hf_X10) hown hK hP a (wld_o ct ad6 (xt G s2.1) M41 hc hk (by decide)) rfl 10 (by decide) (hts (.fieldLink RX10 75 "VideoSuite$Writer" "range" "I") (mu mw_749)) (fun _ h9 => h9) rfl dX10_code_148 ?_
          obtain ⟨x54, ex54, hF⟩ := ltt_some hF
          refine lv_topi (fun zx54 ezx54 => ?_)
          obtain rfl : x54 = zx54 := ex54.trans ezx54.symm
          refine lv_iadd hx hb dX10_code_151 ?_
          obtain ⟨x55, ex55, hF⟩ := ltt_some hF
          refine lv_topi (fun zx55 ezx55 => ?_)
          obtain rfl : x55 = zx55 := ex55.trans ezx55.symm
          refine va_put (D := D) (ci := 10) (v := .int x55) (ty := .int) (C := RX10) (T := TX10) (N := 20) hx hb hts (mus hf_X10) tyX10 tyX10_ok nmX10 hown hK hP hD hS a (wld_o ct ad6 (xt G s2.1) M41 hc hk (by decide)) rfl 9 (by decide) (hts (.fieldLink RX10 78 "VideoSuite$Writer" "low" "I") (mu mw_748)) (fun _ h9 => h9) rfl (by decide +kernel) rfl rfl (Nat.le_of_ble_eq_true rfl) dX10_code_152 (fun H locs hP hD hS => ?_)
          obtain ⟨M56, eM56, hF⟩ := ltt_some hF
          rw [set_oI ct ad6 (xt G s2.1) M41 hc hk (by decide) (by rfl), ← eM56] at hP hD
          refine lv_aload_n hx hb dX10_code_155 rfl (lv_at hl 6 rfl) ?_
          refine lv_iload hx hb dX10_code_156 (lv_at hl 0 rfl) ?_
          refine va_put (D := D) (ci := 10) (v := .int x38) (ty := .int) (C := RX10) (T := TX10) (N := 20) hx hb hts (mus hf_X10) tyX10 tyX10_ok nmX10 hown hK hP hD hS a (wld_o ct ad6 (xt G s2.1) M56 hc hk (by decide)) rfl 10 (by decide) (hts (.fieldLink RX10 75 "VideoSuite$Writer" "range" "I") (mu mw_749)) (fun _ h9 => h9) rfl (by decide +kernel) rfl rfl (Nat.le_of_ble_eq_true rfl) dX10_code_158 (fun H locs hP hD hS => ?_)
          obtain ⟨M57, eM57, hF⟩ := ltt_some hF
          rw [set_oI ct ad6 (xt G s2.1) M56 hc hk (by decide) (by rfl), ← eM57] at hP hD
          refine lv_iload hx hb dX10_code_161 (lv_at hl 2 rfl) ?_
          obtain ⟨y58, hy58, hF⟩ := bnd_some hF
          have J58 : ∀ (H : Heap) (locs : List Loc) (ls : Array Slot), va_P D classes (wld ct ad6 (xt G s2.1) M57) H → va_D A (wld ct ad6 (xt G s2.1) M57) → va_S A s.heap H locs → lv_has ls 11 [(10, .int x38), (9, .int x32), (8, .int x30), (7, .int x27), (6, .int x16), (5, .int s2.2.1), (0, .ref (ad6 a)), (1, .int p0), (2, .long p1), (4, .int p2)] → W p l e (headSpec wuX10_code ({ frames := 4, cells := y.1.length, slots := wt y.1, locals := 145 })).room s m ([.ref (ad a), .int p0, .long p1, .int p2] : List Value).toArray below meth c H locs (s2.1 : NN).length (wt s2.1) (MQ below (va_Qv (fun (u : Nat → Nat) => agr G.1 ad u) (fun u t => kE D ct u (xt G y.1) A y.2 t) A) ([.ref (ad a), .int p0, .long p1, .int p2] : List Value).toArray s y.1.length (wt y.1) A) (F0 m 173 ls [.int y58]) := by
            intro H locs ls hP hD hS hl
            refine lv_istore (lv' := [(9, .int y58), (10, .int x38), (8, .int x30), (7, .int x27), (6, .int x16), (5, .int s2.2.1), (0, .ref (ad6 a)), (1, .int p0), (2, .long p1), (4, .int p2)]) hx hb dX10_code_173 hl (by decide) rfl (fun ls hl => ?_)
            refine va_gets hx hb (hZ.1 7 (by decide)).1 hS hown (hts (.fieldLink RX10 81 "VideoSuite$Reader" "DOWN" "[I") (mu mw_1162)) (fun _ h => h) dX10_code_175 ?_
            refine lv_iload hx hb dX10_code_178 (lv_at hl 2 rfl) ?_
            obtain ⟨hvc, hF⟩ := chk_some hF
            refine va_ti (v := .int ((sT 7).getD x30.toNatClampNeg 0)) hx hb (hZ.1 7 (by decide)).2 hS hvc rfl dX10_code_180 ?_
            obtain ⟨x59, ex59, hF⟩ := ltt_some hF
            refine lv_topi (fun zx59 ezx59 => ?_)
            obtain rfl : x59 = zx59 := ex59.trans ezx59.symm
            refine lv_istore (lv' := [(8, .int x59), (9, .int y58), (10, .int x38), (7, .int x27), (6, .int x16), (5, .int s2.2.1), (0, .ref (ad6 a)), (1, .int p0), (2, .long p1), (4, .int p2)]) hx hb dX10_code_181 hl (by decide) rfl (fun ls hl => ?_)
            obtain rfl := Option.some.inj hF
            exact J42 _ _ _ hP hD hS (lv_sub hl [2, 1, 0, 3, 4, 5, 6, 7, 8, 9] rfl)
          clear hF
          have hF := hy58
          clear hy58
          refine lv_if_ne (tgt := 171) hx hb dX10_code_163 (by decide) (fun c60 => ?_) (fun c60 => ?_)
          · rw [if_neg c60] at hF
            refine lv_iload hx hb dX10_code_171 (lv_at hl 1 rfl) ?_
            obtain rfl := Option.some.inj hF
            exact J58 _ _ _ hP hD hS (lv_sub hl [0, 1, 2, 3, 4, 5, 6, 7, 8, 9] rfl)
          · rw [if_pos c60] at hF
            refine lv_iload hx hb dX10_code_166 (lv_at hl 4 rfl) ?_
            refine lv_goto (tgt := 173) hx hb dX10_code_168 (by decide) ?_
            obtain rfl := Option.some.inj hF
            exact J58 _ _ _ hP hD hS (lv_sub hl [0, 1, 2, 3, 4, 5, 6, 7, 8, 9] rfl)
        · rw [if_pos c52] at hF
          refine lv_iload hx hb dX10_code_121 (lv_at hl 2 rfl) ?_
          refine lv_bipush (v := (62 : Int32)) hx hb dX10_code_123 (by decide) ?_
          obtain ⟨y61, hy61, hF⟩ := bnd_some hF
          have J61 : ∀ (H : Heap) (locs : List Loc) (ls : Array Slot), va_P D classes (wld ct ad6 (xt G s2.1) M41) H → va_D A (wld ct ad6 (xt G s2.1) M41) → va_S A s.heap H locs → lv_has ls 11 [(10, .int x38), (9, .int x32), (8, .int x30), (7, .int x27), (6, .int x16), (5, .int s2.2.1), (0, .ref (ad6 a)), (1, .int p0), (2, .long p1), (4, .int p2)] → W p l e (headSpec wuX10_code ({ frames := 4, cells := y.1.length, slots := wt y.1, locals := 145 })).room s m ([.ref (ad a), .int p0, .long p1, .int p2] : List Value).toArray below meth c H locs (s2.1 : NN).length (wt s2.1) (MQ below (va_Qv (fun (u : Nat → Nat) => agr G.1 ad u) (fun u t => kE D ct u (xt G y.1) A y.2 t) A) ([.ref (ad a), .int p0, .long p1, .int p2] : List Value).toArray s y.1.length (wt y.1) A) (F0 m 137 ls [.int y61]) := by
            intro H locs ls hP hD hS hl
            refine lv_istore (lv' := [(8, .int y61), (10, .int x38), (9, .int x32), (7, .int x27), (6, .int x16), (5, .int s2.2.1), (0, .ref (ad6 a)), (1, .int p0), (2, .long p1), (4, .int p2)]) hx hb dX10_code_137 hl (by decide) rfl (fun ls hl => ?_)
            refine lv_goto (tgt := 183) hx hb dX10_code_139 (by decide) ?_
            obtain rfl := Option.some.inj hF
            exact J42 _ _ _ hP hD hS (lv_sub hl [1, 2, 0, 3, 4, 5, 6, 7, 8, 9] rfl)
          clear hF
          have hF := hy61
          clear hy61
          refine lv_icmp_ge (tgt := 135) hx hb dX10_code_125 (by decide) (fun c62 => ?_) (fun c62 => ?_)
          · rw [if_pos c62] at hF
            refine lv_bipush (v := (62 : Int32)) hx hb dX10_code_135 (by decide) ?_
            obtain rfl := Option.some.inj hF
            exact J61 _ _ _ hP hD hS (lv_sub hl [0, 1, 2, 3, 4, 5, 6, 7, 8, 9] rfl)
          · rw [if_neg c62] at hF
            refine lv_iload hx hb dX10_code_128 (lv_at hl 2 rfl) ?_
            refine lv_iconst (v := (1 : Int32)) hx hb dX10_code_130 (by decide) ?_
            refine lv_iadd hx hb dX10_code_131 ?_
            obtain ⟨x63, ex63, hF⟩ := ltt_some hF
            refine lv_topi (fun zx63 ezx63 => ?_)
            obtain rfl : x63 = zx63 := ex63.trans ezx63.symm
            refine lv_goto (tgt := 137) hx hb dX10_code_132 (by decide) ?_
            obtain rfl := Option.some.inj hF
            exact J61 _ _ _ hP hD hS (lv_sub hl [0, 1, 2, 3, 4, 5, 6, 7, 8, 9] rfl)
      clear hF
      have hF := hy26
      clear hy26
      refine lv_icmp_ge (tgt := 56) hx hb dX10_code_48 (by decide) (fun c64 => ?_) (fun c64 => ?_)
      · rw [if_pos c64] at hF
        refine lv_bipush (v := (15 : Int32)) hx hb dX10_code_56 (by decide) ?_
        obtain rfl := Option.some.inj hF
        exact J26 _ _ _ hP hD hS (lv_sub hl [0, 1, 2, 3, 4, 5] rfl)
      · rw [if_neg c64] at hF
        refine lv_iload hx hb dX10_code_51 (lv_at hl 1 rfl) ?_
        refine lv_goto (tgt := 58) hx hb dX10_code_53 (by decide) ?_
        obtain rfl := Option.some.inj hF
        exact J26 _ _ _ hP hD hS (lv_sub hl [0, 1, 2, 3, 4, 5] rfl)
    · rw [if_pos c24] at hF
      refine lv_aload_n hx hb dX10_code_31 rfl (lv_at hl 2 rfl) ?_
      refine lv_iload hx hb dX10_code_32 (lv_at hl 0 rfl) ?_
      obtain ⟨y65, hy65, hF⟩ := bnd_some hF
      obtain ⟨w66, hF, ew66⟩ := app_some hF
      obtain ⟨L67, eL67, hF⟩ := ltt_some hF
      have hT67 : L20 = (s2.1 ++ y65.1) ++ w66.1 := by rw [hT, ew66]; simp only [List.append_assoc]
      have hf9 := wA_in hD hA9 hS
      refine va_callv (va_runV (As := [.int x16]) (rest := []) ⟨hx, hb, hml, hown, hts⟩ (kX10_put l D ct ad6 Z (xt G s2.1) s2.2.2 _ a x16 y65 hc hk hy65) (cwV 1 hts gX10_code_X10_put rfl rfl rfl (by decide +kernel) ⟨Nat.le_of_ble_eq_true rfl, Nat.le_of_ble_eq_true rfl⟩) ⟨fun a U g mk q => by obtain ⟨q0, q1, qP, qK, qD, qZ, qN⟩ := q; exact ⟨q0, q1, qP, va_K.moved (u := U) (U := U.calling g mk a) (Vm.Alike.refl U.vm) qK, qD, sF.moved (u := U) (U := U.calling g mk a) (Vm.Alike.refl U.vm) qZ, nF.same rfl qN⟩, va_recv hK hP (ci := 10) (q0 := a) rfl (wld_o ct ad6 (xt G s2.1) s2.2.2 hc hk (by decide)), fun U hU hW => ⟨rfl, by rw [hU], by rw [hU]; exact hP, va_K.moved hW.alike hK, hD.weaken (fun _ _ _ _ => trivial), by rw [hU]; exact ((hZ.kept hS.2.1).narrow hf9).moved hW.alike, hN.warm hW⟩⟩ rfl rfl hl.1 rfl (lv_room (Nat.le_of_ble_eq_true rfl)) dX10_code_34 (room_s hT67 hbl)) hS (fun q _ h => hf9 q h) hf9 (fun ad68 t H locs ht hvm hw hB hz1 hk1 hS => ?_)
      have hn69 := hw
      obtain ⟨hP, hK9, hD9⟩ := hB
      rw [ht] at hP
      have hD := hD9.weaken (fun _ q _ h => hf9 q.1 h)
      rw [xt_xt, ← eL67] at hP hD
      refine W_cs (k := L67.length) (n := wt L67) (by rw [eL67]; exact (len_s s2.1 y65.1).symm) (by rw [eL67]; exact (wt_app s2.1 y65.1).symm) ?_
      have hT : L20 = L67 ++ w66.1 := by rw [hT67, eL67]
      have h2 : y18.2 = w66.2 := by rw [h2, ew66]
      have hl := lv_sub (l' := [(5, .int s2.2.1), (0, .ref (ad6 a)), (1, .int p0), (2, .long p1), (4, .int p2)]) hl [1, 2, 3, 4, 5] rfl
      have e9 : ([(5, .int s2.2.1), (0, .ref (ad6 a)), (1, .int p0), (2, .long p1), (4, .int p2)] : List (Nat × Value)) = [(5, .int s2.2.1), (0, .ref (ad68 a)), (1, .int p0), (2, .long p1), (4, .int p2)] := (by first | rfl | simp only [hn69 a hc])
      rw [e9] at hl
      clear e9
      have hk : (xt G L67).2.1 a = 10 := by rw [eL67]; exact xt_k _ hc hk
      have hc : a < (xt G L67).1 := by rw [eL67]; exact xt_l _ hc
      have hag := agr_t (xt_ge _ _) hag hn69
      refine lv_goto (tgt := 201) hx hb dX10_code_37 (by decide) ?_
      obtain rfl := Option.some.inj hF
      have e1 : L20 = L67 := by rw [hT]; exact List.append_nil _
      have e2 : y18.2 = y65.2 := h2
      rw [e1] at J18
      try rw [e2] at J18
      exact J18 _ hag _ _ _ hP hD hS (lv_sub hl [0, 1, 2, 3, 4] rfl)
set_option maxRecDepth 20000 in
theorem gX10_fill_X10_put : GoodIn wuX10_fill (wsV RX10 50 RX10 yX10_put wuX10_put) := gu_V mw_1144 mw_1146 mw_26 mw_176 mw_1147
theorem dX10_fill_0 : decode cX10_fill 0 = .ok (.iconst 0, 1) := by decide +kernel
theorem dX10_fill_1 : decode cX10_fill 1 = .ok (.istore_n 2, 1) := by decide +kernel
theorem dX10_fill_2 : decode cX10_fill 2 = .ok (.iload_n 2, 1) := by decide +kernel
theorem dX10_fill_3 : decode cX10_fill 3 = .ok (.bipush 8, 2) := by decide +kernel
theorem dX10_fill_5 : decode cX10_fill 5 = .ok (.if_icmp .ge 21, 3) := by decide +kernel
theorem dX10_fill_8 : decode cX10_fill 8 = .ok (.aload_n 0, 1) := by decide +kernel
theorem dX10_fill_9 : decode cX10_fill 9 = .ok (.getfield 44, 3) := by decide +kernel
theorem dX10_fill_12 : decode cX10_fill 12 = .ok (.ifCond .le 14, 3) := by decide +kernel
theorem dX10_fill_15 : decode cX10_fill 15 = .ok (.aload_n 0, 1) := by decide +kernel
theorem dX10_fill_16 : decode cX10_fill 16 = .ok (.iload_n 1, 1) := by decide +kernel
theorem dX10_fill_17 : decode cX10_fill 17 = .ok (.invokevirtual 50, 3) := by decide +kernel
theorem dX10_fill_20 : decode cX10_fill 20 = .ok (.iinc 2 1, 3) := by decide +kernel
theorem dX10_fill_23 : decode cX10_fill 23 = .ok (.goto (-21), 3) := by decide +kernel
theorem dX10_fill_26 : decode cX10_fill 26 = .ok (.return_, 1) := by decide +kernel
noncomputable def FX10_fill (G : GG) (M : DD) (a : Nat) (p0 : Int32) : Option (NN × DD) :=
  bnd (itrA (fun (s2 : NN × Int32 × DD) => ((if ((8 : Int32)) ≤ s2.2.1 then (some ([], .inr ((s2.2.1, s2.2.2)))) else
  (ltt (s2.2.2.1 a 7) fun x12 =>
  if x12 ≤ ((0 : Int32)) then (some ([], .inr ((s2.2.1, s2.2.2)))) else
  (bnd (FX10_put (xt G s2.1) s2.2.2 a p0) fun y14 =>
  app y14.1 <|
  ltt (s2.1 ++ y14.1) fun L16 =>
  ltt (s2.2.1 + (1 : Int32)) fun x19 =>
  some ([], .inl (L16, (x19, y14.2)))))) : Option (NN × ((NN × Int32 × DD) ⊕ (Int32 × DD))))) 1000000 ([], ((0 : Int32), M))) fun (y1 : NN × Int32 × DD) =>
  app y1.1 <|
  ltt ([] ++ y1.1) fun L4 =>
  some ([], y1.2.2)
set_option maxHeartbeats 4000000 in
set_option maxRecDepth 100000 in
theorem kX10_fill (l : Launch) (D : va_G) (ct : CT) (ad : Nat → Nat) (Z : Nat → Nat) (G : GG) (M : DD) (sz : Nat) (a : Nat) (p0 : Int32) (y : NN × DD) (hc : a < G.1) (hk : G.2.1 a = 10) (hF : FX10_fill G M a p0 = some y) : Met l yX10_fill wuX10_fill ({ frames := 3, cells := y.1.length, slots := wt y.1, locals := 124 }) (va_Pc [.ref (ad a), .int p0] (kB D ct ad Z G M sz)) (va_Qv (fun (u : Nat → Nat) => agr G.1 ad u) (fun u t => kE D ct u (xt G y.1) (wA ad G sz) y.2 t) (wA ad G sz)) y.1.length (wt y.1) (wA ad G sz) := by
  refine Met.ofW (cc := cX10_fill) (maxL := 3) (ret := none) (by decide) rfl ?_
  intro p e s m args below meth c s₁ B hml hv
  obtain ⟨rfl, hsz, hP, hK, hD0, hZ, hN⟩ := hv
  have hx := B.exec
  have hb := B.bytes
  have hr := B.returns
  have hts := atoms_spec (ws := wuX10_fill) B.pre
  have hown : s.vm.findClass RX10 = some m.cls := findClass_of_methodNamed B.named
  have hlocks := B.notSynchronized
  subst hsz
  have hD := wD_self (sz := s.heap.size) hD0
  have hA9 : ∀ q, s.heap.size ≤ q → wA ad G s.heap.size q := fun q h => Or.inr h
  generalize hAe : wA ad G s.heap.size = A at hD hA9 hZ ⊢
  have hS : va_S A s.heap s.heap [] := va_S.rf
  have hl := lv_entry ([.ref (ad a), .int p0]) (n := 3) (Nat.le_of_ble_eq_true rfl)
  rw [lg_entry_eq]
  generalize (lg_sl ([.ref (ad a), .int p0]) ++ List.replicate (3 - (lg_sl ([.ref (ad a), .int p0])).length) Slot.unset).toArray = ls at hl ⊢
  have hl : lv_has ls 3 [(0, .ref (ad a)), (1, .int p0)] := hl
  unfold FX10_fill at hF
  rw [← wld_0 ct ad G M] at hP hD
  have hk := xt_k0 hc hk
  have hc := xt_l0 hc
  have hag := agr_rf G.1 ad
  obtain ⟨w0, hw0⟩ : ∃ z, z = y := ⟨_, rfl⟩
  rw [← hw0] at hF
  have hT : y.1 = [] ++ w0.1 := by rw [hw0]; rfl
  have h2 : y.2 = w0.2 := by rw [hw0]
  have hbl : y.1.length ≤ y.1.length ∧ wt y.1 ≤ wt y.1 := ⟨Nat.le_refl _, Nat.le_refl _⟩
  refine lv_iconst (v := (0 : Int32)) hx hb dX10_fill_0 (by decide) ?_
  refine lv_istore_n (lv' := [(2, .int (0 : Int32)), (0, .ref (ad a)), (1, .int p0)]) hx hb dX10_fill_1 rfl hl (by decide) rfl (fun ls hl => ?_)
  obtain ⟨y1, hy1, hF⟩ := bnd_some hF
  obtain ⟨w3, hF, ew3⟩ := app_some hF
  obtain ⟨L4, eL4, hF⟩ := ltt_some hF
  have hT4 : y.1 = ([] ++ y1.1) ++ w3.1 := by rw [hT, ew3]; simp only [List.append_assoc]
  have hbl4 : L4.length ≤ y.1.length ∧ wt L4 ≤ wt y.1 := by rw [eL4]; exact room_d hT4 hbl
  have K1 : ∀ (ad5 : Nat → Nat), agr G.1 ad ad5 → ∀ (H : Heap) (locs : List Loc) (ls : Array Slot), va_P D classes (wld ct ad5 (xt G L4) y1.2.2) H → va_D A (wld ct ad5 (xt G L4) y1.2.2) → va_S A s.heap H locs → lv_has ls 3 [] → W p l e (headSpec wuX10_fill ({ frames := 3, cells := y.1.length, slots := wt y.1, locals := 124 })).room s m ([.ref (ad a), .int p0] : List Value).toArray below meth c H locs (L4 : NN).length (wt L4) (MQ below (va_Qv (fun (u : Nat → Nat) => agr G.1 ad u) (fun u t => kE D ct u (xt G y.1) A y.2 t) A) ([.ref (ad a), .int p0] : List Value).toArray s y.1.length (wt y.1) A) (F0 m 26 ls []) := by
    intro ad5 hag H locs ls hP hD hS hl
    have hT : y.1 = L4 ++ w3.1 := by rw [hT4, eL4]
    have h2 : y.2 = w3.2 := by rw [h2, ew3]
    have hk : (xt G L4).2.1 a = 10 := by rw [eL4]; exact xt_k _ hc hk
    have hc : a < (xt G L4).1 := by rw [eL4]; exact xt_l _ hc
    obtain rfl := Option.some.inj hF
    have e1 : y.1 = L4 := by rw [hT]; exact List.append_nil _
    have e2 : y.2 = y1.2.2 := h2
    refine W.widen (k := y.1.length) (n := wt y.1) (Nat.le_of_eq (by rw [e1])) (Nat.le_of_eq (by rw [e1])) ?_
    exact W.vret hx hb hr (fun t ht hW => ⟨⟨ad5, rfl, hag, (by unfold kE; rw [e1, e2]; exact ⟨by rw [ht]; exact hP, va_K.moved hW.alike hK, hD⟩)⟩, hS.F ht⟩) hS.2.2 dX10_fill_26
  clear hF
  refine itrA_rule (fun (s2 : NN × Int32 × DD) (r7 : NN) => (∃ t, s2.1 = [] ++ t) → L4 = s2.1 ++ r7 → ∀ (ad6 : Nat → Nat), agr G.1 ad ad6 → ∀ (H : Heap) (locs : List Loc) (ls : Array Slot), va_P D classes (wld ct ad6 (xt G s2.1) s2.2.2) H → va_D A (wld ct ad6 (xt G s2.1) s2.2.2) → va_S A s.heap H locs → lv_has ls 3 [(2, .int s2.2.1), (0, .ref (ad6 a)), (1, .int p0)] → W p l e (headSpec wuX10_fill ({ frames := 3, cells := y.1.length, slots := wt y.1, locals := 124 })).room s m ([.ref (ad a), .int p0] : List Value).toArray below meth c H locs (s2.1 : NN).length (wt s2.1) (MQ below (va_Qv (fun (u : Nat → Nat) => agr G.1 ad u) (fun u t => kE D ct u (xt G y.1) A y.2 t) A) ([.ref (ad a), .int p0] : List Value).toArray s y.1.length (wt y.1) A) (F0 m 2 ls [])) ?_ _ _ _ hy1 ⟨[], (List.append_nil _).symm⟩ eL4 _ hag _ _ _ hP hD hS (lv_sub hl [0, 1, 2] rfl)
  rintro s2 r7 ⟨z8, hF, ⟨t1, et1⟩, hwz8⟩ ⟨u1, eu1⟩ eq1 ad6 hag H locs ls hP hD hS hl
  try dsimp only at hF
  obtain ⟨L9, eL9⟩ : ∃ x, x = s2.1 ++ z8.1 := ⟨_, rfl⟩
  obtain ⟨w10, hw10⟩ : ∃ x, x = z8 := ⟨_, rfl⟩
  rw [← hw10] at hF
  have hbl : L9.length ≤ y.1.length ∧ wt L9 ≤ wt y.1 := room_d (show L4 = L9 ++ t1 by rw [eq1, et1, eL9]; simp only [List.append_assoc]) hbl4
  have hT : L9 = s2.1 ++ w10.1 := by rw [eL9, hw10]
  have h2 : z8.2 = w10.2 := by rw [hw10]
  have hk : (xt G s2.1).2.1 a = 10 := by rw [eu1]; exact xt_k _ hc hk
  have hc : a < (xt G s2.1).1 := by rw [eu1]; exact xt_l _ hc
  refine lv_iload_n hx hb dX10_fill_2 rfl (lv_at hl 0 rfl) ?_
  refine lv_bipush (v := (8 : Int32)) hx hb dX10_fill_3 (by decide) ?_
  refine lv_icmp_ge (tgt := 26) hx hb dX10_fill_5 (by decide) (fun c11 => ?_) (fun c11 => ?_)
  · rw [if_pos c11] at hF
    obtain rfl := Option.some.inj hF
    have e1 : L9 = s2.1 := by rw [hT]; exact List.append_nil _
    have e2 : z8.2 = .inr ((s2.2.1, s2.2.2)) := h2
    rw [e2] at hwz8
    obtain ⟨hw1, hw2⟩ := hwz8
    have e8 : L4 = s2.1 := by rw [eq1, hw2, ← eL9, e1]
    rw [e8] at K1
    try rw [← hw1] at K1
    exact K1 _ hag _ _ _ hP hD hS (lv_sub hl [] rfl)
  · rw [if_neg c11] at hF
    refine lv_aload_n hx hb dX10_fill_8 rfl (lv_at hl 1 rfl) ?_
    refine va_get (D := D) (ci := 10) (v := .int (s2.2.2.1 a 7)) (C := RX10) (T := TX10) (N := 20) hx hb hts (mus hf_X10) hown hK hP a (wld_o ct ad6 (xt G s2.1) s2.2.2 hc hk (by decide)) rfl 7 (by decide) (hts (.fieldLink RX10 44 "VideoSuite$Writer" "heldBits" "I") (mu mw_746)) (fun _ h9 => h9) rfl dX10_fill_9 ?_
    obtain ⟨x12, ex12, hF⟩ := ltt_some hF
    refine lv_topi (fun zx12 ezx12 => ?_)
    obtain rfl : x12 = zx12 := ex12.trans ezx12.symm
    refine lv_if_le (tgt := 26) hx hb dX10_fill_12 (by decide) (fun c13 => ?_) (fun c13 => ?_)
    · rw [if_pos c13] at hF
      obtain rfl := Option.some.inj hF
      have e1 : L9 = s2.1 := by rw [hT]; exact List.append_nil _
      have e2 : z8.2 = .inr ((s2.2.1, s2.2.2)) := h2
      rw [e2] at hwz8
      obtain ⟨hw1, hw2⟩ := hwz8
      have e8 : L4 = s2.1 := by rw [eq1, hw2, ← eL9, e1]
      rw [e8] at K1
      try rw [← hw1] at K1
      exact K1 _ hag _ _ _ hP hD hS (lv_sub hl [] rfl)
    · rw [if_neg c13] at hF
      refine lv_aload_n hx hb dX10_fill_15 rfl (lv_at hl 1 rfl) ?_
      refine lv_iload_n hx hb dX10_fill_16 rfl (lv_at hl 2 rfl) ?_
      obtain ⟨y14, hy14, hF⟩ := bnd_some hF
      obtain ⟨w15, hF, ew15⟩ := app_some hF
      obtain ⟨L16, eL16, hF⟩ := ltt_some hF
      have hT16 : L9 = (s2.1 ++ y14.1) ++ w15.1 := by rw [hT, ew15]; simp only [List.append_assoc]
      have hf9 := wA_in hD hA9 hS
      refine va_callv (va_runV (As := [.int p0]) (rest := []) ⟨hx, hb, hml, hown, hts⟩ (kX10_put l D ct ad6 Z (xt G s2.1) s2.2.2 _ a p0 y14 hc hk hy14) (cwV 1 hts gX10_fill_X10_put rfl rfl rfl (by decide +kernel) ⟨Nat.le_of_ble_eq_true rfl, Nat.le_of_ble_eq_true rfl⟩) ⟨fun a U g mk q => by obtain ⟨q0, q1, qP, qK, qD, qZ, qN⟩ := q; exact ⟨q0, q1, qP, va_K.moved (u := U) (U := U.calling g mk a) (Vm.Alike.refl U.vm) qK, qD, sF.moved (u := U) (U := U.calling g mk a) (Vm.Alike.refl U.vm) qZ, nF.same rfl qN⟩, va_recv hK hP (ci := 10) (q0 := a) rfl (wld_o ct ad6 (xt G s2.1) s2.2.2 hc hk (by decide)), fun U hU hW => ⟨rfl, by rw [hU], by rw [hU]; exact hP, va_K.moved hW.alike hK, hD.weaken (fun _ _ _ _ => trivial), by rw [hU]; exact ((hZ.kept hS.2.1).narrow hf9).moved hW.alike, hN.warm hW⟩⟩ rfl rfl hl.1 rfl (lv_room (Nat.le_of_ble_eq_true rfl)) dX10_fill_17 (room_s hT16 hbl)) hS (fun q _ h => hf9 q h) hf9 (fun ad17 t H locs ht hvm hw hB hz1 hk1 hS => ?_)
      have hn18 := hw
      obtain ⟨hP, hK9, hD9⟩ := hB
      rw [ht] at hP
      have hD := hD9.weaken (fun _ q _ h => hf9 q.1 h)
      rw [xt_xt, ← eL16] at hP hD
      refine W_cs (k := L16.length) (n := wt L16) (by rw [eL16]; exact (len_s s2.1 y14.1).symm) (by rw [eL16]; exact (wt_app s2.1 y14.1).symm) ?_
      have hT : L9 = L16 ++ w15.1 := by rw [hT16, eL16]
      have h2 : z8.2 = w15.2 := by rw [h2, ew15]
      have hl := lv_sub (l' := [(2, .int s2.2.1), (0, .ref (ad6 a)), (1, .int p0)]) hl [0, 1, 2] rfl
      have e9 : ([(2, .int s2.2.1), (0, .ref (ad6 a)), (1, .int p0)] : List (Nat × Value)) = [(2, .int s2.2.1), (0, .ref (ad17 a)), (1, .int p0)] := (by first | rfl | simp only [hn18 a hc])
      rw [e9] at hl
      clear e9
      have hk : (xt G L16).2.1 a = 10 := by rw [eL16]; exact xt_k _ hc hk
      have hc : a < (xt G L16).1 := by rw [eL16]; exact xt_l _ hc
      have hag := agr_t (xt_ge _ _) hag hn18
      obtain ⟨x19, ex19, hF⟩ := ltt_some hF
      refine lv_iinc (v := x19) (lv' := [(2, .int x19), (0, .ref (ad17 a)), (1, .int p0)]) hx hb dX10_fill_20 hl (k := 0) rfl (by rw [ex19]; rfl) (by decide) rfl (fun ls hl => ?_)
      refine lv_goto (tgt := 2) hx hb dX10_fill_23 (by decide) ?_
      obtain rfl := Option.some.inj hF
      have e1 : L9 = L16 := by rw [hT]; exact List.append_nil _
      have e2 : z8.2 = .inl (L16, (x19, y14.2)) := h2
      rw [e2] at hwz8
      obtain ⟨r2, er2, hwz8⟩ := hwz8
      exact hwz8 ⟨u1 ++ z8.1, by show L16 = _; rw [← e1, eL9, eu1]; simp only [List.append_assoc]⟩ (by show L4 = L16 ++ r2; rw [eq1, er2, ← e1, eL9]; simp only [List.append_assoc]) _ hag _ _ _ hP hD hS (lv_sub hl [0, 1, 2] rfl)
set_option maxRecDepth 20000 in
theorem gX10_last_X10_widen : GoodIn wuX10_last (wsV RX10 84 RX10 yX10_widen wuX10_widen) := gu_V mw_1164 mw_1166 mw_27 mw_176 mw_1167
set_option maxRecDepth 20000 in
set_option maxRecDepth 20000 in
theorem gX10_last_X10_put : GoodIn wuX10_last (wsV RX10 50 RX10 yX10_put wuX10_put) := gu_V mw_1144 mw_1146 mw_26 mw_176 mw_1147
theorem dX10_last_0 : decode cX10_last 0 = .ok (.aload_n 0, 1) := by decide +kernel
theorem dX10_last_1 : decode cX10_last 1 = .ok (.dup, 1) := by decide +kernel
theorem dX10_last_2 : decode cX10_last 2 = .ok (.getfield 75, 3) := by decide +kernel
theorem dX10_last_5 : decode cX10_last 5 = .ok (.iconst 2, 1) := by decide +kernel
theorem dX10_last_6 : decode cX10_last 6 = .ok (.isub, 1) := by decide +kernel
theorem dX10_last_7 : decode cX10_last 7 = .ok (.putfield 75, 3) := by decide +kernel
theorem dX10_last_10 : decode cX10_last 10 = .ok (.iload_n 1, 1) := by decide +kernel
theorem dX10_last_11 : decode cX10_last 11 = .ok (.ifCond .eq 21, 3) := by decide +kernel
theorem dX10_last_14 : decode cX10_last 14 = .ok (.aload_n 0, 1) := by decide +kernel
theorem dX10_last_15 : decode cX10_last 15 = .ok (.dup, 1) := by decide +kernel
theorem dX10_last_16 : decode cX10_last 16 = .ok (.getfield 78, 3) := by decide +kernel
theorem dX10_last_19 : decode cX10_last 19 = .ok (.aload_n 0, 1) := by decide +kernel
theorem dX10_last_20 : decode cX10_last 20 = .ok (.getfield 75, 3) := by decide +kernel
theorem dX10_last_23 : decode cX10_last 23 = .ok (.iadd, 1) := by decide +kernel
theorem dX10_last_24 : decode cX10_last 24 = .ok (.putfield 78, 3) := by decide +kernel
theorem dX10_last_27 : decode cX10_last 27 = .ok (.aload_n 0, 1) := by decide +kernel
theorem dX10_last_28 : decode cX10_last 28 = .ok (.iconst 2, 1) := by decide +kernel
theorem dX10_last_29 : decode cX10_last 29 = .ok (.putfield 75, 3) := by decide +kernel
theorem dX10_last_32 : decode cX10_last 32 = .ok (.aload_n 0, 1) := by decide +kernel
theorem dX10_last_33 : decode cX10_last 33 = .ok (.invokevirtual 84, 3) := by decide +kernel
theorem dX10_last_36 : decode cX10_last 36 = .ok (.iload_n 1, 1) := by decide +kernel
theorem dX10_last_37 : decode cX10_last 37 = .ok (.ifCond .eq 39, 3) := by decide +kernel
theorem dX10_last_40 : decode cX10_last 40 = .ok (.aload_n 0, 1) := by decide +kernel
theorem dX10_last_41 : decode cX10_last 41 = .ok (.aload_n 0, 1) := by decide +kernel
theorem dX10_last_42 : decode cX10_last 42 = .ok (.getfield 78, 3) := by decide +kernel
theorem dX10_last_45 : decode cX10_last 45 = .ok (.bipush 9, 2) := by decide +kernel
theorem dX10_last_47 : decode cX10_last 47 = .ok (.ishr, 1) := by decide +kernel
theorem dX10_last_48 : decode cX10_last 48 = .ok (.iconst 1, 1) := by decide +kernel
theorem dX10_last_49 : decode cX10_last 49 = .ok (.iand, 1) := by decide +kernel
theorem dX10_last_50 : decode cX10_last 50 = .ok (.invokevirtual 50, 3) := by decide +kernel
theorem dX10_last_53 : decode cX10_last 53 = .ok (.aload_n 0, 1) := by decide +kernel
theorem dX10_last_54 : decode cX10_last 54 = .ok (.aload_n 0, 1) := by decide +kernel
theorem dX10_last_55 : decode cX10_last 55 = .ok (.getfield 78, 3) := by decide +kernel
theorem dX10_last_58 : decode cX10_last 58 = .ok (.bipush 8, 2) := by decide +kernel
theorem dX10_last_60 : decode cX10_last 60 = .ok (.ishr, 1) := by decide +kernel
theorem dX10_last_61 : decode cX10_last 61 = .ok (.iconst 1, 1) := by decide +kernel
theorem dX10_last_62 : decode cX10_last 62 = .ok (.iand, 1) := by decide +kernel
theorem dX10_last_63 : decode cX10_last 63 = .ok (.invokevirtual 50, 3) := by decide +kernel
theorem dX10_last_66 : decode cX10_last 66 = .ok (.aload_n 0, 1) := by decide +kernel
theorem dX10_last_67 : decode cX10_last 67 = .ok (.iconst 1, 1) := by decide +kernel
theorem dX10_last_68 : decode cX10_last 68 = .ok (.invokevirtual 50, 3) := by decide +kernel
theorem dX10_last_71 : decode cX10_last 71 = .ok (.aload_n 0, 1) := by decide +kernel
theorem dX10_last_72 : decode cX10_last 72 = .ok (.iconst 0, 1) := by decide +kernel
theorem dX10_last_73 : decode cX10_last 73 = .ok (.putfield 30, 3) := by decide +kernel
theorem dX10_last_76 : decode cX10_last 76 = .ok (.return_, 1) := by decide +kernel
noncomputable def FX10_last (G : GG) (M : DD) (a : Nat) (p0 : Int32) : Option (NN × DD) :=
  ltt (M.1 a 10) fun x1 =>
  ltt ((x1 - ((2 : Int32)))) fun x2 =>
  ltt (uI M a 10 x2) fun M3 =>
  bnd (if p0 = ((0 : Int32)) then (some (M3)) else
  (ltt (M3.1 a 9) fun x39 =>
  ltt (M3.1 a 10) fun x40 =>
  ltt ((x39 + x40)) fun x41 =>
  ltt (uI M3 a 9 x41) fun M42 =>
  ltt (uI M42 a 10 ((2 : Int32))) fun M43 =>
  some (M43))) fun (y4 : DD) =>
  bnd (FX10_widen (xt G []) y4 a) fun y5 =>
  app y5.1 <|
  ltt ([] ++ y5.1) fun L7 =>
  bnd (if p0 = ((0 : Int32)) then (some ([], y5.2)) else
  (ltt (y5.2.1 a 9) fun x16 =>
  ltt ((x16 >>> (((9 : Int32)) &&& 31))) fun x17 =>
  ltt ((x17 &&& ((1 : Int32)))) fun x18 =>
  bnd (FX10_put (xt G L7) y5.2 a x18) fun y19 =>
  app y19.1 <|
  ltt (L7 ++ y19.1) fun L21 =>
  ltt (y19.2.1 a 9) fun x24 =>
  ltt ((x24 >>> (((8 : Int32)) &&& 31))) fun x25 =>
  ltt ((x25 &&& ((1 : Int32)))) fun x26 =>
  bnd (FX10_put (xt G L21) y19.2 a x26) fun y27 =>
  app y27.1 <|
  ltt (L21 ++ y27.1) fun L29 =>
  bnd (FX10_put (xt G L29) y27.2 a ((1 : Int32))) fun y32 =>
  app y32.1 <|
  ltt (L29 ++ y32.1) fun L34 =>
  chk (((0 : Int32)) = 0 ∨ ((0 : Int32)) = 1) <|
  ltt (uI y32.2 a 8 ((0 : Int32))) fun M37 =>
  some ([], M37))) fun (y10 : NN × DD) =>
  app y10.1 <|
  ltt (L7 ++ y10.1) fun L12 =>
  some ([], y10.2)
set_option maxHeartbeats 4000000 in
set_option maxRecDepth 100000 in
theorem kX10_last (l : Launch) (D : va_G) (ct : CT) (ad : Nat → Nat) (Z : Nat → Nat) (G : GG) (M : DD) (sz : Nat) (a : Nat) (p0 : Int32) (y : NN × DD) (hc : a < G.1) (hk : G.2.1 a = 10) (hF : FX10_last G M a p0 = some y) : Met l yX10_last wuX10_last ({ frames := 4, cells := y.1.length, slots := wt y.1, locals := 145 }) (va_Pc [.ref (ad a), .int p0] (kB D ct ad Z G M sz)) (va_Qv (fun (u : Nat → Nat) => agr G.1 ad u) (fun u t => kE D ct u (xt G y.1) (wA ad G sz) y.2 t) (wA ad G sz)) y.1.length (wt y.1) (wA ad G sz) := by
  refine Met.ofW (cc := cX10_last) (maxL := 2) (ret := none) (by decide) rfl ?_
  intro p e s m args below meth c s₁ B hml hv
  obtain ⟨rfl, hsz, hP, hK, hD0, hZ, hN⟩ := hv
  have hx := B.exec
  have hb := B.bytes
  have hr := B.returns
  have hts := atoms_spec (ws := wuX10_last) B.pre
  have hown : s.vm.findClass RX10 = some m.cls := findClass_of_methodNamed B.named
  have hlocks := B.notSynchronized
  subst hsz
  have hD := wD_self (sz := s.heap.size) hD0
  have hA9 : ∀ q, s.heap.size ≤ q → wA ad G s.heap.size q := fun q h => Or.inr h
  generalize hAe : wA ad G s.heap.size = A at hD hA9 hZ ⊢
  have hS : va_S A s.heap s.heap [] := va_S.rf
  have hl := lv_entry ([.ref (ad a), .int p0]) (n := 2) (Nat.le_of_ble_eq_true rfl)
  rw [lg_entry_eq]
  generalize (lg_sl ([.ref (ad a), .int p0]) ++ List.replicate (2 - (lg_sl ([.ref (ad a), .int p0])).length) Slot.unset).toArray = ls at hl ⊢
  have hl : lv_has ls 2 [(0, .ref (ad a)), (1, .int p0)] := hl
  unfold FX10_last at hF
  rw [← wld_0 ct ad G M] at hP hD
  have hk := xt_k0 hc hk
  have hc := xt_l0 hc
  have hag := agr_rf G.1 ad
  obtain ⟨w0, hw0⟩ : ∃ z, z = y := ⟨_, rfl⟩
  rw [← hw0] at hF
  have hT : y.1 = [] ++ w0.1 := by rw [hw0]; rfl
  have h2 : y.2 = w0.2 := by rw [hw0]
  have hbl : y.1.length ≤ y.1.length ∧ wt y.1 ≤ wt y.1 := ⟨Nat.le_refl _, Nat.le_refl _⟩
  refine lv_aload_n hx hb dX10_last_0 rfl (lv_at hl 0 rfl) ?_
  refine lv_dup hx hb dX10_last_1 rfl ?_
  refine va_get (D := D) (ci := 10) (v := .int (M.1 a 10)) (C := RX10) (T := TX10) (N := 20) hx hb hts (mus hf_X10) hown hK hP a (wld_o ct ad (xt G []) M hc hk (by decide)) rfl 10 (by decide) (hts (.fieldLink RX10 75 "VideoSuite$Writer" "range" "I") (mu mw_749)) (fun _ h9 => h9) rfl dX10_last_2 ?_
  obtain ⟨x1, ex1, hF⟩ := ltt_some hF
  refine lv_topi (fun zx1 ezx1 => ?_)
  obtain rfl : x1 = zx1 := ex1.trans ezx1.symm
  refine lv_iconst (v := (2 : Int32)) hx hb dX10_last_5 (by decide) ?_
  refine lv_isub hx hb dX10_last_6 ?_
  obtain ⟨x2, ex2, hF⟩ := ltt_some hF
  refine lv_topi (fun zx2 ezx2 => ?_)
  obtain rfl : x2 = zx2 := ex2.trans ezx2.symm
  refine va_put (D := D) (ci := 10) (v := .int x2) (ty := .int) (C := RX10) (T := TX10) (N := 20) hx hb hts (mus hf_X10) tyX10 tyX10_ok nmX10 hown hK hP hD hS a (wld_o ct ad (xt G []) M hc hk (by decide)) rfl 10 (by decide) (hts (.fieldLink RX10 75 "VideoSuite$Writer" "range" "I") (mu mw_749)) (fun _ h9 => h9) rfl (by decide +kernel) rfl rfl (Nat.le_of_ble_eq_true rfl) dX10_last_7 (fun H locs hP hD hS => ?_)
  obtain ⟨M3, eM3, hF⟩ := ltt_some hF
  rw [set_oI ct ad (xt G []) M hc hk (by decide) (by rfl), ← eM3] at hP hD
  refine lv_iload_n hx hb dX10_last_10 rfl (lv_at hl 1 rfl) ?_
  obtain ⟨y4, hy4, hF⟩ := bnd_some hF
  have J4 : ∀ (H : Heap) (locs : List Loc) (ls : Array Slot), va_P D classes (wld ct ad (xt G []) y4) H → va_D A (wld ct ad (xt G []) y4) → va_S A s.heap H locs → lv_has ls 2 [(0, .ref (ad a)), (1, .int p0)] → W p l e (headSpec wuX10_last ({ frames := 4, cells := y.1.length, slots := wt y.1, locals := 145 })).room s m ([.ref (ad a), .int p0] : List Value).toArray below meth c H locs ([] : NN).length (wt []) (MQ below (va_Qv (fun (u : Nat → Nat) => agr G.1 ad u) (fun u t => kE D ct u (xt G y.1) A y.2 t) A) ([.ref (ad a), .int p0] : List Value).toArray s y.1.length (wt y.1) A) (F0 m 32 ls []) := by
    intro H locs ls hP hD hS hl
    refine lv_aload_n hx hb dX10_last_32 rfl (lv_at hl 0 rfl) ?_
    obtain ⟨y5, hy5, hF⟩ := bnd_some hF
    obtain ⟨w6, hF, ew6⟩ := app_some hF
    obtain ⟨L7, eL7, hF⟩ := ltt_some hF
    have hT7 : y.1 = ([] ++ y5.1) ++ w6.1 := by rw [hT, ew6]; simp only [List.append_assoc]
    have hf9 := wA_in hD hA9 hS
    refine va_callv (va_runV (As := []) (rest := []) ⟨hx, hb, hml, hown, hts⟩ (kX10_widen l D ct ad Z (xt G []) y4 _ a y5 hc hk hy5) (cwV 0 hts gX10_last_X10_widen rfl rfl rfl (by decide +kernel) ⟨Nat.le_of_ble_eq_true rfl, Nat.le_of_ble_eq_true rfl⟩) ⟨fun a U g mk q => by obtain ⟨q0, q1, qP, qK, qD, qZ, qN⟩ := q; exact ⟨q0, q1, qP, va_K.moved (u := U) (U := U.calling g mk a) (Vm.Alike.refl U.vm) qK, qD, sF.moved (u := U) (U := U.calling g mk a) (Vm.Alike.refl U.vm) qZ, nF.same rfl qN⟩, va_recv hK hP (ci := 10) (q0 := a) rfl (wld_o ct ad (xt G []) y4 hc hk (by decide)), fun U hU hW => ⟨rfl, by rw [hU], by rw [hU]; exact hP, va_K.moved hW.alike hK, hD.weaken (fun _ _ _ _ => trivial), by rw [hU]; exact ((hZ.kept hS.2.1).narrow hf9).moved hW.alike, hN.warm hW⟩⟩ rfl rfl hl.1 rfl (lv_room (Nat.le_of_ble_eq_true rfl)) dX10_last_33 (room_s hT7 hbl)) hS (fun q _ h => hf9 q h) hf9 (fun ad8 t H locs ht hvm hw hB hz1 hk1 hS => ?_)
    have hn9 := hw
    obtain ⟨hP, hK9, hD9⟩ := hB
    rw [ht] at hP
    have hD := hD9.weaken (fun _ q _ h => hf9 q.1 h)
    rw [xt_xt, ← eL7] at hP hD
    refine W_cs (k := L7.length) (n := wt L7) (by rw [eL7]; exact (len_s [] y5.1).symm) (by rw [eL7]; exact (wt_app [] y5.1).symm) ?_
    have hT : y.1 = L7 ++ w6.1 := by rw [hT7, eL7]
    have h2 : y.2 = w6.2 := by rw [h2, ew6]
    have hl := lv_sub (l' := [(0, .ref (ad a)), (1, .int p0)]) hl [0, 1] rfl
    have e9 : ([(0, .ref (ad a)), (1, .int p0)] : List (Nat × Value)) = [(0, .ref (ad8 a)), (1, .int p0)] := (by first | rfl | simp only [hn9 a hc])
    rw [e9] at hl
    clear e9
    have hk : (xt G L7).2.1 a = 10 := by rw [eL7]; exact xt_k _ hc hk
    have hc : a < (xt G L7).1 := by rw [eL7]; exact xt_l _ hc
    have hag := agr_t (xt_ge _ _) hag hn9
    refine lv_iload_n hx hb dX10_last_36 rfl (lv_at hl 1 rfl) ?_
    obtain ⟨y10, hy10, hF⟩ := bnd_some hF
    obtain ⟨w11, hF, ew11⟩ := app_some hF
    obtain ⟨L12, eL12, hF⟩ := ltt_some hF
    have hT12 : y.1 = (L7 ++ y10.1) ++ w11.1 := by rw [hT, ew11]; simp only [List.append_assoc]
    have hbl12 : L12.length ≤ y.1.length ∧ wt L12 ≤ wt y.1 := by rw [eL12]; exact room_d hT12 hbl
    have J10 : ∀ (ad13 : Nat → Nat), agr G.1 ad ad13 → ∀ (H : Heap) (locs : List Loc) (ls : Array Slot), va_P D classes (wld ct ad13 (xt G L12) y10.2) H → va_D A (wld ct ad13 (xt G L12) y10.2) → va_S A s.heap H locs → lv_has ls 2 [] → W p l e (headSpec wuX10_last ({ frames := 4, cells := y.1.length, slots := wt y.1, locals := 145 })).room s m ([.ref (ad a), .int p0] : List Value).toArray below meth c H locs (L12 : NN).length (wt L12) (MQ below (va_Qv (fun (u : Nat → Nat) => agr G.1 ad u) (fun u t => kE D ct u (xt G y.1) A y.2 t) A) ([.ref (ad a), .int p0] : List Value).toArray s y.1.length (wt y.1) A) (F0 m 76 ls []) := by
      intro ad13 hag H locs ls hP hD hS hl
      have hT : y.1 = L12 ++ w11.1 := by rw [hT12, eL12]
      have h2 : y.2 = w11.2 := by rw [h2, ew11]
      have hk : (xt G L12).2.1 a = 10 := by rw [eL12]; exact xt_k _ hc hk
      have hc : a < (xt G L12).1 := by rw [eL12]; exact xt_l _ hc
      obtain rfl := Option.some.inj hF
      have e1 : y.1 = L12 := by rw [hT]; exact List.append_nil _
      have e2 : y.2 = y10.2 := h2
      refine W.widen (k := y.1.length) (n := wt y.1) (Nat.le_of_eq (by rw [e1])) (Nat.le_of_eq (by rw [e1])) ?_
      exact W.vret hx hb hr (fun t ht hW => ⟨⟨ad13, rfl, hag, (by unfold kE; rw [e1, e2]; exact ⟨by rw [ht]; exact hP, va_K.moved hW.alike hK, hD⟩)⟩, hS.F ht⟩) hS.2.2 dX10_last_76
    clear hF
    obtain ⟨w14, hw14⟩ : ∃ z, z = y10 := ⟨_, rfl⟩
    have hF := hy10
    rw [← hw14] at hF
    clear hy10
    have hT : L12 = L7 ++ w14.1 := by rw [eL12, hw14]
    have h2 : y10.2 = w14.2 := by rw [hw14]
    have hbl := hbl12
    refine lv_if_eq (tgt := 76) hx hb dX10_last_37 (by decide) (fun c15 => ?_) (fun c15 => ?_)
    · rw [if_pos c15] at hF
      obtain rfl := Option.some.inj hF
      have e1 : L12 = L7 := by rw [hT]; exact List.append_nil _
      have e2 : y10.2 = y5.2 := h2
      rw [e1] at J10
      try rw [e2] at J10
      exact J10 _ hag _ _ _ hP hD hS (lv_sub hl [] rfl)
    · rw [if_neg c15] at hF
      refine lv_aload_n hx hb dX10_last_40 rfl (lv_at hl 0 rfl) ?_
      refine lv_aload_n hx hb dX10_last_41 rfl (lv_at hl 0 rfl) ?_
      refine va_get (D := D) (ci := 10) (v := .int (y5.2.1 a 9)) (C := RX10) (T := TX10) (N := 20) hx hb hts (mus hf_X10) hown hK hP a (wld_o ct ad8 (xt G L7) y5.2 hc hk (by decide)) rfl 9 (by decide) (hts (.fieldLink RX10 78 "VideoSuite$Writer" "low" "I") (mu mw_748)) (fun _ h9 => h9) rfl dX10_last_42 ?_
      obtain ⟨x16, ex16, hF⟩ := ltt_some hF
      refine lv_topi (fun zx16 ezx16 => ?_)
      obtain rfl : x16 = zx16 := ex16.trans ezx16.symm
      refine lv_bipush (v := (9 : Int32)) hx hb dX10_last_45 (by decide) ?_
      refine lv_ishr hx hb dX10_last_47 ?_
      obtain ⟨x17, ex17, hF⟩ := ltt_some hF
      refine lv_topi (fun zx17 ezx17 => ?_)
      obtain rfl : x17 = zx17 := ex17.trans ezx17.symm
      refine lv_iconst (v := (1 : Int32)) hx hb dX10_last_48 (by decide) ?_
      refine lv_iand hx hb dX10_last_49 ?_
      obtain ⟨x18, ex18, hF⟩ := ltt_some hF
      refine lv_topi (fun zx18 ezx18 => ?_)
      obtain rfl : x18 = zx18 := ex18.trans ezx18.symm
      obtain ⟨y19, hy19, hF⟩ := bnd_some hF
      obtain ⟨w20, hF, ew20⟩ := app_some hF
      obtain ⟨L21, eL21, hF⟩ := ltt_some hF
      have hT21 : L12 = (L7 ++ y19.1) ++ w20.1 := by rw [hT, ew20]; simp only [List.append_assoc]
      have hf9 := wA_in hD hA9 hS
      refine va_callv (va_runV (As := [.int x18]) (rest := []) ⟨hx, hb, hml, hown, hts⟩ (kX10_put l D ct ad8 Z (xt G L7) y5.2 _ a x18 y19 hc hk hy19) (cwV 1 hts gX10_last_X10_put rfl rfl rfl (by decide +kernel) ⟨Nat.le_of_ble_eq_true rfl, Nat.le_of_ble_eq_true rfl⟩) ⟨fun a U g mk q => by obtain ⟨q0, q1, qP, qK, qD, qZ, qN⟩ := q; exact ⟨q0, q1, qP, va_K.moved (u := U) (U := U.calling g mk a) (Vm.Alike.refl U.vm) qK, qD, sF.moved (u := U) (U := U.calling g mk a) (Vm.Alike.refl U.vm) qZ, nF.same rfl qN⟩, va_recv hK hP (ci := 10) (q0 := a) rfl (wld_o ct ad8 (xt G L7) y5.2 hc hk (by decide)), fun U hU hW => ⟨rfl, by rw [hU], by rw [hU]; exact hP, va_K.moved hW.alike hK, hD.weaken (fun _ _ _ _ => trivial), by rw [hU]; exact ((hZ.kept hS.2.1).narrow hf9).moved hW.alike, hN.warm hW⟩⟩ rfl rfl hl.1 rfl (lv_room (Nat.le_of_ble_eq_true rfl)) dX10_last_50 (room_s hT21 hbl)) hS (fun q _ h => hf9 q h) hf9 (fun ad22 t H locs ht hvm hw hB hz1 hk1 hS => ?_)
      have hn23 := hw
      obtain ⟨hP, hK9, hD9⟩ := hB
      rw [ht] at hP
      have hD := hD9.weaken (fun _ q _ h => hf9 q.1 h)
      rw [xt_xt, ← eL21] at hP hD
      refine W_cs (k := L21.length) (n := wt L21) (by rw [eL21]; exact (len_s L7 y19.1).symm) (by rw [eL21]; exact (wt_app L7 y19.1).symm) ?_
      have hT : L12 = L21 ++ w20.1 := by rw [hT21, eL21]
      have h2 : y10.2 = w20.2 := by rw [h2, ew20]
      have hl := lv_sub (l' := [(0, .ref (ad8 a))]) hl [0] rfl
      have e9 : ([(0, .ref (ad8 a))] : List (Nat × Value)) = [(0, .ref (ad22 a))] := (by first | rfl | simp only [hn23 a hc])
      rw [e9] at hl
      clear e9
      have hk : (xt G L21).2.1 a = 10 := by rw [eL21]; exact xt_k _ hc hk
      have hc : a < (xt G L21).1 := by rw [eL21]; exact xt_l _ hc
      have hag := agr_t (xt_ge _ _) hag hn23
      refine lv_aload_n hx hb dX10_last_53 rfl (lv_at hl 0 rfl) ?_
      refine lv_aload_n hx hb dX10_last_54 rfl (lv_at hl 0 rfl) ?_
      refine va_get (D := D) (ci := 10) (v := .int (y19.2.1 a 9)) (C := RX10) (T := TX10) (N := 20) hx hb hts (mus hf_X10) hown hK hP a (wld_o ct ad22 (xt G L21) y19.2 hc hk (by decide)) rfl 9 (by decide) (hts (.fieldLink RX10 78 "VideoSuite$Writer" "low" "I") (mu mw_748)) (fun _ h9 => h9) rfl dX10_last_55 ?_
      obtain ⟨x24, ex24, hF⟩ := ltt_some hF
      refine lv_topi (fun zx24 ezx24 => ?_)
      obtain rfl : x24 = zx24 := ex24.trans ezx24.symm
      refine lv_bipush (v := (8 : Int32)) hx hb dX10_last_58 (by decide) ?_
      refine lv_ishr hx hb dX10_last_60 ?_
      obtain ⟨x25, ex25, hF⟩ := ltt_some hF
      refine lv_topi (fun zx25 ezx25 => ?_)
      obtain rfl : x25 = zx25 := ex25.trans ezx25.symm
      refine lv_iconst (v := (1 : Int32)) hx hb dX10_last_61 (by decide) ?_
      refine lv_iand hx hb dX10_last_62 ?_
      obtain ⟨x26, ex26, hF⟩ := ltt_some hF
      refine lv_topi (fun zx26 ezx26 => ?_)
      obtain rfl : x26 = zx26 := ex26.trans ezx26.symm
      obtain ⟨y27, hy27, hF⟩ := bnd_some hF
      obtain ⟨w28, hF, ew28⟩ := app_some hF
      obtain ⟨L29, eL29, hF⟩ := ltt_some hF
      have hT29 : L12 = (L21 ++ y27.1) ++ w28.1 := by rw [hT, ew28]; simp only [List.append_assoc]
      have hf9 := wA_in hD hA9 hS
      refine va_callv (va_runV (As := [.int x26]) (rest := []) ⟨hx, hb, hml, hown, hts⟩ (kX10_put l D ct ad22 Z (xt G L21) y19.2 _ a x26 y27 hc hk hy27) (cwV 1 hts gX10_last_X10_put rfl rfl rfl (by decide +kernel) ⟨Nat.le_of_ble_eq_true rfl, Nat.le_of_ble_eq_true rfl⟩) ⟨fun a U g mk q => by obtain ⟨q0, q1, qP, qK, qD, qZ, qN⟩ := q; exact ⟨q0, q1, qP, va_K.moved (u := U) (U := U.calling g mk a) (Vm.Alike.refl U.vm) qK, qD, sF.moved (u := U) (U := U.calling g mk a) (Vm.Alike.refl U.vm) qZ, nF.same rfl qN⟩, va_recv hK hP (ci := 10) (q0 := a) rfl (wld_o ct ad22 (xt G L21) y19.2 hc hk (by decide)), fun U hU hW => ⟨rfl, by rw [hU], by rw [hU]; exact hP, va_K.moved hW.alike hK, hD.weaken (fun _ _ _ _ => trivial), by rw [hU]; exact ((hZ.kept hS.2.1).narrow hf9).moved hW.alike, hN.warm hW⟩⟩ rfl rfl hl.1 rfl (lv_room (Nat.le_of_ble_eq_true rfl)) dX10_last_63 (room_s hT29 hbl)) hS (fun q _ h => hf9 q h) hf9 (fun ad30 t H locs ht hvm hw hB hz1 hk1 hS => ?_)
      have hn31 := hw
      obtain ⟨hP, hK9, hD9⟩ := hB
      rw [ht] at hP
      have hD := hD9.weaken (fun _ q _ h => hf9 q.1 h)
      rw [xt_xt, ← eL29] at hP hD
      refine W_cs (k := L29.length) (n := wt L29) (by rw [eL29]; exact (len_s L21 y27.1).symm) (by rw [eL29]; exact (wt_app L21 y27.1).symm) ?_
      have hT : L12 = L29 ++ w28.1 := by rw [hT29, eL29]
      have h2 : y10.2 = w28.2 := by rw [h2, ew28]
      have hl := lv_sub (l' := [(0, .ref (ad22 a))]) hl [0] rfl
      have e9 : ([(0, .ref (ad22 a))] : List (Nat × Value)) = [(0, .ref (ad30 a))] := (by first | rfl | simp only [hn31 a hc])
      rw [e9] at hl
      clear e9
      have hk : (xt G L29).2.1 a = 10 := by rw [eL29]; exact xt_k _ hc hk
      have hc : a < (xt G L29).1 := by rw [eL29]; exact xt_l _ hc
      have hag := agr_t (xt_ge _ _) hag hn31
      refine lv_aload_n hx hb dX10_last_66 rfl (lv_at hl 0 rfl) ?_
      refine lv_iconst (v := (1 : Int32)) hx hb dX10_last_67 (by decide) ?_
      obtain ⟨y32, hy32, hF⟩ := bnd_some hF
      obtain ⟨w33, hF, ew33⟩ := app_some hF
      obtain ⟨L34, eL34, hF⟩ := ltt_some hF
      have hT34 : L12 = (L29 ++ y32.1) ++ w33.1 := by rw [hT, ew33]; simp only [List.append_assoc]
      have hf9 := wA_in hD hA9 hS
      refine va_callv (va_runV (As := [.int (1 : Int32)]) (rest := []) ⟨hx, hb, hml, hown, hts⟩ (kX10_put l D ct ad30 Z (xt G L29) y27.2 _ a ((1 : Int32)) y32 hc hk hy32) (cwV 1 hts gX10_last_X10_put rfl rfl rfl (by decide +kernel) ⟨Nat.le_of_ble_eq_true rfl, Nat.le_of_ble_eq_true rfl⟩) ⟨fun a U g mk q => by obtain ⟨q0, q1, qP, qK, qD, qZ, qN⟩ := q; exact ⟨q0, q1, qP, va_K.moved (u := U) (U := U.calling g mk a) (Vm.Alike.refl U.vm) qK, qD, sF.moved (u := U) (U := U.calling g mk a) (Vm.Alike.refl U.vm) qZ, nF.same rfl qN⟩, va_recv hK hP (ci := 10) (q0 := a) rfl (wld_o ct ad30 (xt G L29) y27.2 hc hk (by decide)), fun U hU hW => ⟨rfl, by rw [hU], by rw [hU]; exact hP, va_K.moved hW.alike hK, hD.weaken (fun _ _ _ _ => trivial), by rw [hU]; exact ((hZ.kept hS.2.1).narrow hf9).moved hW.alike, hN.warm hW⟩⟩ rfl rfl hl.1 rfl (lv_room (Nat.le_of_ble_eq_true rfl)) dX10_last_68 (room_s hT34 hbl)) hS (fun q _ h => hf9 q h) hf9 (fun ad35 t H locs ht hvm hw hB hz1 hk1 hS => ?_)
      have hn36 := hw
      obtain ⟨hP, hK9, hD9⟩ := hB
      rw [ht] at hP
      have hD := hD9.weaken (fun _ q _ h => hf9 q.1 h)
      rw [xt_xt, ← eL34] at hP hD
      refine W_cs (k := L34.length) (n := wt L34) (by rw [eL34]; exact (len_s L29 y32.1).symm) (by rw [eL34]; exact (wt_app L29 y32.1).symm) ?_
      have hT : L12 = L34 ++ w33.1 := by rw [hT34, eL34]
      have h2 : y10.2 = w33.2 := by rw [h2, ew33]
      have hl := lv_sub (l' := [(0, .ref (ad30 a))]) hl [0] rfl
      have e9 : ([(0, .ref (ad30 a))] : List (Nat × Value)) = [(0, .ref (ad35 a))] := (by first | rfl | simp only [hn36 a hc])
      rw [e9] at hl
      clear e9
      have hk : (xt G L34).2.1 a = 10 := by rw [eL34]; exact xt_k _ hc hk
      have hc : a < (xt G L34).1 := by rw [eL34]; exact xt_l _ hc
      have hag := agr_t (xt_ge _ _) hag hn36
      refine lv_aload_n hx hb dX10_last_71 rfl (lv_at hl 0 rfl) ?_
      refine lv_iconst (v := (0 : Int32)) hx hb dX10_last_72 (by decide) ?_
      obtain ⟨hz9, hF⟩ := chk_some hF
      refine va_put (D := D) (ci := 10) (v := .int (0 : Int32)) (ty := .boolean) (C := RX10) (T := TX10) (N := 20) hx hb hts (mus hf_X10) tyX10 tyX10_ok nmX10 hown hK hP hD hS a (wld_o ct ad35 (xt G L34) y32.2 hc hk (by decide)) rfl 8 (by decide) (hts (.fieldLink RX10 30 "VideoSuite$Writer" "arith" "Z") (mu mw_747)) (fun _ h9 => h9) rfl (by decide +kernel) (nar_z hz9).1 (nar_z hz9).2 (Nat.le_of_ble_eq_true rfl) dX10_last_73 (fun H locs hP hD hS => ?_)
      obtain ⟨M37, eM37, hF⟩ := ltt_some hF
      rw [set_oI ct ad35 (xt G L34) y32.2 hc hk (by decide) (by rfl), ← eM37] at hP hD
      obtain rfl := Option.some.inj hF
      have e1 : L12 = L34 := by rw [hT]; exact List.append_nil _
      have e2 : y10.2 = M37 := h2
      rw [e1] at J10
      try rw [e2] at J10
      exact J10 _ hag _ _ _ hP hD hS (lv_sub hl [] rfl)
  clear hF
  have hF := hy4
  clear hy4
  refine lv_if_eq (tgt := 32) hx hb dX10_last_11 (by decide) (fun c38 => ?_) (fun c38 => ?_)
  · rw [if_pos c38] at hF
    obtain rfl := Option.some.inj hF
    exact J4 _ _ _ hP hD hS (lv_sub hl [0, 1] rfl)
  · rw [if_neg c38] at hF
    refine lv_aload_n hx hb dX10_last_14 rfl (lv_at hl 0 rfl) ?_
    refine lv_dup hx hb dX10_last_15 rfl ?_
    refine va_get (D := D) (ci := 10) (v := .int (M3.1 a 9)) (C := RX10) (T := TX10) (N := 20) hx hb hts (mus hf_X10) hown hK hP a (wld_o ct ad (xt G []) M3 hc hk (by decide)) rfl 9 (by decide) (hts (.fieldLink RX10 78 "VideoSuite$Writer" "low" "I") (mu mw_748)) (fun _ h9 => h9) rfl dX10_last_16 ?_
    obtain ⟨x39, ex39, hF⟩ := ltt_some hF
    refine lv_topi (fun zx39 ezx39 => ?_)
    obtain rfl : x39 = zx39 := ex39.trans ezx39.symm
    refine lv_aload_n hx hb dX10_last_19 rfl (lv_at hl 0 rfl) ?_
    refine va_get (D := D) (ci := 10) (v := .int (M3.1 a 10)) (C := RX10) (T := TX10) (N := 20) hx hb hts (mus hf_X10) hown hK hP a (wld_o ct ad (xt G []) M3 hc hk (by decide)) rfl 10 (by decide) (hts (.fieldLink RX10 75 "VideoSuite$Writer" "range" "I") (mu mw_749)) (fun _ h9 => h9) rfl dX10_last_20 ?_
    obtain ⟨x40, ex40, hF⟩ := ltt_some hF
    refine lv_topi (fun zx40 ezx40 => ?_)
    obtain rfl : x40 = zx40 := ex40.trans ezx40.symm
    refine lv_iadd hx hb dX10_last_23 ?_
    obtain ⟨x41, ex41, hF⟩ := ltt_some hF
    refine lv_topi (fun zx41 ezx41 => ?_)
    obtain rfl : x41 = zx41 := ex41.trans ezx41.symm
    refine va_put (D := D) (ci := 10) (v := .int x41) (ty := .int) (C := RX10) (T := TX10) (N := 20) hx hb hts (mus hf_X10) tyX10 tyX10_ok nmX10 hown hK hP hD hS a (wld_o ct ad (xt G []) M3 hc hk (by decide)) rfl 9 (by decide) (hts (.fieldLink RX10 78 "VideoSuite$Writer" "low" "I") (mu mw_748)) (fun _ h9 => h9) rfl (by decide +kernel) rfl rfl (Nat.le_of_ble_eq_true rfl) dX10_last_24 (fun H locs hP hD hS => ?_)
    obtain ⟨M42, eM42, hF⟩ := ltt_some hF
    rw [set_oI ct ad (xt G []) M3 hc hk (by decide) (by rfl), ← eM42] at hP hD
    refine lv_aload_n hx hb dX10_last_27 rfl (lv_at hl 0 rfl) ?_
    refine lv_iconst (v := (2 : Int32)) hx hb dX10_last_28 (by decide) ?_
    refine va_put (D := D) (ci := 10) (v := .int (2 : Int32)) (ty := .int) (C := RX10) (T := TX10) (N := 20) hx hb hts (mus hf_X10) tyX10 tyX10_ok nmX10 hown hK hP hD hS a (wld_o ct ad (xt G []) M42 hc hk (by decide)) rfl 10 (by decide) (hts (.fieldLink RX10 75 "VideoSuite$Writer" "range" "I") (mu mw_749)) (fun _ h9 => h9) rfl (by decide +kernel) rfl rfl (Nat.le_of_ble_eq_true rfl) dX10_last_29 (fun H locs hP hD hS => ?_)
    obtain ⟨M43, eM43, hF⟩ := ltt_some hF
    rw [set_oI ct ad (xt G []) M42 hc hk (by decide) (by rfl), ← eM43] at hP hD
    obtain rfl := Option.some.inj hF
    exact J4 _ _ _ hP hD hS (lv_sub hl [0, 1] rfl)
set_option maxRecDepth 20000 in
theorem gX10_levels_X10_collect : GoodIn wuX10_levels (wsV RX10 108 RX10 yX10_collect wuX10_collect) := gu_V mw_2691 mw_2693 mw_153 mw_176 mw_2694
set_option maxRecDepth 20000 in
set_option maxRecDepth 20000 in
theorem gX10_levels_X10_countOnes : GoodIn wuX10_levels (wsV RX10 112 RX10 yX10_countOnes wuX10_countOnes) := gu_V mw_2695 mw_2697 mw_154 mw_176 mw_2698
set_option maxRecDepth 20000 in
set_option maxRecDepth 20000 in
theorem gX10_levels_X5_valueOf : GoodIn wuX10_levels (va_wsS RX10 117 yX5_valueOf wuX5_valueOf) := gu_S mw_2701 mw_2702 mw_169 mw_2703
set_option maxRecDepth 20000 in
set_option maxRecDepth 20000 in
theorem gX10_levels_X5_lengthOf : GoodIn wuX10_levels (va_wsS RX10 121 yX5_lengthOf wuX5_lengthOf) := gu_S mw_2704 mw_2705 mw_169 mw_2706
set_option maxRecDepth 20000 in
set_option maxRecDepth 20000 in
theorem gX10_levels_X10_code : GoodIn wuX10_levels (wsV RX10 97 RX10 yX10_code wuX10_code) := gu_V mw_1176 mw_1141 mw_1142 mw_176 mw_1143
set_option maxRecDepth 20000 in
set_option maxRecDepth 20000 in
theorem gX10_levels_X10_cut : GoodIn wuX10_levels (wsV RX10 124 RX10 yX10_cut wuX10_cut) := gu_V mw_2707 mw_2709 mw_155 mw_176 mw_2710
theorem dX10_levels_0 : decode cX10_levels 0 = .ok (.aload_n 0, 1) := by decide +kernel
theorem dX10_levels_1 : decode cX10_levels 1 = .ok (.aload_n 3, 1) := by decide +kernel
theorem dX10_levels_2 : decode cX10_levels 2 = .ok (.iload_n 2, 1) := by decide +kernel
theorem dX10_levels_3 : decode cX10_levels 3 = .ok (.bipush 15, 2) := by decide +kernel
theorem dX10_levels_5 : decode cX10_levels 5 = .ok (.if_icmp .ne 10, 3) := by decide +kernel
theorem dX10_levels_8 : decode cX10_levels 8 = .ok (.iload 4, 2) := by decide +kernel
theorem dX10_levels_10 : decode cX10_levels 10 = .ok (.iconst 1, 1) := by decide +kernel
theorem dX10_levels_11 : decode cX10_levels 11 = .ok (.iadd, 1) := by decide +kernel
theorem dX10_levels_12 : decode cX10_levels 12 = .ok (.goto 5, 3) := by decide +kernel
theorem dX10_levels_15 : decode cX10_levels 15 = .ok (.iload 4, 2) := by decide +kernel
theorem dX10_levels_17 : decode cX10_levels 17 = .ok (.iload_n 2, 1) := by decide +kernel
theorem dX10_levels_18 : decode cX10_levels 18 = .ok (.invokevirtual 108, 3) := by decide +kernel
theorem dX10_levels_21 : decode cX10_levels 21 = .ok (.istore 5, 2) := by decide +kernel
theorem dX10_levels_23 : decode cX10_levels 23 = .ok (.aload_n 0, 1) := by decide +kernel
theorem dX10_levels_24 : decode cX10_levels 24 = .ok (.iload 5, 2) := by decide +kernel
theorem dX10_levels_26 : decode cX10_levels 26 = .ok (.invokevirtual 112, 3) := by decide +kernel
theorem dX10_levels_29 : decode cX10_levels 29 = .ok (.istore 6, 2) := by decide +kernel
theorem dX10_levels_31 : decode cX10_levels 31 = .ok (.iload_n 1, 1) := by decide +kernel
theorem dX10_levels_32 : decode cX10_levels 32 = .ok (.iconst 4, 1) := by decide +kernel
theorem dX10_levels_33 : decode cX10_levels 33 = .ok (.if_icmp .ne 7, 3) := by decide +kernel
theorem dX10_levels_36 : decode cX10_levels 36 = .ok (.iconst 3, 1) := by decide +kernel
theorem dX10_levels_37 : decode cX10_levels 37 = .ok (.goto 4, 3) := by decide +kernel
theorem dX10_levels_40 : decode cX10_levels 40 = .ok (.iload_n 1, 1) := by decide +kernel
theorem dX10_levels_41 : decode cX10_levels 41 = .ok (.istore 7, 2) := by decide +kernel
theorem dX10_levels_43 : decode cX10_levels 43 = .ok (.iload 5, 2) := by decide +kernel
theorem dX10_levels_45 : decode cX10_levels 45 = .ok (.iconst 3, 1) := by decide +kernel
theorem dX10_levels_46 : decode cX10_levels 46 = .ok (.if_icmp .ge 18, 3) := by decide +kernel
theorem dX10_levels_49 : decode cX10_levels 49 = .ok (.iload 5, 2) := by decide +kernel
theorem dX10_levels_51 : decode cX10_levels 51 = .ok (.iload 5, 2) := by decide +kernel
theorem dX10_levels_53 : decode cX10_levels 53 = .ok (.iconst 1, 1) := by decide +kernel
theorem dX10_levels_54 : decode cX10_levels 54 = .ok (.iadd, 1) := by decide +kernel
theorem dX10_levels_55 : decode cX10_levels 55 = .ok (.imul, 1) := by decide +kernel
theorem dX10_levels_56 : decode cX10_levels 56 = .ok (.iconst 2, 1) := by decide +kernel
theorem dX10_levels_57 : decode cX10_levels 57 = .ok (.idiv, 1) := by decide +kernel
theorem dX10_levels_58 : decode cX10_levels 58 = .ok (.iload 6, 2) := by decide +kernel
theorem dX10_levels_60 : decode cX10_levels 60 = .ok (.iadd, 1) := by decide +kernel
theorem dX10_levels_61 : decode cX10_levels 61 = .ok (.goto 13, 3) := by decide +kernel
theorem dX10_levels_64 : decode cX10_levels 64 = .ok (.iconst 4, 1) := by decide +kernel
theorem dX10_levels_65 : decode cX10_levels 65 = .ok (.iload 5, 2) := by decide +kernel
theorem dX10_levels_67 : decode cX10_levels 67 = .ok (.imul, 1) := by decide +kernel
theorem dX10_levels_68 : decode cX10_levels 68 = .ok (.bipush 6, 2) := by decide +kernel
theorem dX10_levels_70 : decode cX10_levels 70 = .ok (.isub, 1) := by decide +kernel
theorem dX10_levels_71 : decode cX10_levels 71 = .ok (.iload 6, 2) := by decide +kernel
theorem dX10_levels_73 : decode cX10_levels 73 = .ok (.iadd, 1) := by decide +kernel
theorem dX10_levels_74 : decode cX10_levels 74 = .ok (.istore 8, 2) := by decide +kernel
theorem dX10_levels_76 : decode cX10_levels 76 = .ok (.iload_n 1, 1) := by decide +kernel
theorem dX10_levels_77 : decode cX10_levels 77 = .ok (.iconst 3, 1) := by decide +kernel
theorem dX10_levels_78 : decode cX10_levels 78 = .ok (.if_icmp .ne 35, 3) := by decide +kernel
theorem dX10_levels_81 : decode cX10_levels 81 = .ok (.aload_n 0, 1) := by decide +kernel
theorem dX10_levels_82 : decode cX10_levels 82 = .ok (.bipush 11, 2) := by decide +kernel
theorem dX10_levels_84 : decode cX10_levels 84 = .ok (.iload 5, 2) := by decide +kernel
theorem dX10_levels_86 : decode cX10_levels 86 = .ok (.ifCond .ne 9, 3) := by decide +kernel
theorem dX10_levels_89 : decode cX10_levels 89 = .ok (.ldc2_w 115, 3) := by decide +kernel
theorem dX10_levels_92 : decode cX10_levels 92 = .ok (.goto 13, 3) := by decide +kernel
theorem dX10_levels_95 : decode cX10_levels 95 = .ok (.iconst 4, 1) := by decide +kernel
theorem dX10_levels_96 : decode cX10_levels 96 = .ok (.iload 5, 2) := by decide +kernel
theorem dX10_levels_98 : decode cX10_levels 98 = .ok (.iconst 1, 1) := by decide +kernel
theorem dX10_levels_99 : decode cX10_levels 99 = .ok (.isub, 1) := by decide +kernel
theorem dX10_levels_100 : decode cX10_levels 100 = .ok (.imul, 1) := by decide +kernel
theorem dX10_levels_101 : decode cX10_levels 101 = .ok (.iload 6, 2) := by decide +kernel
theorem dX10_levels_103 : decode cX10_levels 103 = .ok (.iadd, 1) := by decide +kernel
theorem dX10_levels_104 : decode cX10_levels 104 = .ok (.i2l, 1) := by decide +kernel
theorem dX10_levels_105 : decode cX10_levels 105 = .ok (.bipush 6, 2) := by decide +kernel
theorem dX10_levels_107 : decode cX10_levels 107 = .ok (.invokevirtual 97, 3) := by decide +kernel
theorem dX10_levels_110 : decode cX10_levels 110 = .ok (.goto 24, 3) := by decide +kernel
theorem dX10_levels_113 : decode cX10_levels 113 = .ok (.aload_n 0, 1) := by decide +kernel
theorem dX10_levels_114 : decode cX10_levels 114 = .ok (.bipush 11, 2) := by decide +kernel
theorem dX10_levels_116 : decode cX10_levels 116 = .ok (.iload 7, 2) := by decide +kernel
theorem dX10_levels_118 : decode cX10_levels 118 = .ok (.iload 8, 2) := by decide +kernel
theorem dX10_levels_120 : decode cX10_levels 120 = .ok (.invokestatic 117, 3) := by decide +kernel
theorem dX10_levels_123 : decode cX10_levels 123 = .ok (.i2l, 1) := by decide +kernel
theorem dX10_levels_124 : decode cX10_levels 124 = .ok (.iload 7, 2) := by decide +kernel
theorem dX10_levels_126 : decode cX10_levels 126 = .ok (.iload 8, 2) := by decide +kernel
theorem dX10_levels_128 : decode cX10_levels 128 = .ok (.invokestatic 121, 3) := by decide +kernel
theorem dX10_levels_131 : decode cX10_levels 131 = .ok (.invokevirtual 97, 3) := by decide +kernel
theorem dX10_levels_134 : decode cX10_levels 134 = .ok (.iload 5, 2) := by decide +kernel
theorem dX10_levels_136 : decode cX10_levels 136 = .ok (.bipush 10, 2) := by decide +kernel
theorem dX10_levels_138 : decode cX10_levels 138 = .ok (.if_icmp .le 13, 3) := by decide +kernel
theorem dX10_levels_141 : decode cX10_levels 141 = .ok (.iload 6, 2) := by decide +kernel
theorem dX10_levels_143 : decode cX10_levels 143 = .ok (.iconst 3, 1) := by decide +kernel
theorem dX10_levels_144 : decode cX10_levels 144 = .ok (.if_icmp .ge 7, 3) := by decide +kernel
theorem dX10_levels_147 : decode cX10_levels 147 = .ok (.iconst 1, 1) := by decide +kernel
theorem dX10_levels_148 : decode cX10_levels 148 = .ok (.goto 4, 3) := by decide +kernel
theorem dX10_levels_151 : decode cX10_levels 151 = .ok (.iconst 0, 1) := by decide +kernel
theorem dX10_levels_152 : decode cX10_levels 152 = .ok (.istore 9, 2) := by decide +kernel
theorem dX10_levels_154 : decode cX10_levels 154 = .ok (.iconst 0, 1) := by decide +kernel
theorem dX10_levels_155 : decode cX10_levels 155 = .ok (.istore 10, 2) := by decide +kernel
theorem dX10_levels_157 : decode cX10_levels 157 = .ok (.iload 10, 2) := by decide +kernel
theorem dX10_levels_159 : decode cX10_levels 159 = .ok (.iload 5, 2) := by decide +kernel
theorem dX10_levels_161 : decode cX10_levels 161 = .ok (.if_icmp .ge 150, 3) := by decide +kernel
theorem dX10_levels_164 : decode cX10_levels 164 = .ok (.iload 10, 2) := by decide +kernel
theorem dX10_levels_166 : decode cX10_levels 166 = .ok (.iload 6, 2) := by decide +kernel
theorem dX10_levels_168 : decode cX10_levels 168 = .ok (.if_icmp .ge 28, 3) := by decide +kernel
theorem dX10_levels_171 : decode cX10_levels 171 = .ok (.aload_n 0, 1) := by decide +kernel
theorem dX10_levels_172 : decode cX10_levels 172 = .ok (.bipush 12, 2) := by decide +kernel
theorem dX10_levels_174 : decode cX10_levels 174 = .ok (.aload_n 0, 1) := by decide +kernel
theorem dX10_levels_175 : decode cX10_levels 175 = .ok (.getfield 24, 3) := by decide +kernel
theorem dX10_levels_178 : decode cX10_levels 178 = .ok (.iload 10, 2) := by decide +kernel
theorem dX10_levels_180 : decode cX10_levels 180 = .ok (.iaload, 1) := by decide +kernel
theorem dX10_levels_181 : decode cX10_levels 181 = .ok (.ifCond .ge 7, 3) := by decide +kernel
theorem dX10_levels_184 : decode cX10_levels 184 = .ok (.lconst 1, 1) := by decide +kernel
theorem dX10_levels_185 : decode cX10_levels 185 = .ok (.goto 4, 3) := by decide +kernel
theorem dX10_levels_188 : decode cX10_levels 188 = .ok (.lconst 0, 1) := by decide +kernel
theorem dX10_levels_189 : decode cX10_levels 189 = .ok (.iconst 1, 1) := by decide +kernel
theorem dX10_levels_190 : decode cX10_levels 190 = .ok (.invokevirtual 97, 3) := by decide +kernel
theorem dX10_levels_193 : decode cX10_levels 193 = .ok (.goto 112, 3) := by decide +kernel
theorem dX10_levels_196 : decode cX10_levels 196 = .ok (.aload_n 0, 1) := by decide +kernel
theorem dX10_levels_197 : decode cX10_levels 197 = .ok (.iload 9, 2) := by decide +kernel
theorem dX10_levels_199 : decode cX10_levels 199 = .ok (.aload_n 0, 1) := by decide +kernel
theorem dX10_levels_200 : decode cX10_levels 200 = .ok (.getfield 24, 3) := by decide +kernel
theorem dX10_levels_203 : decode cX10_levels 203 = .ok (.iload 10, 2) := by decide +kernel
theorem dX10_levels_205 : decode cX10_levels 205 = .ok (.iaload, 1) := by decide +kernel
theorem dX10_levels_206 : decode cX10_levels 206 = .ok (.iload 10, 2) := by decide +kernel
theorem dX10_levels_208 : decode cX10_levels 208 = .ok (.iload 6, 2) := by decide +kernel
theorem dX10_levels_210 : decode cX10_levels 210 = .ok (.if_icmp .ne 13, 3) := by decide +kernel
theorem dX10_levels_213 : decode cX10_levels 213 = .ok (.iload 6, 2) := by decide +kernel
theorem dX10_levels_215 : decode cX10_levels 215 = .ok (.iconst 3, 1) := by decide +kernel
theorem dX10_levels_216 : decode cX10_levels 216 = .ok (.if_icmp .ge 7, 3) := by decide +kernel
theorem dX10_levels_219 : decode cX10_levels 219 = .ok (.iconst 1, 1) := by decide +kernel
theorem dX10_levels_220 : decode cX10_levels 220 = .ok (.goto 4, 3) := by decide +kernel
theorem dX10_levels_223 : decode cX10_levels 223 = .ok (.iconst 0, 1) := by decide +kernel
theorem dX10_levels_224 : decode cX10_levels 224 = .ok (.invokevirtual 124, 3) := by decide +kernel
theorem dX10_levels_227 : decode cX10_levels 227 = .ok (.aload_n 0, 1) := by decide +kernel
theorem dX10_levels_228 : decode cX10_levels 228 = .ok (.bipush 13, 2) := by decide +kernel
theorem dX10_levels_230 : decode cX10_levels 230 = .ok (.lconst 1, 1) := by decide +kernel
theorem dX10_levels_231 : decode cX10_levels 231 = .ok (.aload_n 0, 1) := by decide +kernel
theorem dX10_levels_232 : decode cX10_levels 232 = .ok (.getfield 128, 3) := by decide +kernel
theorem dX10_levels_235 : decode cX10_levels 235 = .ok (.iconst 1, 1) := by decide +kernel
theorem dX10_levels_236 : decode cX10_levels 236 = .ok (.iadd, 1) := by decide +kernel
theorem dX10_levels_237 : decode cX10_levels 237 = .ok (.invokevirtual 97, 3) := by decide +kernel
theorem dX10_levels_240 : decode cX10_levels 240 = .ok (.aload_n 0, 1) := by decide +kernel
theorem dX10_levels_241 : decode cX10_levels 241 = .ok (.bipush 14, 2) := by decide +kernel
theorem dX10_levels_243 : decode cX10_levels 243 = .ok (.aload_n 0, 1) := by decide +kernel
theorem dX10_levels_244 : decode cX10_levels 244 = .ok (.getfield 131, 3) := by decide +kernel
theorem dX10_levels_247 : decode cX10_levels 247 = .ok (.i2l, 1) := by decide +kernel
theorem dX10_levels_248 : decode cX10_levels 248 = .ok (.aload_n 0, 1) := by decide +kernel
theorem dX10_levels_249 : decode cX10_levels 249 = .ok (.getfield 134, 3) := by decide +kernel
theorem dX10_levels_252 : decode cX10_levels 252 = .ok (.invokevirtual 97, 3) := by decide +kernel
theorem dX10_levels_255 : decode cX10_levels 255 = .ok (.iload 9, 2) := by decide +kernel
theorem dX10_levels_257 : decode cX10_levels 257 = .ok (.ifCond .ne 7, 3) := by decide +kernel
theorem dX10_levels_260 : decode cX10_levels 260 = .ok (.iconst 1, 1) := by decide +kernel
theorem dX10_levels_261 : decode cX10_levels 261 = .ok (.goto 5, 3) := by decide +kernel
theorem dX10_levels_264 : decode cX10_levels 264 = .ok (.iload 9, 2) := by decide +kernel
theorem dX10_levels_266 : decode cX10_levels 266 = .ok (.istore 9, 2) := by decide +kernel
theorem dX10_levels_268 : decode cX10_levels 268 = .ok (.iload 9, 2) := by decide +kernel
theorem dX10_levels_270 : decode cX10_levels 270 = .ok (.bipush 6, 2) := by decide +kernel
theorem dX10_levels_272 : decode cX10_levels 272 = .ok (.if_icmp .ge 29, 3) := by decide +kernel
theorem dX10_levels_275 : decode cX10_levels 275 = .ok (.aload_n 0, 1) := by decide +kernel
theorem dX10_levels_276 : decode cX10_levels 276 = .ok (.getfield 24, 3) := by decide +kernel
theorem dX10_levels_279 : decode cX10_levels 279 = .ok (.iload 10, 2) := by decide +kernel
theorem dX10_levels_281 : decode cX10_levels 281 = .ok (.iaload, 1) := by decide +kernel
theorem dX10_levels_282 : decode cX10_levels 282 = .ok (.invokestatic 137, 3) := by decide +kernel
theorem dX10_levels_285 : decode cX10_levels 285 = .ok (.iconst 3, 1) := by decide +kernel
theorem dX10_levels_286 : decode cX10_levels 286 = .ok (.iload 9, 2) := by decide +kernel
theorem dX10_levels_288 : decode cX10_levels 288 = .ok (.iconst 1, 1) := by decide +kernel
theorem dX10_levels_289 : decode cX10_levels 289 = .ok (.isub, 1) := by decide +kernel
theorem dX10_levels_290 : decode cX10_levels 290 = .ok (.ishl, 1) := by decide +kernel
theorem dX10_levels_291 : decode cX10_levels 291 = .ok (.if_icmp .le 10, 3) := by decide +kernel
theorem dX10_levels_294 : decode cX10_levels 294 = .ok (.iload 9, 2) := by decide +kernel
theorem dX10_levels_296 : decode cX10_levels 296 = .ok (.iconst 1, 1) := by decide +kernel
theorem dX10_levels_297 : decode cX10_levels 297 = .ok (.iadd, 1) := by decide +kernel
theorem dX10_levels_298 : decode cX10_levels 298 = .ok (.goto 5, 3) := by decide +kernel
theorem dX10_levels_301 : decode cX10_levels 301 = .ok (.iload 9, 2) := by decide +kernel
theorem dX10_levels_303 : decode cX10_levels 303 = .ok (.istore 9, 2) := by decide +kernel
theorem dX10_levels_305 : decode cX10_levels 305 = .ok (.iinc 10 1, 3) := by decide +kernel
theorem dX10_levels_308 : decode cX10_levels 308 = .ok (.goto (-151), 3) := by decide +kernel
theorem dX10_levels_311 : decode cX10_levels 311 = .ok (.iload 5, 2) := by decide +kernel
theorem dX10_levels_313 : decode cX10_levels 313 = .ok (.ifCond .le 50, 3) := by decide +kernel
theorem dX10_levels_316 : decode cX10_levels 316 = .ok (.iload 5, 2) := by decide +kernel
theorem dX10_levels_318 : decode cX10_levels 318 = .ok (.iload_n 2, 1) := by decide +kernel
theorem dX10_levels_319 : decode cX10_levels 319 = .ok (.if_icmp .ge 44, 3) := by decide +kernel
theorem dX10_levels_322 : decode cX10_levels 322 = .ok (.iload_n 2, 1) := by decide +kernel
theorem dX10_levels_323 : decode cX10_levels 323 = .ok (.iconst 4, 1) := by decide +kernel
theorem dX10_levels_324 : decode cX10_levels 324 = .ok (.if_icmp .ne 8, 3) := by decide +kernel
theorem dX10_levels_327 : decode cX10_levels 327 = .ok (.bipush 18, 2) := by decide +kernel
theorem dX10_levels_329 : decode cX10_levels 329 = .ok (.goto 4, 3) := by decide +kernel
theorem dX10_levels_332 : decode cX10_levels 332 = .ok (.iconst 3, 1) := by decide +kernel
theorem dX10_levels_333 : decode cX10_levels 333 = .ok (.iload 5, 2) := by decide +kernel
theorem dX10_levels_335 : decode cX10_levels 335 = .ok (.iadd, 1) := by decide +kernel
theorem dX10_levels_336 : decode cX10_levels 336 = .ok (.istore 10, 2) := by decide +kernel
theorem dX10_levels_338 : decode cX10_levels 338 = .ok (.aload_n 0, 1) := by decide +kernel
theorem dX10_levels_339 : decode cX10_levels 339 = .ok (.bipush 15, 2) := by decide +kernel
theorem dX10_levels_341 : decode cX10_levels 341 = .ok (.iload 10, 2) := by decide +kernel
theorem dX10_levels_343 : decode cX10_levels 343 = .ok (.aload_n 0, 1) := by decide +kernel
theorem dX10_levels_344 : decode cX10_levels 344 = .ok (.getfield 142, 3) := by decide +kernel
theorem dX10_levels_347 : decode cX10_levels 347 = .ok (.invokestatic 117, 3) := by decide +kernel
theorem dX10_levels_350 : decode cX10_levels 350 = .ok (.i2l, 1) := by decide +kernel
theorem dX10_levels_351 : decode cX10_levels 351 = .ok (.iload 10, 2) := by decide +kernel
theorem dX10_levels_353 : decode cX10_levels 353 = .ok (.aload_n 0, 1) := by decide +kernel
theorem dX10_levels_354 : decode cX10_levels 354 = .ok (.getfield 142, 3) := by decide +kernel
theorem dX10_levels_357 : decode cX10_levels 357 = .ok (.invokestatic 121, 3) := by decide +kernel
theorem dX10_levels_360 : decode cX10_levels 360 = .ok (.invokevirtual 97, 3) := by decide +kernel
theorem dX10_levels_363 : decode cX10_levels 363 = .ok (.iconst 0, 1) := by decide +kernel
theorem dX10_levels_364 : decode cX10_levels 364 = .ok (.istore 10, 2) := by decide +kernel
theorem dX10_levels_366 : decode cX10_levels 366 = .ok (.iload 10, 2) := by decide +kernel
theorem dX10_levels_368 : decode cX10_levels 368 = .ok (.iconst 1, 1) := by decide +kernel
theorem dX10_levels_369 : decode cX10_levels 369 = .ok (.iadd, 1) := by decide +kernel
theorem dX10_levels_370 : decode cX10_levels 370 = .ok (.iload 5, 2) := by decide +kernel
theorem dX10_levels_372 : decode cX10_levels 372 = .ok (.if_icmp .ge 86, 3) := by decide +kernel
theorem dX10_levels_375 : decode cX10_levels 375 = .ok (.aload_n 0, 1) := by decide +kernel
theorem dX10_levels_376 : decode cX10_levels 376 = .ok (.getfield 142, 3) := by decide +kernel
theorem dX10_levels_379 : decode cX10_levels 379 = .ok (.ifCond .le 79, 3) := by decide +kernel
theorem dX10_levels_382 : decode cX10_levels 382 = .ok (.bipush 21, 2) := by decide +kernel
theorem dX10_levels_384 : decode cX10_levels 384 = .ok (.aload_n 0, 1) := by decide +kernel
theorem dX10_levels_385 : decode cX10_levels 385 = .ok (.getfield 142, 3) := by decide +kernel
theorem dX10_levels_388 : decode cX10_levels 388 = .ok (.bipush 7, 2) := by decide +kernel
theorem dX10_levels_390 : decode cX10_levels 390 = .ok (.if_icmp .ge 10, 3) := by decide +kernel
theorem dX10_levels_393 : decode cX10_levels 393 = .ok (.aload_n 0, 1) := by decide +kernel
theorem dX10_levels_394 : decode cX10_levels 394 = .ok (.getfield 142, 3) := by decide +kernel
theorem dX10_levels_397 : decode cX10_levels 397 = .ok (.goto 5, 3) := by decide +kernel
theorem dX10_levels_400 : decode cX10_levels 400 = .ok (.bipush 7, 2) := by decide +kernel
theorem dX10_levels_402 : decode cX10_levels 402 = .ok (.iadd, 1) := by decide +kernel
theorem dX10_levels_403 : decode cX10_levels 403 = .ok (.istore 11, 2) := by decide +kernel
theorem dX10_levels_405 : decode cX10_levels 405 = .ok (.aload_n 0, 1) := by decide +kernel
theorem dX10_levels_406 : decode cX10_levels 406 = .ok (.bipush 16, 2) := by decide +kernel
theorem dX10_levels_408 : decode cX10_levels 408 = .ok (.iload 11, 2) := by decide +kernel
theorem dX10_levels_410 : decode cX10_levels 410 = .ok (.aload_n 0, 1) := by decide +kernel
theorem dX10_levels_411 : decode cX10_levels 411 = .ok (.getfield 27, 3) := by decide +kernel
theorem dX10_levels_414 : decode cX10_levels 414 = .ok (.iload 10, 2) := by decide +kernel
theorem dX10_levels_416 : decode cX10_levels 416 = .ok (.iaload, 1) := by decide +kernel
theorem dX10_levels_417 : decode cX10_levels 417 = .ok (.invokestatic 117, 3) := by decide +kernel
theorem dX10_levels_420 : decode cX10_levels 420 = .ok (.i2l, 1) := by decide +kernel
theorem dX10_levels_421 : decode cX10_levels 421 = .ok (.iload 11, 2) := by decide +kernel
theorem dX10_levels_423 : decode cX10_levels 423 = .ok (.aload_n 0, 1) := by decide +kernel
theorem dX10_levels_424 : decode cX10_levels 424 = .ok (.getfield 27, 3) := by decide +kernel
theorem dX10_levels_427 : decode cX10_levels 427 = .ok (.iload 10, 2) := by decide +kernel
theorem dX10_levels_429 : decode cX10_levels 429 = .ok (.iaload, 1) := by decide +kernel
theorem dX10_levels_430 : decode cX10_levels 430 = .ok (.invokestatic 121, 3) := by decide +kernel
theorem dX10_levels_433 : decode cX10_levels 433 = .ok (.invokevirtual 97, 3) := by decide +kernel
theorem dX10_levels_436 : decode cX10_levels 436 = .ok (.aload_n 0, 1) := by decide +kernel
theorem dX10_levels_437 : decode cX10_levels 437 = .ok (.dup, 1) := by decide +kernel
theorem dX10_levels_438 : decode cX10_levels 438 = .ok (.getfield 142, 3) := by decide +kernel
theorem dX10_levels_441 : decode cX10_levels 441 = .ok (.aload_n 0, 1) := by decide +kernel
theorem dX10_levels_442 : decode cX10_levels 442 = .ok (.getfield 27, 3) := by decide +kernel
theorem dX10_levels_445 : decode cX10_levels 445 = .ok (.iload 10, 2) := by decide +kernel
theorem dX10_levels_447 : decode cX10_levels 447 = .ok (.iaload, 1) := by decide +kernel
theorem dX10_levels_448 : decode cX10_levels 448 = .ok (.isub, 1) := by decide +kernel
theorem dX10_levels_449 : decode cX10_levels 449 = .ok (.putfield 142, 3) := by decide +kernel
theorem dX10_levels_452 : decode cX10_levels 452 = .ok (.iinc 10 1, 3) := by decide +kernel
theorem dX10_levels_455 : decode cX10_levels 455 = .ok (.goto (-89), 3) := by decide +kernel
theorem dX10_levels_458 : decode cX10_levels 458 = .ok (.return_, 1) := by decide +kernel
noncomputable def FX10_levels (G : GG) (M : DD) (a : Nat) (p0 : Int32) (p1 : Int32) (p2 : Option Nat) (p3 : Int32) : Option (NN × DD) :=
  bnd (if p1 = ((15 : Int32)) then (ltt ((p3 + ((1 : Int32)))) fun x168 =>
  some (x168)) else
  (some (p3))) fun (y1 : Int32) =>
  bnd (FX10_collect (xt G []) M a p2 y1 p1) fun y2 =>
  bnd (FX10_countOnes (xt G []) y2.1 a y2.2) fun y3 =>
  bnd (if p0 = ((4 : Int32)) then (some ((3 : Int32))) else
  (some (p0))) fun (y4 : Int32) =>
  bnd (if ((3 : Int32)) ≤ y2.2 then (ltt ((((4 : Int32)) * y2.2)) fun x159 =>
  ltt ((x159 - ((6 : Int32)))) fun x160 =>
  ltt ((x160 + y3.2)) fun x161 =>
  some (x161)) else
  (ltt ((y2.2 + ((1 : Int32)))) fun x162 =>
  ltt ((y2.2 * x162)) fun x163 =>
  ltt (x163 / ((2 : Int32))) fun x164 =>
  ltt ((x164 + y3.2)) fun x165 =>
  some (x165))) fun (y5 : Int32) =>
  bnd (if p0 = ((3 : Int32)) then (bnd (if y2.2 = ((0 : Int32)) then (some ((3 : Int64))) else
  (ltt ((y2.2 - ((1 : Int32)))) fun x154 =>
  ltt ((((4 : Int32)) * x154)) fun x155 =>
  ltt ((x155 + y3.2)) fun x156 =>
  ltt (x156.toInt64) fun x157 =>
  some (x157))) fun (y147 : Int64) =>
  bnd (FX10_code (xt G []) y3.1 a ((11 : Int32)) y147 ((6 : Int32))) fun y148 =>
  app y148.1 <|
  ltt ([] ++ y148.1) fun L150 =>
  some ([], y148.2)) else
  (bnd (FX5_valueOf (xt G []) y3.1 y4 y5) fun y139 =>
  ltt (y139.2.toInt64) fun x140 =>
  bnd (FX5_lengthOf (xt G []) y139.1 y4 y5) fun y141 =>
  bnd (FX10_code (xt G []) y141.1 a ((11 : Int32)) x140 y141.2) fun y142 =>
  app y142.1 <|
  ltt ([] ++ y142.1) fun L144 =>
  some ([], y142.2))) fun (y6 : NN × DD) =>
  app y6.1 <|
  ltt ([] ++ y6.1) fun L8 =>
  bnd (if y2.2 ≤ ((10 : Int32)) then (some ((0 : Int32))) else
  (bnd (if ((3 : Int32)) ≤ y3.2 then (some ((0 : Int32))) else
  (some ((1 : Int32)))) fun (y135 : Int32) =>
  some (y135))) fun (y10 : Int32) =>
  bnd (itrA (fun (s12 : NN × Int32 × Int32 × DD) => ((if y2.2 ≤ s12.2.2.1 then (some ([], .inr ((s12.2.1, s12.2.2.1, s12.2.2.2)))) else
  (bnd (if y3.2 ≤ s12.2.2.1 then (dr (xt G s12.1) 13 ((s12.2.2.2.2 a 14)) fun b91 =>
  chk (¬ (s12.2.2.1 < 0 ∨ (xt G s12.1).2.2 b91 ≤ s12.2.2.1.toNatClampNeg)) <|
  ltt (s12.2.2.2.1 b91 s12.2.2.1.toNatClampNeg) fun x92 =>
  bnd (if s12.2.2.1 = y3.2 then (bnd (if ((3 : Int32)) ≤ y3.2 then (some ((0 : Int32))) else
  (some ((1 : Int32)))) fun (y123 : Int32) =>
  some (y123)) else
  (some ((0 : Int32)))) fun (y93 : Int32) =>
  bnd (FX10_cut (xt G s12.1) s12.2.2.2 a s12.2.1 x92 y93) fun y94 =>
  ltt (y94.1 a 17) fun x95 =>
  ltt ((x95 + ((1 : Int32)))) fun x96 =>
  bnd (FX10_code (xt G s12.1) y94 a ((13 : Int32)) ((1 : Int64)) x96) fun y97 =>
  app y97.1 <|
  ltt (s12.1 ++ y97.1) fun L99 =>
  ltt (y97.2.1 a 18) fun x102 =>
  ltt (x102.toInt64) fun x103 =>
  ltt (y97.2.1 a 19) fun x104 =>
  bnd (FX10_code (xt G L99) y97.2 a ((14 : Int32)) x103 x104) fun y105 =>
  app y105.1 <|
  ltt (L99 ++ y105.1) fun L107 =>
  bnd (if s12.2.1 = ((0 : Int32)) then (some ((1 : Int32))) else
  (some (s12.2.1))) fun (y110 : Int32) =>
  bnd (if ((6 : Int32)) ≤ y110 then (some (y110, y105.2)) else
  (dr (xt G L107) 13 ((y105.2.2 a 14)) fun b113 =>
  chk (¬ (s12.2.2.1 < 0 ∨ (xt G L107).2.2 b113 ≤ s12.2.2.1.toNatClampNeg)) <|
  ltt (y105.2.1 b113 s12.2.2.1.toNatClampNeg) fun x114 =>
  ltt (if (0 : Int32) ≤ x114 then x114 else 0 - x114) fun x115 =>
  ltt ((y110 - ((1 : Int32)))) fun x116 =>
  ltt ((((3 : Int32)) <<< (x116 &&& 31))) fun x117 =>
  bnd (if x115 ≤ x117 then (some (y110)) else
  (ltt ((y110 + ((1 : Int32)))) fun x120 =>
  some (x120))) fun (y118 : Int32) =>
  some (y118, y105.2))) fun (y111 : Int32 × DD) =>
  some ([], (y111.1, y111.2))) else
  (dr (xt G s12.1) 13 ((s12.2.2.2.2 a 14)) fun b125 =>
  chk (¬ (s12.2.2.1 < 0 ∨ (xt G s12.1).2.2 b125 ≤ s12.2.2.1.toNatClampNeg)) <|
  ltt (s12.2.2.2.1 b125 s12.2.2.1.toNatClampNeg) fun x126 =>
  bnd (if ((0 : Int32)) ≤ x126 then (some ((0 : Int64))) else
  (some ((1 : Int64)))) fun (y127 : Int64) =>
  bnd (FX10_code (xt G s12.1) s12.2.2.2 a ((12 : Int32)) y127 ((1 : Int32))) fun y128 =>
  app y128.1 <|
  ltt (s12.1 ++ y128.1) fun L130 =>
  some ([], (s12.2.1, y128.2)))) fun (y84 : NN × Int32 × DD) =>
  app y84.1 <|
  ltt (s12.1 ++ y84.1) fun L86 =>
  ltt (s12.2.2.1 + (1 : Int32)) fun x88 =>
  some ([], .inl (L86, (y84.2.1, x88, y84.2.2))))) : Option (NN × ((NN × Int32 × Int32 × DD) ⊕ (Int32 × Int32 × DD))))) 1000000 (L8, (y10, (0 : Int32), y6.2))) fun (y11 : NN × Int32 × Int32 × DD) =>
  app y11.1 <|
  ltt (L8 ++ y11.1) fun L14 =>
  bnd (if y2.2 ≤ ((0 : Int32)) then (some ([], y11.2.2.2)) else
  (bnd (if p1 ≤ y2.2 then (some ([], y11.2.2.2)) else
  (bnd (if p1 = ((4 : Int32)) then (some ((18 : Int32))) else
  (some ((3 : Int32)))) fun (y65 : Int32) =>
  ltt ((y65 + y2.2)) fun x66 =>
  ltt (y11.2.2.2.1 a 16) fun x67 =>
  bnd (FX5_valueOf (xt G L14) y11.2.2.2 x66 x67) fun y68 =>
  ltt (y68.2.toInt64) fun x69 =>
  ltt (y68.1.1 a 16) fun x70 =>
  bnd (FX5_lengthOf (xt G L14) y68.1 x66 x70) fun y71 =>
  bnd (FX10_code (xt G L14) y71.1 a ((15 : Int32)) x69 y71.2) fun y72 =>
  app y72.1 <|
  ltt (L14 ++ y72.1) fun L74 =>
  some ([], y72.2))) fun (y59 : NN × DD) =>
  app y59.1 <|
  ltt (L14 ++ y59.1) fun L61 =>
  some ([], y59.2))) fun (y16 : NN × DD) =>
  app y16.1 <|
  ltt (L14 ++ y16.1) fun L18 =>
  bnd (itrA (fun (s21 : NN × Int32 × DD) => ((ltt ((s21.2.1 + ((1 : Int32)))) fun x30 =>
  if y2.2 ≤ x30 then (some ([], .inr ((s21.2.1, s21.2.2)))) else
  (ltt (s21.2.2.1 a 16) fun x32 =>
  if x32 ≤ ((0 : Int32)) then (some ([], .inr ((s21.2.1, s21.2.2)))) else
  (ltt (s21.2.2.1 a 16) fun x34 =>
  bnd (if ((7 : Int32)) ≤ x34 then (some ((7 : Int32))) else
  (ltt (s21.2.2.1 a 16) fun x56 =>
  some (x56))) fun (y35 : Int32) =>
  ltt ((((21 : Int32)) + y35)) fun x36 =>
  dr (xt G s21.1) 13 ((s21.2.2.2 a 15)) fun b37 =>
  chk (¬ (s21.2.1 < 0 ∨ (xt G s21.1).2.2 b37 ≤ s21.2.1.toNatClampNeg)) <|
  ltt (s21.2.2.1 b37 s21.2.1.toNatClampNeg) fun x38 =>
  bnd (FX5_valueOf (xt G s21.1) s21.2.2 x36 x38) fun y39 =>
  ltt (y39.2.toInt64) fun x40 =>
  dr (xt G s21.1) 13 ((y39.1.2 a 15)) fun b41 =>
  chk (¬ (s21.2.1 < 0 ∨ (xt G s21.1).2.2 b41 ≤ s21.2.1.toNatClampNeg)) <|
  ltt (y39.1.1 b41 s21.2.1.toNatClampNeg) fun x42 =>
  bnd (FX5_lengthOf (xt G s21.1) y39.1 x36 x42) fun y43 =>
  bnd (FX10_code (xt G s21.1) y43.1 a ((16 : Int32)) x40 y43.2) fun y44 =>
  app y44.1 <|
  ltt (s21.1 ++ y44.1) fun L46 =>
  ltt (y44.2.1 a 16) fun x49 =>
  dr (xt G L46) 13 ((y44.2.2 a 15)) fun b50 =>
  chk (¬ (s21.2.1 < 0 ∨ (xt G L46).2.2 b50 ≤ s21.2.1.toNatClampNeg)) <|
  ltt (y44.2.1 b50 s21.2.1.toNatClampNeg) fun x51 =>
  ltt ((x49 - x51)) fun x52 =>
  ltt (uI y44.2 a 16 x52) fun M53 =>
  ltt (s21.2.1 + (1 : Int32)) fun x54 =>
  some ([], .inl (L46, (x54, M53)))))) : Option (NN × ((NN × Int32 × DD) ⊕ (Int32 × DD))))) 1000000 (L18, ((0 : Int32), y16.2))) fun (y20 : NN × Int32 × DD) =>
  app y20.1 <|
  ltt (L18 ++ y20.1) fun L23 =>
  some ([], y20.2.2)
set_option maxHeartbeats 4000000 in
set_option maxRecDepth 100000 in
theorem kX10_levels (l : Launch) (D : va_G) (ct : CT) (ad : Nat → Nat) (Z : Nat → Nat) (G : GG) (M : DD) (sz : Nat) (a : Nat) (p0 : Int32) (p1 : Int32) (p2 : Option Nat) (p3 : Int32) (y : NN × DD) (hc : a < G.1) (hk : G.2.1 a = 10) (hF : FX10_levels G M a p0 p1 p2 p3 = some y) : Met l yX10_levels wuX10_levels ({ frames := 5, cells := y.1.length, slots := wt y.1, locals := 175 }) (va_Pc [.ref (ad a), .int p0, .int p1, va_re ad p2, .int p3] (kB D ct ad Z G M sz)) (va_Qv (fun (u : Nat → Nat) => agr G.1 ad u) (fun u t => kE D ct u (xt G y.1) (wA ad G sz) y.2 t) (wA ad G sz)) y.1.length (wt y.1) (wA ad G sz) := by
  refine Met.ofW (cc := cX10_levels) (maxL := 12) (ret := none) (by decide) rfl ?_
  intro p e s m args below meth c s₁ B hml hv
  obtain ⟨rfl, hsz, hP, hK, hD0, hZ, hN⟩ := hv
  have hx := B.exec
  have hb := B.bytes
  have hr := B.returns
  have hts := atoms_spec (ws := wuX10_levels) B.pre
  have hown : s.vm.findClass RX10 = some m.cls := findClass_of_methodNamed B.named
  have hlocks := B.notSynchronized
  subst hsz
  have hD := wD_self (sz := s.heap.size) hD0
  have hA9 : ∀ q, s.heap.size ≤ q → wA ad G s.heap.size q := fun q h => Or.inr h
  generalize hAe : wA ad G s.heap.size = A at hD hA9 hZ ⊢
  have hS : va_S A s.heap s.heap [] := va_S.rf
  have hl := lv_entry ([.ref (ad a), .int p0, .int p1, va_re ad p2, .int p3]) (n := 12) (by cases p2 <;> exact Nat.le_of_ble_eq_true rfl)
  rw [lg_entry_eq]
  generalize (lg_sl ([.ref (ad a), .int p0, .int p1, va_re ad p2, .int p3]) ++ List.replicate (12 - (lg_sl ([.ref (ad a), .int p0, .int p1, va_re ad p2, .int p3])).length) Slot.unset).toArray = ls at hl ⊢
  have hl : lv_has ls 12 [(0, .ref (ad a)), (1, .int p0), (2, .int p1), (3, va_re ad p2), (4, .int p3)] := by have e9 : lv_args 0 [.ref (ad a), .int p0, .int p1, va_re ad p2, .int p3] = [(0, .ref (ad a)), (1, .int p0), (2, .int p1), (3, va_re ad p2), (4, .int p3)] := (by cases p2 <;> rfl); rw [e9] at hl; exact hl
  unfold FX10_levels at hF
  rw [← wld_0 ct ad G M] at hP hD
  have hk := xt_k0 hc hk
  have hc := xt_l0 hc
  have hag := agr_rf G.1 ad
  obtain ⟨w0, hw0⟩ : ∃ z, z = y := ⟨_, rfl⟩
  rw [← hw0] at hF
  have hT : y.1 = [] ++ w0.1 := by rw [hw0]; rfl
  have h2 : y.2 = w0.2 := by rw [hw0]
  have hbl : y.1.length ≤ y.1.length ∧ wt y.1 ≤ wt y.1 := ⟨Nat.le_refl _, Nat.le_refl _⟩
  refine lv_aload_n hx hb dX10_levels_0 rfl (lv_at hl 0 rfl) ?_
  refine lv_aloadq_n hx hb dX10_levels_1 rfl (lv_at hl 3 rfl) ?_
  refine lv_iload_n hx hb dX10_levels_2 rfl (lv_at hl 2 rfl) ?_
  refine lv_bipush (v := (15 : Int32)) hx hb dX10_levels_3 (by decide) ?_
  obtain ⟨y1, hy1, hF⟩ := bnd_some hF
  have J1 : ∀ (H : Heap) (locs : List Loc) (ls : Array Slot), va_P D classes (wld ct ad (xt G []) M) H → va_D A (wld ct ad (xt G []) M) → va_S A s.heap H locs → lv_has ls 12 [(0, .ref (ad a)), (1, .int p0), (2, .int p1), (3, va_re ad p2), (4, .int p3)] → W p l e (headSpec wuX10_levels ({ frames := 5, cells := y.1.length, slots := wt y.1, locals := 175 })).room s m ([.ref (ad a), .int p0, .int p1, va_re ad p2, .int p3] : List Value).toArray below meth c H locs ([] : NN).length (wt []) (MQ below (va_Qv (fun (u : Nat → Nat) => agr G.1 ad u) (fun u t => kE D ct u (xt G y.1) A y.2 t) A) ([.ref (ad a), .int p0, .int p1, va_re ad p2, .int p3] : List Value).toArray s y.1.length (wt y.1) A) (F0 m 17 ls [.int y1, va_re ad p2, .ref (ad a)]) := by
    intro H locs ls hP hD hS hl
    refine lv_iload_n hx hb dX10_levels_17 rfl (lv_at hl 2 rfl) ?_
    obtain ⟨y2, hy2, hF⟩ := bnd_some hF
    have hf9 := wA_in hD hA9 hS
    refine va_calli (va_runV (As := [va_re ad p2, .int y1, .int p1]) (rest := []) ⟨hx, hb, hml, hown, hts⟩ (kX10_collect l D ct ad Z (xt G []) M H.size a p2 y1 p1 y2 hc hk hy2) (cwV 3 hts gX10_levels_X10_collect rfl rfl rfl (by decide +kernel) ⟨Nat.le_of_ble_eq_true rfl, Nat.le_of_ble_eq_true rfl⟩) ⟨fun a U g mk q => by obtain ⟨q0, q1, qP, qK, qD, qZ, qN⟩ := q; exact ⟨q0, q1, qP, va_K.moved (u := U) (U := U.calling g mk a) (Vm.Alike.refl U.vm) qK, qD, sF.moved (u := U) (U := U.calling g mk a) (Vm.Alike.refl U.vm) qZ, nF.same rfl qN⟩, va_recv hK hP (ci := 10) (q0 := a) rfl (wld_o ct ad (xt G []) M hc hk (by decide)), fun U hU hW => ⟨rfl, by rw [hU], by rw [hU]; exact hP, va_K.moved hW.alike hK, hD.weaken (fun _ _ _ _ => trivial), by rw [hU]; exact ((hZ.kept hS.2.1).narrow hf9).moved hW.alike, hN.warm hW⟩⟩ rfl rfl hl.1 rfl (lv_room (Nat.le_of_ble_eq_true rfl)) dX10_levels_18 (room_d hT hbl)) hS (fun q _ h => hf9 q h) hf9 (fun r u t H locs ht hvm hw hB hz1 hk1 hS => ?_)
    obtain ⟨hP, hK9, hD9⟩ := hB
    rw [ht] at hP
    try dsimp only at hw
    subst hw
    refine W_cs (k := ([] : NN).length) (n := wt []) rfl rfl ?_
    have hD := hD9.weaken (fun _ q _ h => hf9 q.1 h)
    refine lv_istore (lv' := [(5, .int y2.2), (0, .ref (ad a)), (1, .int p0), (2, .int p1), (3, va_re ad p2), (4, .int p3)]) hx hb dX10_levels_21 hl (by decide) rfl (fun ls hl => ?_)
    refine lv_aload_n hx hb dX10_levels_23 rfl (lv_at hl 1 rfl) ?_
    refine lv_iload hx hb dX10_levels_24 (lv_at hl 0 rfl) ?_
    obtain ⟨y3, hy3, hF⟩ := bnd_some hF
    have hf9 := wA_in hD hA9 hS
    refine va_calli (va_runV (As := [.int y2.2]) (rest := []) ⟨hx, hb, hml, hown, hts⟩ (kX10_countOnes l D ct ad Z (xt G []) y2.1 H.size a y2.2 y3 hc hk hy3) (cwV 1 hts gX10_levels_X10_countOnes rfl rfl rfl (by decide +kernel) ⟨Nat.le_of_ble_eq_true rfl, Nat.le_of_ble_eq_true rfl⟩) ⟨fun a U g mk q => by obtain ⟨q0, q1, qP, qK, qD, qZ, qN⟩ := q; exact ⟨q0, q1, qP, va_K.moved (u := U) (U := U.calling g mk a) (Vm.Alike.refl U.vm) qK, qD, sF.moved (u := U) (U := U.calling g mk a) (Vm.Alike.refl U.vm) qZ, nF.same rfl qN⟩, va_recv hK hP (ci := 10) (q0 := a) rfl (wld_o ct ad (xt G []) y2.1 hc hk (by decide)), fun U hU hW => ⟨rfl, by rw [hU], by rw [hU]; exact hP, va_K.moved hW.alike hK, hD.weaken (fun _ _ _ _ => trivial), by rw [hU]; exact ((hZ.kept hS.2.1).narrow hf9).moved hW.alike, hN.warm hW⟩⟩ rfl rfl hl.1 rfl (lv_room (Nat.le_of_ble_eq_true rfl)) dX10_levels_26 (room_d hT hbl)) hS (fun q _ h => hf9 q h) hf9 (fun r u t H locs ht hvm hw hB hz1 hk1 hS => ?_)
    obtain ⟨hP, hK9, hD9⟩ := hB
    rw [ht] at hP
    try dsimp only at hw
    subst hw
    refine W_cs (k := ([] : NN).length) (n := wt []) rfl rfl ?_
    have hD := hD9.weaken (fun _ q _ h => hf9 q.1 h)
    refine lv_istore (lv' := [(6, .int y3.2), (5, .int y2.2), (0, .ref (ad a)), (1, .int p0), (2, .int p1), (3, va_re ad p2), (4, .int p3)]) hx hb dX10_levels_29 hl (by decide) rfl (fun ls hl => ?_)
    refine lv_iload_n hx hb dX10_levels_31 rfl (lv_at hl 3 rfl) ?_
    refine lv_iconst (v := (4 : Int32)) hx hb dX10_levels_32 (by decide) ?_
    obtain ⟨y4, hy4, hF⟩ := bnd_some hF
    have J4 : ∀ (H : Heap) (locs : List Loc) (ls : Array Slot), va_P D classes (wld ct ad (xt G []) y3.1) H → va_D A (wld ct ad (xt G []) y3.1) → va_S A s.heap H locs → lv_has ls 12 [(6, .int y3.2), (5, .int y2.2), (0, .ref (ad a)), (1, .int p0), (2, .int p1), (3, va_re ad p2), (4, .int p3)] → W p l e (headSpec wuX10_levels ({ frames := 5, cells := y.1.length, slots := wt y.1, locals := 175 })).room s m ([.ref (ad a), .int p0, .int p1, va_re ad p2, .int p3] : List Value).toArray below meth c H locs ([] : NN).length (wt []) (MQ below (va_Qv (fun (u : Nat → Nat) => agr G.1 ad u) (fun u t => kE D ct u (xt G y.1) A y.2 t) A) ([.ref (ad a), .int p0, .int p1, va_re ad p2, .int p3] : List Value).toArray s y.1.length (wt y.1) A) (F0 m 41 ls [.int y4]) := by
      intro H locs ls hP hD hS hl
      refine lv_istore (lv' := [(7, .int y4), (6, .int y3.2), (5, .int y2.2), (0, .ref (ad a)), (1, .int p0), (2, .int p1), (3, va_re ad p2), (4, .int p3)]) hx hb dX10_levels_41 hl (by decide) rfl (fun ls hl => ?_)
      refine lv_iload hx hb dX10_levels_43 (lv_at hl 2 rfl) ?_
      refine lv_iconst (v := (3 : Int32)) hx hb dX10_levels_45 (by decide) ?_
      obtain ⟨y5, hy5, hF⟩ := bnd_some hF
      have J5 : ∀ (H : Heap) (locs : List Loc) (ls : Array Slot), va_P D classes (wld ct ad (xt G []) y3.1) H → va_D A (wld ct ad (xt G []) y3.1) → va_S A s.heap H locs → lv_has ls 12 [(7, .int y4), (6, .int y3.2), (5, .int y2.2), (0, .ref (ad a)), (1, .int p0), (2, .int p1), (3, va_re ad p2), (4, .int p3)] → W p l e (headSpec wuX10_levels ({ frames := 5, cells := y.1.length, slots := wt y.1, locals := 175 })).room s m ([.ref (ad a), .int p0, .int p1, va_re ad p2, .int p3] : List Value).toArray below meth c H locs ([] : NN).length (wt []) (MQ below (va_Qv (fun (u : Nat → Nat) => agr G.1 ad u) (fun u t => kE D ct u (xt G y.1) A y.2 t) A) ([.ref (ad a), .int p0, .int p1, va_re ad p2, .int p3] : List Value).toArray s y.1.length (wt y.1) A) (F0 m 74 ls [.int y5]) := by
        intro H locs ls hP hD hS hl
        refine lv_istore (lv' := [(8, .int y5), (7, .int y4), (6, .int y3.2), (5, .int y2.2), (0, .ref (ad a)), (1, .int p0), (2, .int p1), (3, va_re ad p2), (4, .int p3)]) hx hb dX10_levels_74 hl (by decide) rfl (fun ls hl => ?_)
        refine lv_iload_n hx hb dX10_levels_76 rfl (lv_at hl 5 rfl) ?_
        refine lv_iconst (v := (3 : Int32)) hx hb dX10_levels_77 (by decide) ?_
        obtain ⟨y6, hy6, hF⟩ := bnd_some hF
        obtain ⟨w7, hF, ew7⟩ := app_some hF
        obtain ⟨L8, eL8, hF⟩ := ltt_some hF
        have hT8 : y.1 = ([] ++ y6.1) ++ w7.1 := by rw [hT, ew7]; simp only [List.append_assoc]
        have hbl8 : L8.length ≤ y.1.length ∧ wt L8 ≤ wt y.1 := by rw [eL8]; exact room_d hT8 hbl
        have J6 : ∀ (ad9 : Nat → Nat), agr G.1 ad ad9 → ∀ (H : Heap) (locs : List Loc) (ls : Array Slot), va_P D classes (wld ct ad9 (xt G L8) y6.2) H → va_D A (wld ct ad9 (xt G L8) y6.2) → va_S A s.heap H locs → lv_has ls 12 [(6, .int y3.2), (5, .int y2.2), (0, .ref (ad9 a)), (2, .int p1)] → W p l e (headSpec wuX10_levels ({ frames := 5, cells := y.1.length, slots := wt y.1, locals := 175 })).room s m ([.ref (ad a), .int p0, .int p1, va_re ad p2, .int p3] : List Value).toArray below meth c H locs (L8 : NN).length (wt L8) (MQ below (va_Qv (fun (u : Nat → Nat) => agr G.1 ad u) (fun u t => kE D ct u (xt G y.1) A y.2 t) A) ([.ref (ad a), .int p0, .int p1, va_re ad p2, .int p3] : List Value).toArray s y.1.length (wt y.1) A) (F0 m 134 ls []) := by
          intro ad9 hag H locs ls hP hD hS hl
          have hT : y.1 = L8 ++ w7.1 := by rw [hT8, eL8]
          have h2 : y.2 = w7.2 := by rw [h2, ew7]
          have hk : (xt G L8).2.1 a = 10 := by rw [eL8]; exact xt_k _ hc hk
          have hc : a < (xt G L8).1 := by rw [eL8]; exact xt_l _ hc
          refine lv_iload hx hb dX10_levels_134 (lv_at hl 1 rfl) ?_
          refine lv_bipush (v := (10 : Int32)) hx hb dX10_levels_136 (by decide) ?_
          obtain ⟨y10, hy10, hF⟩ := bnd_some hF
          have J10 : ∀ (H : Heap) (locs : List Loc) (ls : Array Slot), va_P D classes (wld ct ad9 (xt G L8) y6.2) H → va_D A (wld ct ad9 (xt G L8) y6.2) → va_S A s.heap H locs → lv_has ls 12 [(6, .int y3.2), (5, .int y2.2), (0, .ref (ad9 a)), (2, .int p1)] → W p l e (headSpec wuX10_levels ({ frames := 5, cells := y.1.length, slots := wt y.1, locals := 175 })).room s m ([.ref (ad a), .int p0, .int p1, va_re ad p2, .int p3] : List Value).toArray below meth c H locs (L8 : NN).length (wt L8) (MQ below (va_Qv (fun (u : Nat → Nat) => agr G.1 ad u) (fun u t => kE D ct u (xt G y.1) A y.2 t) A) ([.ref (ad a), .int p0, .int p1, va_re ad p2, .int p3] : List Value).toArray s y.1.length (wt y.1) A) (F0 m 152 ls [.int y10]) := by
            intro H locs ls hP hD hS hl
            refine lv_istore (lv' := [(9, .int y10), (6, .int y3.2), (5, .int y2.2), (0, .ref (ad9 a)), (2, .int p1)]) hx hb dX10_levels_152 hl (by decide) rfl (fun ls hl => ?_)
            refine lv_iconst (v := (0 : Int32)) hx hb dX10_levels_154 (by decide) ?_
            refine lv_istore (lv' := [(10, .int (0 : Int32)), (9, .int y10), (6, .int y3.2), (5, .int y2.2), (0, .ref (ad9 a)), (2, .int p1)]) hx hb dX10_levels_155 hl (by decide) rfl (fun ls hl => ?_)
            obtain ⟨y11, hy11, hF⟩ := bnd_some hF
            obtain ⟨w13, hF, ew13⟩ := app_some hF
            obtain ⟨L14, eL14, hF⟩ := ltt_some hF
            have hT14 : y.1 = (L8 ++ y11.1) ++ w13.1 := by rw [hT, ew13]; simp only [List.append_assoc]
            have hbl14 : L14.length ≤ y.1.length ∧ wt L14 ≤ wt y.1 := by rw [eL14]; exact room_d hT14 hbl
            have K11 : ∀ (ad15 : Nat → Nat), agr G.1 ad ad15 → ∀ (H : Heap) (locs : List Loc) (ls : Array Slot), va_P D classes (wld ct ad15 (xt G L14) y11.2.2.2) H → va_D A (wld ct ad15 (xt G L14) y11.2.2.2) → va_S A s.heap H locs → lv_has ls 12 [(5, .int y2.2), (0, .ref (ad15 a)), (2, .int p1)] → W p l e (headSpec wuX10_levels ({ frames := 5, cells := y.1.length, slots := wt y.1, locals := 175 })).room s m ([.ref (ad a), .int p0, .int p1, va_re ad p2, .int p3] : List Value).toArray below meth c H locs (L14 : NN).length (wt L14) (MQ below (va_Qv (fun (u : Nat → Nat) => agr G.1 ad u) (fun u t => kE D ct u (xt G y.1) A y.2 t) A) ([.ref (ad a), .int p0, .int p1, va_re ad p2, .int p3] : List Value).toArray s y.1.length (wt y.1) A) (F0 m 311 ls []) := by
              intro ad15 hag H locs ls hP hD hS hl
              have hT : y.1 = L14 ++ w13.1 := by rw [hT14, eL14]
              have h2 : y.2 = w13.2 := by rw [h2, ew13]
              have hk : (xt G L14).2.1 a = 10 := by rw [eL14]; exact xt_k _ hc hk
              have hc : a < (xt G L14).1 := by rw [eL14]; exact xt_l _ hc
              refine lv_iload hx hb dX10_levels_311 (lv_at hl 0 rfl) ?_
              obtain ⟨y16, hy16, hF⟩ := bnd_some hF
              obtain ⟨w17, hF, ew17⟩ := app_some hF
              obtain ⟨L18, eL18, hF⟩ := ltt_some hF
              have hT18 : y.1 = (L14 ++ y16.1) ++ w17.1 := by rw [hT, ew17]; simp only [List.append_assoc]
              have hbl18 : L18.length ≤ y.1.length ∧ wt L18 ≤ wt y.1 := by rw [eL18]; exact room_d hT18 hbl
              have J16 : ∀ (ad19 : Nat → Nat), agr G.1 ad ad19 → ∀ (H : Heap) (locs : List Loc) (ls : Array Slot), va_P D classes (wld ct ad19 (xt G L18) y16.2) H → va_D A (wld ct ad19 (xt G L18) y16.2) → va_S A s.heap H locs → lv_has ls 12 [(5, .int y2.2), (0, .ref (ad19 a))] → W p l e (headSpec wuX10_levels ({ frames := 5, cells := y.1.length, slots := wt y.1, locals := 175 })).room s m ([.ref (ad a), .int p0, .int p1, va_re ad p2, .int p3] : List Value).toArray below meth c H locs (L18 : NN).length (wt L18) (MQ below (va_Qv (fun (u : Nat → Nat) => agr G.1 ad u) (fun u t => kE D ct u (xt G y.1) A y.2 t) A) ([.ref (ad a), .int p0, .int p1, va_re ad p2, .int p3] : List Value).toArray s y.1.length (wt y.1) A) (F0 m 363 ls []) := by
                intro ad19 hag H locs ls hP hD hS hl
                have hT : y.1 = L18 ++ w17.1 := by rw [hT18, eL18]
                have h2 : y.2 = w17.2 := by rw [h2, ew17]
                have hk : (xt G L18).2.1 a = 10 := by rw [eL18]; exact xt_k _ hc hk
                have hc : a < (xt G L18).1 := by rw [eL18]; exact xt_l _ hc
                refine lv_iconst (v := (0 : Int32)) hx hb dX10_levels_363 (by decide) ?_
                refine lv_istore (lv' := [(10, .int (0 : Int32)), (5, .int y2.2), (0, .ref (ad19 a))]) hx hb dX10_levels_364 hl (by decide) rfl (fun ls hl => ?_)
                obtain ⟨y20, hy20, hF⟩ := bnd_some hF
                obtain ⟨w22, hF, ew22⟩ := app_some hF
                obtain ⟨L23, eL23, hF⟩ := ltt_some hF
                have hT23 : y.1 = (L18 ++ y20.1) ++ w22.1 := by rw [hT, ew22]; simp only [List.append_assoc]
                have hbl23 : L23.length ≤ y.1.length ∧ wt L23 ≤ wt y.1 := by rw [eL23]; exact room_d hT23 hbl
                have K20 : ∀ (ad24 : Nat → Nat), agr G.1 ad ad24 → ∀ (H : Heap) (locs : List Loc) (ls : Array Slot), va_P D classes (wld ct ad24 (xt G L23) y20.2.2) H → va_D A (wld ct ad24 (xt G L23) y20.2.2) → va_S A s.heap H locs → lv_has ls 12 [] → W p l e (headSpec wuX10_levels ({ frames := 5, cells := y.1.length, slots := wt y.1, locals := 175 })).room s m ([.ref (ad a), .int p0, .int p1, va_re ad p2, .int p3] : List Value).toArray below meth c H locs (L23 : NN).length (wt L23) (MQ below (va_Qv (fun (u : Nat → Nat) => agr G.1 ad u) (fun u t => kE D ct u (xt G y.1) A y.2 t) A) ([.ref (ad a), .int p0, .int p1, va_re ad p2, .int p3] : List Value).toArray s y.1.length (wt y.1) A) (F0 m 458 ls []) := by
                  intro ad24 hag H locs ls hP hD hS hl
                  have hT : y.1 = L23 ++ w22.1 := by rw [hT23, eL23]
                  have h2 : y.2 = w22.2 := by rw [h2, ew22]
                  have hk : (xt G L23).2.1 a = 10 := by rw [eL23]; exact xt_k _ hc hk
                  have hc : a < (xt G L23).1 := by rw [eL23]; exact xt_l _ hc
                  obtain rfl := Option.some.inj hF
                  have e1 : y.1 = L23 := by rw [hT]; exact List.append_nil _
                  have e2 : y.2 = y20.2.2 := h2
                  refine W.widen (k := y.1.length) (n := wt y.1) (Nat.le_of_eq (by rw [e1])) (Nat.le_of_eq (by rw [e1])) ?_
                  exact W.vret hx hb hr (fun t ht hW => ⟨⟨ad24, rfl, hag, (by unfold kE; rw [e1, e2]; exact ⟨by rw [ht]; exact hP, va_K.moved hW.alike hK, hD⟩)⟩, hS.F ht⟩) hS.2.2 dX10_levels_458
                clear hF
                refine itrA_rule (fun (s21 : NN × Int32 × DD) (r26 : NN) => (∃ t, s21.1 = L18 ++ t) → L23 = s21.1 ++ r26 → ∀ (ad25 : Nat → Nat), agr G.1 ad ad25 → ∀ (H : Heap) (locs : List Loc) (ls : Array Slot), va_P D classes (wld ct ad25 (xt G s21.1) s21.2.2) H → va_D A (wld ct ad25 (xt G s21.1) s21.2.2) → va_S A s.heap H locs → lv_has ls 12 [(10, .int s21.2.1), (5, .int y2.2), (0, .ref (ad25 a))] → W p l e (headSpec wuX10_levels ({ frames := 5, cells := y.1.length, slots := wt y.1, locals := 175 })).room s m ([.ref (ad a), .int p0, .int p1, va_re ad p2, .int p3] : List Value).toArray below meth c H locs (s21.1 : NN).length (wt s21.1) (MQ below (va_Qv (fun (u : Nat → Nat) => agr G.1 ad u) (fun u t => kE D ct u (xt G y.1) A y.2 t) A) ([.ref (ad a), .int p0, .int p1, va_re ad p2, .int p3] : List Value).toArray s y.1.length (wt y.1) A) (F0 m 366 ls [])) ?_ _ _ _ hy20 ⟨[], (List.append_nil _).symm⟩ eL23 _ hag _ _ _ hP hD hS (lv_sub hl [0, 1, 2] rfl)
                rintro s21 r26 ⟨z27, hF, ⟨t20, et20⟩, hwz27⟩ ⟨u20, eu20⟩ eq20 ad25 hag H locs ls hP hD hS hl
                try dsimp only at hF
                obtain ⟨L28, eL28⟩ : ∃ x, x = s21.1 ++ z27.1 := ⟨_, rfl⟩
                obtain ⟨w29, hw29⟩ : ∃ x, x = z27 := ⟨_, rfl⟩
                rw [← hw29] at hF
                have hbl : L28.length ≤ y.1.length ∧ wt L28 ≤ wt y.1 := room_d (show L23 = L28 ++ t20 by rw [eq20, et20, eL28]; simp only [List.append_assoc]) hbl23
                have hT : L28 = s21.1 ++ w29.1 := by rw [eL28, hw29]
                have h2 : z27.2 = w29.2 := by rw [hw29]
                have hk : (xt G s21.1).2.1 a = 10 := by rw [eu20]; exact xt_k _ hc hk
                have hc : a < (xt G s21.1).1 := by rw [eu20]; exact xt_l _ hc
                refine lv_iload hx hb dX10_levels_366 (lv_at hl 0 rfl) ?_
                refine lv_iconst (v := (1 : Int32)) hx hb dX10_levels_368 (by decide) ?_
                refine lv_iadd hx hb dX10_levels_369 ?_
                obtain ⟨x30, ex30, hF⟩ := ltt_some hF
                refine lv_topi (fun zx30 ezx30 => ?_)
                obtain rfl : x30 = zx30 := ex30.trans ezx30.symm
                refine lv_iload hx hb dX10_levels_370 (lv_at hl 1 rfl) ?_
                refine lv_icmp_ge (tgt := 458) hx hb dX10_levels_372 (by decide) (fun c31 => ?_) (fun c31 => ?_)
                · rw [if_pos c31] at hF
                  obtain rfl := Option.some.inj hF
                  have e1 : L28 = s21.1 := by rw [hT]; exact List.append_nil _
                  have e2 : z27.2 = .inr ((s21.2.1, s21.2.2)) := h2
                  rw [e2] at hwz27
                  obtain ⟨hw1, hw2⟩ := hwz27
                  have e8 : L23 = s21.1 := by rw [eq20, hw2, ← eL28, e1]
                  rw [e8] at K20
                  try rw [← hw1] at K20
                  exact K20 _ hag _ _ _ hP hD hS (lv_sub hl [] rfl)
                · rw [if_neg c31] at hF
                  refine lv_aload_n hx hb dX10_levels_375 rfl (lv_at hl 2 rfl) ?_
                  refine va_get (D := D) (ci := 10) (v := .int (s21.2.2.1 a 16)) (C := RX10) (T := TX10) (N := 20) hx hb hts (mus hf_X10) hown hK hP a (wld_o ct ad25 (xt G s21.1) s21.2.2 hc hk (by decide)) rfl 16 (by decide) (hts (.fieldLink RX10 142 "VideoSuite$Writer" "zeros" "I") (mu mw_755)) (fun _ h9 => h9) rfl dX10_levels_376 ?_
                  obtain ⟨x32, ex32, hF⟩ := ltt_some hF
                  refine lv_topi (fun zx32 ezx32 => ?_)
                  obtain rfl : x32 = zx32 := ex32.trans ezx32.symm
                  refine lv_if_le (tgt := 458) hx hb dX10_levels_379 (by decide) (fun c33 => ?_) (fun c33 => ?_)
                  · rw [if_pos c33] at hF
                    obtain rfl := Option.some.inj hF
                    have e1 : L28 = s21.1 := by rw [hT]; exact List.append_nil _
                    have e2 : z27.2 = .inr ((s21.2.1, s21.2.2)) := h2
                    rw [e2] at hwz27
                    obtain ⟨hw1, hw2⟩ := hwz27
                    have e8 : L23 = s21.1 := by rw [eq20, hw2, ← eL28, e1]
                    rw [e8] at K20
                    try rw [← hw1] at K20
                    exact K20 _ hag _ _ _ hP hD hS (lv_sub hl [] rfl)
                  · rw [if_neg c33] at hF
                    refine lv_bipush (v := (21 : Int32)) hx hb dX10_levels_382 (by decide) ?_
                    refine lv_aload_n hx hb dX10_levels_384 rfl (lv_at hl 2 rfl) ?_
                    refine va_get (D := D) (ci := 10) (v := .int (s21.2.2.1 a 16)) (C := RX10) (T := TX10) (N := 20) hx hb hts (mus hf_X10) hown hK hP a (wld_o ct ad25 (xt G s21.1) s21.2.2 hc hk (by decide)) rfl 16 (by decide) (hts (.fieldLink RX10 142 "VideoSuite$Writer" "zeros" "I") (mu mw_755)) (fun _ h9 => h9) rfl dX10_levels_385 ?_
                    obtain ⟨x34, ex34, hF⟩ := ltt_some hF
                    refine lv_topi (fun zx34 ezx34 => ?_)
                    obtain rfl : x34 = zx34 := ex34.trans ezx34.symm
                    refine lv_bipush (v := (7 : Int32)) hx hb dX10_levels_388 (by decide) ?_
                    obtain ⟨y35, hy35, hF⟩ := bnd_some hF
                    have J35 : ∀ (H : Heap) (locs : List Loc) (ls : Array Slot), va_P D classes (wld ct ad25 (xt G s21.1) s21.2.2) H → va_D A (wld ct ad25 (xt G s21.1) s21.2.2) → va_S A s.heap H locs → lv_has ls 12 [(10, .int s21.2.1), (5, .int y2.2), (0, .ref (ad25 a))] → W p l e (headSpec wuX10_levels ({ frames := 5, cells := y.1.length, slots := wt y.1, locals := 175 })).room s m ([.ref (ad a), .int p0, .int p1, va_re ad p2, .int p3] : List Value).toArray below meth c H locs (s21.1 : NN).length (wt s21.1) (MQ below (va_Qv (fun (u : Nat → Nat) => agr G.1 ad u) (fun u t => kE D ct u (xt G y.1) A y.2 t) A) ([.ref (ad a), .int p0, .int p1, va_re ad p2, .int p3] : List Value).toArray s y.1.length (wt y.1) A) (F0 m 402 ls [.int y35, .int (21 : Int32)]) := by
                      intro H locs ls hP hD hS hl
                      refine lv_iadd hx hb dX10_levels_402 ?_
                      obtain ⟨x36, ex36, hF⟩ := ltt_some hF
                      refine lv_topi (fun zx36 ezx36 => ?_)
                      obtain rfl : x36 = zx36 := ex36.trans ezx36.symm
                      refine lv_istore (lv' := [(11, .int x36), (10, .int s21.2.1), (5, .int y2.2), (0, .ref (ad25 a))]) hx hb dX10_levels_403 hl (by decide) rfl (fun ls hl => ?_)
                      refine lv_aload_n hx hb dX10_levels_405 rfl (lv_at hl 3 rfl) ?_
                      refine lv_bipush (v := (16 : Int32)) hx hb dX10_levels_406 (by decide) ?_
                      refine lv_iload hx hb dX10_levels_408 (lv_at hl 0 rfl) ?_
                      refine lv_aload_n hx hb dX10_levels_410 rfl (lv_at hl 3 rfl) ?_
                      refine va_get (D := D) (ci := 10) (v := va_re ad25 (s21.2.2.2 a 15)) (C := RX10) (T := TX10) (N := 20) hx hb hts (mus hf_X10) hown hK hP a (wld_o ct ad25 (xt G s21.1) s21.2.2 hc hk (by decide)) rfl 15 (by decide) (hts (.fieldLink RX10 27 "VideoSuite$Writer" "before" "[I") (mu mw_754)) (fun _ h9 => h9) rfl dX10_levels_411 ?_
                      refine lv_iload hx hb dX10_levels_414 (lv_at hl 1 rfl) ?_
                      obtain ⟨b37, ho37, hc37, hk37, hF⟩ := dr_some hF
                      refine W_st (st' := [.int s21.2.1, .ref (ad25 b37), .int x36, .int (16 : Int32), .ref (ad25 a)]) (by rw [va_some ho37]) ?_
                      obtain ⟨hvc, hF⟩ := chk_some hF
                      refine va_iald hx hb hK hP b37 1 (wld_i ct ad25 (xt G s21.1) s21.2.2 hc37 hk37) rfl hvc dX10_levels_416 ?_
                      obtain ⟨x38, ex38, hF⟩ := ltt_some hF
                      refine lv_topi (fun zx38 ezx38 => ?_)
                      obtain rfl : x38 = zx38 := ex38.trans ezx38.symm
                      obtain ⟨y39, hy39, hF⟩ := bnd_some hF
                      have hf9 := wA_in hD hA9 hS
                      refine va_calli (va_runS (As := [.int x36, .int x38]) (rest := [.int (16 : Int32), .ref (ad25 a)]) ⟨hx, hb, hml, hown, hts⟩ (kX5_valueOf l D ct ad25 Z (xt G s21.1) s21.2.2 H.size x36 x38 y39 hy39) (va_cwS 2 hts gX10_levels_X5_valueOf rfl rfl rfl (by decide +kernel) ⟨Nat.le_of_ble_eq_true rfl, Nat.le_of_ble_eq_true rfl⟩) ⟨fun a U g mk q => by obtain ⟨q0, q1, qP, qK, qD, qZ, qN⟩ := q; exact ⟨q0, q1, qP, va_K.moved (u := U) (U := U.calling g mk a) (Vm.Alike.refl U.vm) qK, qD, sF.moved (u := U) (U := U.calling g mk a) (Vm.Alike.refl U.vm) qZ, nF.same rfl qN⟩, fun U hU hW => ⟨rfl, by rw [hU], by rw [hU]; exact hP, va_K.moved hW.alike hK, hD.weaken (fun _ _ _ _ => trivial), by rw [hU]; exact ((hZ.kept hS.2.1).narrow hf9).moved hW.alike, hN.warm hW⟩⟩ rfl rfl hl.1 rfl (lv_room (Nat.le_of_ble_eq_true rfl)) dX10_levels_417 (room_d hT hbl)) hS (fun q _ h => hf9 q h) hf9 (fun r u t H locs ht hvm hw hB hz1 hk1 hS => ?_)
                      obtain ⟨hP, hK9, hD9⟩ := hB
                      rw [ht] at hP
                      try dsimp only at hw
                      subst hw
                      refine W_cs (k := (s21.1 : NN).length) (n := wt s21.1) rfl rfl ?_
                      have hD := hD9.weaken (fun _ q _ h => hf9 q.1 h)
                      refine lv_i2l (v := y39.2.toInt64) hx hb dX10_levels_420 rfl ?_
                      obtain ⟨x40, ex40, hF⟩ := ltt_some hF
                      refine lv_topl (fun zx40 ezx40 => ?_)
                      obtain rfl : x40 = zx40 := ex40.trans ezx40.symm
                      refine lv_iload hx hb dX10_levels_421 (lv_at hl 0 rfl) ?_
                      refine lv_aload_n hx hb dX10_levels_423 rfl (lv_at hl 3 rfl) ?_
                      refine va_get (D := D) (ci := 10) (v := va_re ad25 (y39.1.2 a 15)) (C := RX10) (T := TX10) (N := 20) hx hb hts (mus hf_X10) hown hK hP a (wld_o ct ad25 (xt G s21.1) y39.1 hc hk (by decide)) rfl 15 (by decide) (hts (.fieldLink RX10 27 "VideoSuite$Writer" "before" "[I") (mu mw_754)) (fun _ h9 => h9) rfl dX10_levels_424 ?_
                      refine lv_iload hx hb dX10_levels_427 (lv_at hl 1 rfl) ?_
                      obtain ⟨b41, ho41, hc41, hk41, hF⟩ := dr_some hF
                      refine W_st (st' := [.int s21.2.1, .ref (ad25 b41), .int x36, .long x40, .int (16 : Int32), .ref (ad25 a)]) (by rw [va_some ho41]) ?_
                      obtain ⟨hvc, hF⟩ := chk_some hF
                      refine va_iald hx hb hK hP b41 1 (wld_i ct ad25 (xt G s21.1) y39.1 hc41 hk41) rfl hvc dX10_levels_429 ?_
                      obtain ⟨x42, ex42, hF⟩ := ltt_some hF
                      refine lv_topi (fun zx42 ezx42 => ?_)
                      obtain rfl : x42 = zx42 := ex42.trans ezx42.symm
                      obtain ⟨y43, hy43, hF⟩ := bnd_some hF
                      have hf9 := wA_in hD hA9 hS
                      refine va_calli (va_runS (As := [.int x36, .int x42]) (rest := [.long x40, .int (16 : Int32), .ref (ad25 a)]) ⟨hx, hb, hml, hown, hts⟩ (kX5_lengthOf l D ct ad25 Z (xt G s21.1) y39.1 H.size x36 x42 y43 hy43) (va_cwS 2 hts gX10_levels_X5_lengthOf rfl rfl rfl (by decide +kernel) ⟨Nat.le_of_ble_eq_true rfl, Nat.le_of_ble_eq_true rfl⟩) ⟨fun a U g mk q => by obtain ⟨q0, q1, qP, qK, qD, qZ, qN⟩ := q; exact ⟨q0, q1, qP, va_K.moved (u := U) (U := U.calling g mk a) (Vm.Alike.refl U.vm) qK, qD, sF.moved (u := U) (U := U.calling g mk a) (Vm.Alike.refl U.vm) qZ, nF.same rfl qN⟩, fun U hU hW => ⟨rfl, by rw [hU], by rw [hU]; exact hP, va_K.moved hW.alike hK, hD.weaken (fun _ _ _ _ => trivial), by rw [hU]; exact ((hZ.kept hS.2.1).narrow hf9).moved hW.alike, hN.warm hW⟩⟩ rfl rfl hl.1 rfl (lv_room (Nat.le_of_ble_eq_true rfl)) dX10_levels_430 (room_d hT hbl)) hS (fun q _ h => hf9 q h) hf9 (fun r u t H locs ht hvm hw hB hz1 hk1 hS => ?_)
                      obtain ⟨hP, hK9, hD9⟩ := hB
                      rw [ht] at hP
                      try dsimp only at hw
                      subst hw
                      refine W_cs (k := (s21.1 : NN).length) (n := wt s21.1) rfl rfl ?_
                      have hD := hD9.weaken (fun _ q _ h => hf9 q.1 h)
                      obtain ⟨y44, hy44, hF⟩ := bnd_some hF
                      obtain ⟨w45, hF, ew45⟩ := app_some hF
                      obtain ⟨L46, eL46, hF⟩ := ltt_some hF
                      have hT46 : L28 = (s21.1 ++ y44.1) ++ w45.1 := by rw [hT, ew45]; simp only [List.append_assoc]
                      have hf9 := wA_in hD hA9 hS
                      refine va_callv (va_runV (As := [.int (16 : Int32), .long x40, .int y43.2]) (rest := []) ⟨hx, hb, hml, hown, hts⟩ (kX10_code l D ct ad25 Z (xt G s21.1) y43.1 _ a ((16 : Int32)) x40 y43.2 y44 hc hk hy44) (cwV 3 hts gX10_levels_X10_code rfl rfl rfl (by decide +kernel) ⟨Nat.le_of_ble_eq_true rfl, Nat.le_of_ble_eq_true rfl⟩) ⟨fun a U g mk q => by obtain ⟨q0, q1, qP, qK, qD, qZ, qN⟩ := q; exact ⟨q0, q1, qP, va_K.moved (u := U) (U := U.calling g mk a) (Vm.Alike.refl U.vm) qK, qD, sF.moved (u := U) (U := U.calling g mk a) (Vm.Alike.refl U.vm) qZ, nF.same rfl qN⟩, va_recv hK hP (ci := 10) (q0 := a) rfl (wld_o ct ad25 (xt G s21.1) y43.1 hc hk (by decide)), fun U hU hW => ⟨rfl, by rw [hU], by rw [hU]; exact hP, va_K.moved hW.alike hK, hD.weaken (fun _ _ _ _ => trivial), by rw [hU]; exact ((hZ.kept hS.2.1).narrow hf9).moved hW.alike, hN.warm hW⟩⟩ rfl rfl hl.1 rfl (lv_room (Nat.le_of_ble_eq_true rfl)) dX10_levels_433 (room_s hT46 hbl)) hS (fun q _ h => hf9 q h) hf9 (fun ad47 t H locs ht hvm hw hB hz1 hk1 hS => ?_)
                      have hn48 := hw
                      obtain ⟨hP, hK9, hD9⟩ := hB
                      rw [ht] at hP
                      have hD := hD9.weaken (fun _ q _ h => hf9 q.1 h)
                      rw [xt_xt, ← eL46] at hP hD
                      refine W_cs (k := L46.length) (n := wt L46) (by rw [eL46]; exact (len_s s21.1 y44.1).symm) (by rw [eL46]; exact (wt_app s21.1 y44.1).symm) ?_
                      have hT : L28 = L46 ++ w45.1 := by rw [hT46, eL46]
                      have h2 : z27.2 = w45.2 := by rw [h2, ew45]
                      have hl := lv_sub (l' := [(10, .int s21.2.1), (5, .int y2.2), (0, .ref (ad25 a))]) hl [1, 2, 3] rfl
                      have e9 : ([(10, .int s21.2.1), (5, .int y2.2), (0, .ref (ad25 a))] : List (Nat × Value)) = [(10, .int s21.2.1), (5, .int y2.2), (0, .ref (ad47 a))] := (by first | rfl | simp only [hn48 a hc])
                      rw [e9] at hl
                      clear e9
                      have hk : (xt G L46).2.1 a = 10 := by rw [eL46]; exact xt_k _ hc hk
                      have hc : a < (xt G L46).1 := by rw [eL46]; exact xt_l _ hc
                      have hk37 : (xt G L46).2.1 b37 = 13 := by rw [eL46]; exact xt_k _ hc37 hk37
                      have hc37 : b37 < (xt G L46).1 := by rw [eL46]; exact xt_l _ hc37
                      have hk41 : (xt G L46).2.1 b41 = 13 := by rw [eL46]; exact xt_k _ hc41 hk41
                      have hc41 : b41 < (xt G L46).1 := by rw [eL46]; exact xt_l _ hc41
                      have hag := agr_t (xt_ge _ _) hag hn48
                      refine lv_aload_n hx hb dX10_levels_436 rfl (lv_at hl 2 rfl) ?_
                      refine lv_dup hx hb dX10_levels_437 rfl ?_
                      refine va_get (D := D) (ci := 10) (v := .int (y44.2.1 a 16)) (C := RX10) (T := TX10) (N := 20) hx hb hts (mus hf_X10) hown hK hP a (wld_o ct ad47 (xt G L46) y44.2 hc hk (by decide)) rfl 16 (by decide) (hts (.fieldLink RX10 142 "VideoSuite$Writer" "zeros" "I") (mu mw_755)) (fun _ h9 => h9) rfl dX10_levels_438 ?_
                      obtain ⟨x49, ex49, hF⟩ := ltt_some hF
                      refine lv_topi (fun zx49 ezx49 => ?_)
                      obtain rfl : x49 = zx49 := ex49.trans ezx49.symm
                      refine lv_aload_n hx hb dX10_levels_441 rfl (lv_at hl 2 rfl) ?_
                      refine va_get (D := D) (ci := 10) (v := va_re ad47 (y44.2.2 a 15)) (C := RX10) (T := TX10) (N := 20) hx hb hts (mus hf_X10) hown hK hP a (wld_o ct ad47 (xt G L46) y44.2 hc hk (by decide)) rfl 15 (by decide) (hts (.fieldLink RX10 27 "VideoSuite$Writer" "before" "[I") (mu mw_754)) (fun _ h9 => h9) rfl dX10_levels_442 ?_
                      refine lv_iload hx hb dX10_levels_445 (lv_at hl 0 rfl) ?_
                      obtain ⟨b50, ho50, hc50, hk50, hF⟩ := dr_some hF
                      refine W_st (st' := [.int s21.2.1, .ref (ad47 b50), .int x49, .ref (ad47 a)]) (by rw [va_some ho50]) ?_
                      obtain ⟨hvc, hF⟩ := chk_some hF
                      refine va_iald hx hb hK hP b50 1 (wld_i ct ad47 (xt G L46) y44.2 hc50 hk50) rfl hvc dX10_levels_447 ?_
                      obtain ⟨x51, ex51, hF⟩ := ltt_some hF
                      refine lv_topi (fun zx51 ezx51 => ?_)
                      obtain rfl : x51 = zx51 := ex51.trans ezx51.symm
                      refine lv_isub hx hb dX10_levels_448 ?_
                      obtain ⟨x52, ex52, hF⟩ := ltt_some hF
                      refine lv_topi (fun zx52 ezx52 => ?_)
                      obtain rfl : x52 = zx52 := ex52.trans ezx52.symm
                      refine va_put (D := D) (ci := 10) (v := .int x52) (ty := .int) (C := RX10) (T := TX10) (N := 20) hx hb hts (mus hf_X10) tyX10 tyX10_ok nmX10 hown hK hP hD hS a (wld_o ct ad47 (xt G L46) y44.2 hc hk (by decide)) rfl 16 (by decide) (hts (.fieldLink RX10 142 "VideoSuite$Writer" "zeros" "I") (mu mw_755)) (fun _ h9 => h9) rfl (by decide +kernel) rfl rfl (Nat.le_of_ble_eq_true rfl) dX10_levels_449 (fun H locs hP hD hS => ?_)
                      obtain ⟨M53, eM53, hF⟩ := ltt_some hF
                      rw [set_oI ct ad47 (xt G L46) y44.2 hc hk (by decide) (by rfl), ← eM53] at hP hD
                      obtain ⟨x54, ex54, hF⟩ := ltt_some hF
                      refine lv_iinc (v := x54) (lv' := [(10, .int x54), (5, .int y2.2), (0, .ref (ad47 a))]) hx hb dX10_levels_452 hl (k := 0) rfl (by rw [ex54]; rfl) (by decide) rfl (fun ls hl => ?_)
                      refine lv_goto (tgt := 366) hx hb dX10_levels_455 (by decide) ?_
                      obtain rfl := Option.some.inj hF
                      have e1 : L28 = L46 := by rw [hT]; exact List.append_nil _
                      have e2 : z27.2 = .inl (L46, (x54, M53)) := h2
                      rw [e2] at hwz27
                      obtain ⟨r2, er2, hwz27⟩ := hwz27
                      exact hwz27 ⟨u20 ++ z27.1, by show L46 = _; rw [← e1, eL28, eu20]; simp only [List.append_assoc]⟩ (by show L23 = L46 ++ r2; rw [eq20, er2, ← e1, eL28]; simp only [List.append_assoc]) _ hag _ _ _ hP hD hS (lv_sub hl [0, 1, 2] rfl)
                    clear hF
                    have hF := hy35
                    clear hy35
                    refine lv_icmp_ge (tgt := 400) hx hb dX10_levels_390 (by decide) (fun c55 => ?_) (fun c55 => ?_)
                    · rw [if_pos c55] at hF
                      refine lv_bipush (v := (7 : Int32)) hx hb dX10_levels_400 (by decide) ?_
                      obtain rfl := Option.some.inj hF
                      exact J35 _ _ _ hP hD hS (lv_sub hl [0, 1, 2] rfl)
                    · rw [if_neg c55] at hF
                      refine lv_aload_n hx hb dX10_levels_393 rfl (lv_at hl 2 rfl) ?_
                      refine va_get (D := D) (ci := 10) (v := .int (s21.2.2.1 a 16)) (C := RX10) (T := TX10) (N := 20) hx hb hts (mus hf_X10) hown hK hP a (wld_o ct ad25 (xt G s21.1) s21.2.2 hc hk (by decide)) rfl 16 (by decide) (hts (.fieldLink RX10 142 "VideoSuite$Writer" "zeros" "I") (mu mw_755)) (fun _ h9 => h9) rfl dX10_levels_394 ?_
                      obtain ⟨x56, ex56, hF⟩ := ltt_some hF
                      refine lv_topi (fun zx56 ezx56 => ?_)
                      obtain rfl : x56 = zx56 := ex56.trans ezx56.symm
                      refine lv_goto (tgt := 402) hx hb dX10_levels_397 (by decide) ?_
                      obtain rfl := Option.some.inj hF
                      exact J35 _ _ _ hP hD hS (lv_sub hl [0, 1, 2] rfl)
              clear hF
              obtain ⟨w57, hw57⟩ : ∃ z, z = y16 := ⟨_, rfl⟩
              have hF := hy16
              rw [← hw57] at hF
              clear hy16
              have hT : L18 = L14 ++ w57.1 := by rw [eL18, hw57]
              have h2 : y16.2 = w57.2 := by rw [hw57]
              have hbl := hbl18
              refine lv_if_le (tgt := 363) hx hb dX10_levels_313 (by decide) (fun c58 => ?_) (fun c58 => ?_)
              · rw [if_pos c58] at hF
                obtain rfl := Option.some.inj hF
                have e1 : L18 = L14 := by rw [hT]; exact List.append_nil _
                have e2 : y16.2 = y11.2.2.2 := h2
                rw [e1] at J16
                try rw [e2] at J16
                exact J16 _ hag _ _ _ hP hD hS (lv_sub hl [0, 1] rfl)
              · rw [if_neg c58] at hF
                refine lv_iload hx hb dX10_levels_316 (lv_at hl 0 rfl) ?_
                refine lv_iload_n hx hb dX10_levels_318 rfl (lv_at hl 2 rfl) ?_
                obtain ⟨y59, hy59, hF⟩ := bnd_some hF
                obtain ⟨w60, hF, ew60⟩ := app_some hF
                obtain ⟨L61, eL61, hF⟩ := ltt_some hF
                have hT61 : L18 = (L14 ++ y59.1) ++ w60.1 := by rw [hT, ew60]; simp only [List.append_assoc]
                have hbl61 : L61.length ≤ y.1.length ∧ wt L61 ≤ wt y.1 := by rw [eL61]; exact room_d hT61 hbl
                have J59 : ∀ (ad62 : Nat → Nat), agr G.1 ad ad62 → ∀ (H : Heap) (locs : List Loc) (ls : Array Slot), va_P D classes (wld ct ad62 (xt G L61) y59.2) H → va_D A (wld ct ad62 (xt G L61) y59.2) → va_S A s.heap H locs → lv_has ls 12 [(5, .int y2.2), (0, .ref (ad62 a))] → W p l e (headSpec wuX10_levels ({ frames := 5, cells := y.1.length, slots := wt y.1, locals := 175 })).room s m ([.ref (ad a), .int p0, .int p1, va_re ad p2, .int p3] : List Value).toArray below meth c H locs (L61 : NN).length (wt L61) (MQ below (va_Qv (fun (u : Nat → Nat) => agr G.1 ad u) (fun u t => kE D ct u (xt G y.1) A y.2 t) A) ([.ref (ad a), .int p0, .int p1, va_re ad p2, .int p3] : List Value).toArray s y.1.length (wt y.1) A) (F0 m 363 ls []) := by
                  intro ad62 hag H locs ls hP hD hS hl
                  have hT : L18 = L61 ++ w60.1 := by rw [hT61, eL61]
                  have h2 : y16.2 = w60.2 := by rw [h2, ew60]
                  have hk : (xt G L61).2.1 a = 10 := by rw [eL61]; exact xt_k _ hc hk
                  have hc : a < (xt G L61).1 := by rw [eL61]; exact xt_l _ hc
                  obtain rfl := Option.some.inj hF
                  have e1 : L18 = L61 := by rw [hT]; exact List.append_nil _
                  have e2 : y16.2 = y59.2 := h2
                  rw [e1] at J16
                  try rw [e2] at J16
                  exact J16 _ hag _ _ _ hP hD hS (lv_sub hl [0, 1] rfl)
                clear hF
                obtain ⟨w63, hw63⟩ : ∃ z, z = y59 := ⟨_, rfl⟩
                have hF := hy59
                rw [← hw63] at hF
                clear hy59
                have hT : L61 = L14 ++ w63.1 := by rw [eL61, hw63]
                have h2 : y59.2 = w63.2 := by rw [hw63]
                have hbl := hbl61
                refine lv_icmp_ge (tgt := 363) hx hb dX10_levels_319 (by decide) (fun c64 => ?_) (fun c64 => ?_)
                · rw [if_pos c64] at hF
                  obtain rfl := Option.some.inj hF
                  have e1 : L61 = L14 := by rw [hT]; exact List.append_nil _
                  have e2 : y59.2 = y11.2.2.2 := h2
                  rw [e1] at J59
                  try rw [e2] at J59
                  exact J59 _ hag _ _ _ hP hD hS (lv_sub hl [0, 1] rfl)
                · rw [if_neg c64] at hF
                  refine lv_iload_n hx hb dX10_levels_322 rfl (lv_at hl 2 rfl) ?_
                  refine lv_iconst (v := (4 : Int32)) hx hb dX10_levels_323 (by decide) ?_
                  obtain ⟨y65, hy65, hF⟩ := bnd_some hF
                  have J65 : ∀ (H : Heap) (locs : List Loc) (ls : Array Slot), va_P D classes (wld ct ad15 (xt G L14) y11.2.2.2) H → va_D A (wld ct ad15 (xt G L14) y11.2.2.2) → va_S A s.heap H locs → lv_has ls 12 [(5, .int y2.2), (0, .ref (ad15 a)), (2, .int p1)] → W p l e (headSpec wuX10_levels ({ frames := 5, cells := y.1.length, slots := wt y.1, locals := 175 })).room s m ([.ref (ad a), .int p0, .int p1, va_re ad p2, .int p3] : List Value).toArray below meth c H locs (L14 : NN).length (wt L14) (MQ below (va_Qv (fun (u : Nat → Nat) => agr G.1 ad u) (fun u t => kE D ct u (xt G y.1) A y.2 t) A) ([.ref (ad a), .int p0, .int p1, va_re ad p2, .int p3] : List Value).toArray s y.1.length (wt y.1) A) (F0 m 333 ls [.int y65]) := by
                    intro H locs ls hP hD hS hl
                    refine lv_iload hx hb dX10_levels_333 (lv_at hl 0 rfl) ?_
                    refine lv_iadd hx hb dX10_levels_335 ?_
                    obtain ⟨x66, ex66, hF⟩ := ltt_some hF
                    refine lv_topi (fun zx66 ezx66 => ?_)
                    obtain rfl : x66 = zx66 := ex66.trans ezx66.symm
                    refine lv_istore (lv' := [(10, .int x66), (5, .int y2.2), (0, .ref (ad15 a)), (2, .int p1)]) hx hb dX10_levels_336 hl (by decide) rfl (fun ls hl => ?_)
                    refine lv_aload_n hx hb dX10_levels_338 rfl (lv_at hl 2 rfl) ?_
                    refine lv_bipush (v := (15 : Int32)) hx hb dX10_levels_339 (by decide) ?_
                    refine lv_iload hx hb dX10_levels_341 (lv_at hl 0 rfl) ?_
                    refine lv_aload_n hx hb dX10_levels_343 rfl (lv_at hl 2 rfl) ?_
                    refine va_get (D := D) (ci := 10) (v := .int (y11.2.2.2.1 a 16)) (C := RX10) (T := TX10) (N := 20) hx hb hts (mus hf_X10) hown hK hP a (wld_o ct ad15 (xt G L14) y11.2.2.2 hc hk (by decide)) rfl 16 (by decide) (hts (.fieldLink RX10 142 "VideoSuite$Writer" "zeros" "I") (mu mw_755)) (fun _ h9 => h9) rfl dX10_levels_344 ?_
                    obtain ⟨x67, ex67, hF⟩ := ltt_some hF
                    refine lv_topi (fun zx67 ezx67 => ?_)
                    obtain rfl : x67 = zx67 := ex67.trans ezx67.symm
                    obtain ⟨y68, hy68, hF⟩ := bnd_some hF
                    have hf9 := wA_in hD hA9 hS
                    refine va_calli (va_runS (As := [.int x66, .int x67]) (rest := [.int (15 : Int32), .ref (ad15 a)]) ⟨hx, hb, hml, hown, hts⟩ (kX5_valueOf l D ct ad15 Z (xt G L14) y11.2.2.2 H.size x66 x67 y68 hy68) (va_cwS 2 hts gX10_levels_X5_valueOf rfl rfl rfl (by decide +kernel) ⟨Nat.le_of_ble_eq_true rfl, Nat.le_of_ble_eq_true rfl⟩) ⟨fun a U g mk q => by obtain ⟨q0, q1, qP, qK, qD, qZ, qN⟩ := q; exact ⟨q0, q1, qP, va_K.moved (u := U) (U := U.calling g mk a) (Vm.Alike.refl U.vm) qK, qD, sF.moved (u := U) (U := U.calling g mk a) (Vm.Alike.refl U.vm) qZ, nF.same rfl qN⟩, fun U hU hW => ⟨rfl, by rw [hU], by rw [hU]; exact hP, va_K.moved hW.alike hK, hD.weaken (fun _ _ _ _ => trivial), by rw [hU]; exact ((hZ.kept hS.2.1).narrow hf9).moved hW.alike, hN.warm hW⟩⟩ rfl rfl hl.1 rfl (lv_room (Nat.le_of_ble_eq_true rfl)) dX10_levels_347 (room_d hT hbl)) hS (fun q _ h => hf9 q h) hf9 (fun r u t H locs ht hvm hw hB hz1 hk1 hS => ?_)
                    obtain ⟨hP, hK9, hD9⟩ := hB
                    rw [ht] at hP
                    try dsimp only at hw
                    subst hw
                    refine W_cs (k := (L14 : NN).length) (n := wt L14) rfl rfl ?_
                    have hD := hD9.weaken (fun _ q _ h => hf9 q.1 h)
                    refine lv_i2l (v := y68.2.toInt64) hx hb dX10_levels_350 rfl ?_
                    obtain ⟨x69, ex69, hF⟩ := ltt_some hF
                    refine lv_topl (fun zx69 ezx69 => ?_)
                    obtain rfl : x69 = zx69 := ex69.trans ezx69.symm
                    refine lv_iload hx hb dX10_levels_351 (lv_at hl 0 rfl) ?_
                    refine lv_aload_n hx hb dX10_levels_353 rfl (lv_at hl 2 rfl) ?_
                    refine va_get (D := D) (ci := 10) (v := .int (y68.1.1 a 16)) (C := RX10) (T := TX10) (N := 20) hx hb hts (mus hf_X10) hown hK hP a (wld_o ct ad15 (xt G L14) y68.1 hc hk (by decide)) rfl 16 (by decide) (hts (.fieldLink RX10 142 "VideoSuite$Writer" "zeros" "I") (mu mw_755)) (fun _ h9 => h9) rfl dX10_levels_354 ?_
                    obtain ⟨x70, ex70, hF⟩ := ltt_some hF
                    refine lv_topi (fun zx70 ezx70 => ?_)
                    obtain rfl : x70 = zx70 := ex70.trans ezx70.symm
                    obtain ⟨y71, hy71, hF⟩ := bnd_some hF
                    have hf9 := wA_in hD hA9 hS
                    refine va_calli (va_runS (As := [.int x66, .int x70]) (rest := [.long x69, .int (15 : Int32), .ref (ad15 a)]) ⟨hx, hb, hml, hown, hts⟩ (kX5_lengthOf l D ct ad15 Z (xt G L14) y68.1 H.size x66 x70 y71 hy71) (va_cwS 2 hts gX10_levels_X5_lengthOf rfl rfl rfl (by decide +kernel) ⟨Nat.le_of_ble_eq_true rfl, Nat.le_of_ble_eq_true rfl⟩) ⟨fun a U g mk q => by obtain ⟨q0, q1, qP, qK, qD, qZ, qN⟩ := q; exact ⟨q0, q1, qP, va_K.moved (u := U) (U := U.calling g mk a) (Vm.Alike.refl U.vm) qK, qD, sF.moved (u := U) (U := U.calling g mk a) (Vm.Alike.refl U.vm) qZ, nF.same rfl qN⟩, fun U hU hW => ⟨rfl, by rw [hU], by rw [hU]; exact hP, va_K.moved hW.alike hK, hD.weaken (fun _ _ _ _ => trivial), by rw [hU]; exact ((hZ.kept hS.2.1).narrow hf9).moved hW.alike, hN.warm hW⟩⟩ rfl rfl hl.1 rfl (lv_room (Nat.le_of_ble_eq_true rfl)) dX10_levels_357 (room_d hT hbl)) hS (fun q _ h => hf9 q h) hf9 (fun r u t H locs ht hvm hw hB hz1 hk1 hS => ?_)
                    obtain ⟨hP, hK9, hD9⟩ := hB
                    rw [ht] at hP
                    try dsimp only at hw
                    subst hw
                    refine W_cs (k := (L14 : NN).length) (n := wt L14) rfl rfl ?_
                    have hD := hD9.weaken (fun _ q _ h => hf9 q.1 h)
                    obtain ⟨y72, hy72, hF⟩ := bnd_some hF
                    obtain ⟨w73, hF, ew73⟩ := app_some hF
                    obtain ⟨L74, eL74, hF⟩ := ltt_some hF
                    have hT74 : L61 = (L14 ++ y72.1) ++ w73.1 := by rw [hT, ew73]; simp only [List.append_assoc]
                    have hf9 := wA_in hD hA9 hS
                    refine va_callv (va_runV (As := [.int (15 : Int32), .long x69, .int y71.2]) (rest := []) ⟨hx, hb, hml, hown, hts⟩ (kX10_code l D ct ad15 Z (xt G L14) y71.1 _ a ((15 : Int32)) x69 y71.2 y72 hc hk hy72) (cwV 3 hts gX10_levels_X10_code rfl rfl rfl (by decide +kernel) ⟨Nat.le_of_ble_eq_true rfl, Nat.le_of_ble_eq_true rfl⟩) ⟨fun a U g mk q => by obtain ⟨q0, q1, qP, qK, qD, qZ, qN⟩ := q; exact ⟨q0, q1, qP, va_K.moved (u := U) (U := U.calling g mk a) (Vm.Alike.refl U.vm) qK, qD, sF.moved (u := U) (U := U.calling g mk a) (Vm.Alike.refl U.vm) qZ, nF.same rfl qN⟩, va_recv hK hP (ci := 10) (q0 := a) rfl (wld_o ct ad15 (xt G L14) y71.1 hc hk (by decide)), fun U hU hW => ⟨rfl, by rw [hU], by rw [hU]; exact hP, va_K.moved hW.alike hK, hD.weaken (fun _ _ _ _ => trivial), by rw [hU]; exact ((hZ.kept hS.2.1).narrow hf9).moved hW.alike, hN.warm hW⟩⟩ rfl rfl hl.1 rfl (lv_room (Nat.le_of_ble_eq_true rfl)) dX10_levels_360 (room_s hT74 hbl)) hS (fun q _ h => hf9 q h) hf9 (fun ad75 t H locs ht hvm hw hB hz1 hk1 hS => ?_)
                    have hn76 := hw
                    obtain ⟨hP, hK9, hD9⟩ := hB
                    rw [ht] at hP
                    have hD := hD9.weaken (fun _ q _ h => hf9 q.1 h)
                    rw [xt_xt, ← eL74] at hP hD
                    refine W_cs (k := L74.length) (n := wt L74) (by rw [eL74]; exact (len_s L14 y72.1).symm) (by rw [eL74]; exact (wt_app L14 y72.1).symm) ?_
                    have hT : L61 = L74 ++ w73.1 := by rw [hT74, eL74]
                    have h2 : y59.2 = w73.2 := by rw [h2, ew73]
                    have hl := lv_sub (l' := [(5, .int y2.2), (0, .ref (ad15 a))]) hl [1, 2] rfl
                    have e9 : ([(5, .int y2.2), (0, .ref (ad15 a))] : List (Nat × Value)) = [(5, .int y2.2), (0, .ref (ad75 a))] := (by first | rfl | simp only [hn76 a hc])
                    rw [e9] at hl
                    clear e9
                    have hk : (xt G L74).2.1 a = 10 := by rw [eL74]; exact xt_k _ hc hk
                    have hc : a < (xt G L74).1 := by rw [eL74]; exact xt_l _ hc
                    have hag := agr_t (xt_ge _ _) hag hn76
                    obtain rfl := Option.some.inj hF
                    have e1 : L61 = L74 := by rw [hT]; exact List.append_nil _
                    have e2 : y59.2 = y72.2 := h2
                    rw [e1] at J59
                    try rw [e2] at J59
                    exact J59 _ hag _ _ _ hP hD hS (lv_sub hl [0, 1] rfl)
                  clear hF
                  have hF := hy65
                  clear hy65
                  refine lv_icmp_ne (tgt := 332) hx hb dX10_levels_324 (by decide) (fun c77 => ?_) (fun c77 => ?_)
                  · rw [if_neg c77] at hF
                    refine lv_iconst (v := (3 : Int32)) hx hb dX10_levels_332 (by decide) ?_
                    obtain rfl := Option.some.inj hF
                    exact J65 _ _ _ hP hD hS (lv_sub hl [0, 1, 2] rfl)
                  · rw [if_pos c77] at hF
                    refine lv_bipush (v := (18 : Int32)) hx hb dX10_levels_327 (by decide) ?_
                    refine lv_goto (tgt := 333) hx hb dX10_levels_329 (by decide) ?_
                    obtain rfl := Option.some.inj hF
                    exact J65 _ _ _ hP hD hS (lv_sub hl [0, 1, 2] rfl)
            clear hF
            refine itrA_rule (fun (s12 : NN × Int32 × Int32 × DD) (r79 : NN) => (∃ t, s12.1 = L8 ++ t) → L14 = s12.1 ++ r79 → ∀ (ad78 : Nat → Nat), agr G.1 ad ad78 → ∀ (H : Heap) (locs : List Loc) (ls : Array Slot), va_P D classes (wld ct ad78 (xt G s12.1) s12.2.2.2) H → va_D A (wld ct ad78 (xt G s12.1) s12.2.2.2) → va_S A s.heap H locs → lv_has ls 12 [(10, .int s12.2.2.1), (9, .int s12.2.1), (6, .int y3.2), (5, .int y2.2), (0, .ref (ad78 a)), (2, .int p1)] → W p l e (headSpec wuX10_levels ({ frames := 5, cells := y.1.length, slots := wt y.1, locals := 175 })).room s m ([.ref (ad a), .int p0, .int p1, va_re ad p2, .int p3] : List Value).toArray below meth c H locs (s12.1 : NN).length (wt s12.1) (MQ below (va_Qv (fun (u : Nat → Nat) => agr G.1 ad u) (fun u t => kE D ct u (xt G y.1) A y.2 t) A) ([.ref (ad a), .int p0, .int p1, va_re ad p2, .int p3] : List Value).toArray s y.1.length (wt y.1) A) (F0 m 157 ls [])) ?_ _ _ _ hy11 ⟨[], (List.append_nil _).symm⟩ eL14 _ hag _ _ _ hP hD hS (lv_sub hl [0, 1, 2, 3, 4, 5] rfl)
            rintro s12 r79 ⟨z80, hF, ⟨t11, et11⟩, hwz80⟩ ⟨u11, eu11⟩ eq11 ad78 hag H locs ls hP hD hS hl
            try dsimp only at hF
            obtain ⟨L81, eL81⟩ : ∃ x, x = s12.1 ++ z80.1 := ⟨_, rfl⟩
            obtain ⟨w82, hw82⟩ : ∃ x, x = z80 := ⟨_, rfl⟩
            rw [← hw82] at hF
            have hbl : L81.length ≤ y.1.length ∧ wt L81 ≤ wt y.1 := room_d (show L14 = L81 ++ t11 by rw [eq11, et11, eL81]; simp only [List.append_assoc]) hbl14
            have hT : L81 = s12.1 ++ w82.1 := by rw [eL81, hw82]
            have h2 : z80.2 = w82.2 := by rw [hw82]
            have hk : (xt G s12.1).2.1 a = 10 := by rw [eu11]; exact xt_k _ hc hk
            have hc : a < (xt G s12.1).1 := by rw [eu11]; exact xt_l _ hc
            refine lv_iload hx hb dX10_levels_157 (lv_at hl 0 rfl) ?_
            refine lv_iload hx hb dX10_levels_159 (lv_at hl 3 rfl) ?_
            refine lv_icmp_ge (tgt := 311) hx hb dX10_levels_161 (by decide) (fun c83 => ?_) (fun c83 => ?_)
            · rw [if_pos c83] at hF
              obtain rfl := Option.some.inj hF
              have e1 : L81 = s12.1 := by rw [hT]; exact List.append_nil _
              have e2 : z80.2 = .inr ((s12.2.1, s12.2.2.1, s12.2.2.2)) := h2
              rw [e2] at hwz80
              obtain ⟨hw1, hw2⟩ := hwz80
              have e8 : L14 = s12.1 := by rw [eq11, hw2, ← eL81, e1]
              rw [e8] at K11
              try rw [← hw1] at K11
              exact K11 _ hag _ _ _ hP hD hS (lv_sub hl [3, 4, 5] rfl)
            · rw [if_neg c83] at hF
              refine lv_iload hx hb dX10_levels_164 (lv_at hl 0 rfl) ?_
              refine lv_iload hx hb dX10_levels_166 (lv_at hl 2 rfl) ?_
              obtain ⟨y84, hy84, hF⟩ := bnd_some hF
              obtain ⟨w85, hF, ew85⟩ := app_some hF
              obtain ⟨L86, eL86, hF⟩ := ltt_some hF
              have hT86 : L81 = (s12.1 ++ y84.1) ++ w85.1 := by rw [hT, ew85]; simp only [List.append_assoc]
              have hbl86 : L86.length ≤ y.1.length ∧ wt L86 ≤ wt y.1 := by rw [eL86]; exact room_d hT86 hbl
              have J84 : ∀ (ad87 : Nat → Nat), agr G.1 ad ad87 → ∀ (H : Heap) (locs : List Loc) (ls : Array Slot), va_P D classes (wld ct ad87 (xt G L86) y84.2.2) H → va_D A (wld ct ad87 (xt G L86) y84.2.2) → va_S A s.heap H locs → lv_has ls 12 [(10, .int s12.2.2.1), (9, .int y84.2.1), (6, .int y3.2), (5, .int y2.2), (0, .ref (ad87 a)), (2, .int p1)] → W p l e (headSpec wuX10_levels ({ frames := 5, cells := y.1.length, slots := wt y.1, locals := 175 })).room s m ([.ref (ad a), .int p0, .int p1, va_re ad p2, .int p3] : List Value).toArray below meth c H locs (L86 : NN).length (wt L86) (MQ below (va_Qv (fun (u : Nat → Nat) => agr G.1 ad u) (fun u t => kE D ct u (xt G y.1) A y.2 t) A) ([.ref (ad a), .int p0, .int p1, va_re ad p2, .int p3] : List Value).toArray s y.1.length (wt y.1) A) (F0 m 305 ls []) := by
                intro ad87 hag H locs ls hP hD hS hl
                have hT : L81 = L86 ++ w85.1 := by rw [hT86, eL86]
                have h2 : z80.2 = w85.2 := by rw [h2, ew85]
                have hk : (xt G L86).2.1 a = 10 := by rw [eL86]; exact xt_k _ hc hk
                have hc : a < (xt G L86).1 := by rw [eL86]; exact xt_l _ hc
                obtain ⟨x88, ex88, hF⟩ := ltt_some hF
                refine lv_iinc (v := x88) (lv' := [(10, .int x88), (9, .int y84.2.1), (6, .int y3.2), (5, .int y2.2), (0, .ref (ad87 a)), (2, .int p1)]) hx hb dX10_levels_305 hl (k := 0) rfl (by rw [ex88]; rfl) (by decide) rfl (fun ls hl => ?_)
                refine lv_goto (tgt := 157) hx hb dX10_levels_308 (by decide) ?_
                obtain rfl := Option.some.inj hF
                have e1 : L81 = L86 := by rw [hT]; exact List.append_nil _
                have e2 : z80.2 = .inl (L86, (y84.2.1, x88, y84.2.2)) := h2
                rw [e2] at hwz80
                obtain ⟨r2, er2, hwz80⟩ := hwz80
                exact hwz80 ⟨u11 ++ z80.1, by show L86 = _; rw [← e1, eL81, eu11]; simp only [List.append_assoc]⟩ (by show L14 = L86 ++ r2; rw [eq11, er2, ← e1, eL81]; simp only [List.append_assoc]) _ hag _ _ _ hP hD hS (lv_sub hl [0, 1, 2, 3, 4, 5] rfl)
              clear hF
              obtain ⟨w89, hw89⟩ : ∃ z, z = y84 := ⟨_, rfl⟩
              have hF := hy84
              rw [← hw89] at hF
              clear hy84
              have hT : L86 = s12.1 ++ w89.1 := by rw [eL86, hw89]
              have h2 : y84.2 = w89.2 := by rw [hw89]
              have hbl := hbl86
              refine lv_icmp_ge (tgt := 196) hx hb dX10_levels_168 (by decide) (fun c90 => ?_) (fun c90 => ?_)
              · rw [if_pos c90] at hF
                refine lv_aload_n hx hb dX10_levels_196 rfl (lv_at hl 4 rfl) ?_
                refine lv_iload hx hb dX10_levels_197 (lv_at hl 1 rfl) ?_
                refine lv_aload_n hx hb dX10_levels_199 rfl (lv_at hl 4 rfl) ?_
                refine va_get (D := D) (ci := 10) (v := va_re ad78 (s12.2.2.2.2 a 14)) (C := RX10) (T := TX10) (N := 20) hx hb hts (mus hf_X10) hown hK hP a (wld_o ct ad78 (xt G s12.1) s12.2.2.2 hc hk (by decide)) rfl 14 (by decide) (hts (.fieldLink RX10 24 "VideoSuite$Writer" "size" "[I") (mu mw_753)) (fun _ h9 => h9) rfl dX10_levels_200 ?_
                refine lv_iload hx hb dX10_levels_203 (lv_at hl 0 rfl) ?_
                obtain ⟨b91, ho91, hc91, hk91, hF⟩ := dr_some hF
                refine W_st (st' := [.int s12.2.2.1, .ref (ad78 b91), .int s12.2.1, .ref (ad78 a)]) (by rw [va_some ho91]) ?_
                obtain ⟨hvc, hF⟩ := chk_some hF
                refine va_iald hx hb hK hP b91 1 (wld_i ct ad78 (xt G s12.1) s12.2.2.2 hc91 hk91) rfl hvc dX10_levels_205 ?_
                obtain ⟨x92, ex92, hF⟩ := ltt_some hF
                refine lv_topi (fun zx92 ezx92 => ?_)
                obtain rfl : x92 = zx92 := ex92.trans ezx92.symm
                refine lv_iload hx hb dX10_levels_206 (lv_at hl 0 rfl) ?_
                refine lv_iload hx hb dX10_levels_208 (lv_at hl 2 rfl) ?_
                obtain ⟨y93, hy93, hF⟩ := bnd_some hF
                have J93 : ∀ (H : Heap) (locs : List Loc) (ls : Array Slot), va_P D classes (wld ct ad78 (xt G s12.1) s12.2.2.2) H → va_D A (wld ct ad78 (xt G s12.1) s12.2.2.2) → va_S A s.heap H locs → lv_has ls 12 [(10, .int s12.2.2.1), (9, .int s12.2.1), (6, .int y3.2), (5, .int y2.2), (0, .ref (ad78 a)), (2, .int p1)] → W p l e (headSpec wuX10_levels ({ frames := 5, cells := y.1.length, slots := wt y.1, locals := 175 })).room s m ([.ref (ad a), .int p0, .int p1, va_re ad p2, .int p3] : List Value).toArray below meth c H locs (s12.1 : NN).length (wt s12.1) (MQ below (va_Qv (fun (u : Nat → Nat) => agr G.1 ad u) (fun u t => kE D ct u (xt G y.1) A y.2 t) A) ([.ref (ad a), .int p0, .int p1, va_re ad p2, .int p3] : List Value).toArray s y.1.length (wt y.1) A) (F0 m 224 ls [.int y93, .int x92, .int s12.2.1, .ref (ad78 a)]) := by
                  intro H locs ls hP hD hS hl
                  obtain ⟨y94, hy94, hF⟩ := bnd_some hF
                  have hf9 := wA_in hD hA9 hS
                  refine va_callv (va_runV (As := [.int s12.2.1, .int x92, .int y93]) (rest := []) ⟨hx, hb, hml, hown, hts⟩ (kX10_cut l D ct ad78 Z (xt G s12.1) s12.2.2.2 H.size a s12.2.1 x92 y93 y94 hc hk hy94) (cwV 3 hts gX10_levels_X10_cut rfl rfl rfl (by decide +kernel) ⟨Nat.le_of_ble_eq_true rfl, Nat.le_of_ble_eq_true rfl⟩) ⟨fun a U g mk q => by obtain ⟨q0, q1, qP, qK, qD, qZ, qN⟩ := q; exact ⟨q0, q1, qP, va_K.moved (u := U) (U := U.calling g mk a) (Vm.Alike.refl U.vm) qK, qD, sF.moved (u := U) (U := U.calling g mk a) (Vm.Alike.refl U.vm) qZ, nF.same rfl qN⟩, va_recv hK hP (ci := 10) (q0 := a) rfl (wld_o ct ad78 (xt G s12.1) s12.2.2.2 hc hk (by decide)), fun U hU hW => ⟨rfl, by rw [hU], by rw [hU]; exact hP, va_K.moved hW.alike hK, hD.weaken (fun _ _ _ _ => trivial), by rw [hU]; exact ((hZ.kept hS.2.1).narrow hf9).moved hW.alike, hN.warm hW⟩⟩ rfl rfl hl.1 rfl (lv_room (Nat.le_of_ble_eq_true rfl)) dX10_levels_224 (room_d hT hbl)) hS (fun q _ h => hf9 q h) hf9 (fun u t H locs ht hvm hw hB hz1 hk1 hS => ?_)
                  obtain ⟨hP, hK9, hD9⟩ := hB
                  rw [ht] at hP
                  refine W_cs (k := (s12.1 : NN).length) (n := wt s12.1) rfl rfl ?_
                  have hD := hD9.weaken (fun _ q _ h => hf9 q.1 h)
                  refine lv_aload_n hx hb dX10_levels_227 rfl (lv_at hl 4 rfl) ?_
                  refine lv_bipush (v := (13 : Int32)) hx hb dX10_levels_228 (by decide) ?_
                  refine lv_lconst (v := (1 : Int64)) hx hb dX10_levels_230 rfl ?_
                  refine lv_aload_n hx hb dX10_levels_231 rfl (lv_at hl 4 rfl) ?_
                  refine va_get (D := D) (ci := 10) (v := .int (y94.1 a 17)) (C := RX10) (T := TX10) (N := 20) hx hb hts (mus hf_X10) hown hK hP a (wld_o ct ad78 (xt G s12.1) y94 hc hk (by decide)) rfl 17 (by decide) (hts (.fieldLink RX10 128 "VideoSuite$Writer" "prefix" "I") (mu mw_756)) (fun _ h9 => h9) rfl dX10_levels_232 ?_
                  obtain ⟨x95, ex95, hF⟩ := ltt_some hF
                  refine lv_topi (fun zx95 ezx95 => ?_)
                  obtain rfl : x95 = zx95 := ex95.trans ezx95.symm
                  refine lv_iconst (v := (1 : Int32)) hx hb dX10_levels_235 (by decide) ?_
                  refine lv_iadd hx hb dX10_levels_236 ?_
                  obtain ⟨x96, ex96, hF⟩ := ltt_some hF
                  refine lv_topi (fun zx96 ezx96 => ?_)
                  obtain rfl : x96 = zx96 := ex96.trans ezx96.symm
                  obtain ⟨y97, hy97, hF⟩ := bnd_some hF
                  obtain ⟨w98, hF, ew98⟩ := app_some hF
                  obtain ⟨L99, eL99, hF⟩ := ltt_some hF
                  have hT99 : L86 = (s12.1 ++ y97.1) ++ w98.1 := by rw [hT, ew98]; simp only [List.append_assoc]
                  have hf9 := wA_in hD hA9 hS
                  refine va_callv (va_runV (As := [.int (13 : Int32), .long (1 : Int64), .int x96]) (rest := []) ⟨hx, hb, hml, hown, hts⟩ (kX10_code l D ct ad78 Z (xt G s12.1) y94 _ a ((13 : Int32)) ((1 : Int64)) x96 y97 hc hk hy97) (cwV 3 hts gX10_levels_X10_code rfl rfl rfl (by decide +kernel) ⟨Nat.le_of_ble_eq_true rfl, Nat.le_of_ble_eq_true rfl⟩) ⟨fun a U g mk q => by obtain ⟨q0, q1, qP, qK, qD, qZ, qN⟩ := q; exact ⟨q0, q1, qP, va_K.moved (u := U) (U := U.calling g mk a) (Vm.Alike.refl U.vm) qK, qD, sF.moved (u := U) (U := U.calling g mk a) (Vm.Alike.refl U.vm) qZ, nF.same rfl qN⟩, va_recv hK hP (ci := 10) (q0 := a) rfl (wld_o ct ad78 (xt G s12.1) y94 hc hk (by decide)), fun U hU hW => ⟨rfl, by rw [hU], by rw [hU]; exact hP, va_K.moved hW.alike hK, hD.weaken (fun _ _ _ _ => trivial), by rw [hU]; exact ((hZ.kept hS.2.1).narrow hf9).moved hW.alike, hN.warm hW⟩⟩ rfl rfl hl.1 rfl (lv_room (Nat.le_of_ble_eq_true rfl)) dX10_levels_237 (room_s hT99 hbl)) hS (fun q _ h => hf9 q h) hf9 (fun ad100 t H locs ht hvm hw hB hz1 hk1 hS => ?_)
                  have hn101 := hw
                  obtain ⟨hP, hK9, hD9⟩ := hB
                  rw [ht] at hP
                  have hD := hD9.weaken (fun _ q _ h => hf9 q.1 h)
                  rw [xt_xt, ← eL99] at hP hD
                  refine W_cs (k := L99.length) (n := wt L99) (by rw [eL99]; exact (len_s s12.1 y97.1).symm) (by rw [eL99]; exact (wt_app s12.1 y97.1).symm) ?_
                  have hT : L86 = L99 ++ w98.1 := by rw [hT99, eL99]
                  have h2 : y84.2 = w98.2 := by rw [h2, ew98]
                  have hl := lv_sub (l' := [(10, .int s12.2.2.1), (9, .int s12.2.1), (6, .int y3.2), (5, .int y2.2), (0, .ref (ad78 a)), (2, .int p1)]) hl [0, 1, 2, 3, 4, 5] rfl
                  have e9 : ([(10, .int s12.2.2.1), (9, .int s12.2.1), (6, .int y3.2), (5, .int y2.2), (0, .ref (ad78 a)), (2, .int p1)] : List (Nat × Value)) = [(10, .int s12.2.2.1), (9, .int s12.2.1), (6, .int y3.2), (5, .int y2.2), (0, .ref (ad100 a)), (2, .int p1)] := (by first | rfl | simp only [hn101 a hc])
                  rw [e9] at hl
                  clear e9
                  have hk : (xt G L99).2.1 a = 10 := by rw [eL99]; exact xt_k _ hc hk
                  have hc : a < (xt G L99).1 := by rw [eL99]; exact xt_l _ hc
                  have hk91 : (xt G L99).2.1 b91 = 13 := by rw [eL99]; exact xt_k _ hc91 hk91
                  have hc91 : b91 < (xt G L99).1 := by rw [eL99]; exact xt_l _ hc91
                  have hag := agr_t (xt_ge _ _) hag hn101
                  refine lv_aload_n hx hb dX10_levels_240 rfl (lv_at hl 4 rfl) ?_
                  refine lv_bipush (v := (14 : Int32)) hx hb dX10_levels_241 (by decide) ?_
                  refine lv_aload_n hx hb dX10_levels_243 rfl (lv_at hl 4 rfl) ?_
                  refine va_get (D := D) (ci := 10) (v := .int (y97.2.1 a 18)) (C := RX10) (T := TX10) (N := 20) hx hb hts (mus hf_X10) hown hK hP a (wld_o ct ad100 (xt G L99) y97.2 hc hk (by decide)) rfl 18 (by decide) (hts (.fieldLink RX10 131 "VideoSuite$Writer" "suffix" "I") (mu mw_757)) (fun _ h9 => h9) rfl dX10_levels_244 ?_
                  obtain ⟨x102, ex102, hF⟩ := ltt_some hF
                  refine lv_topi (fun zx102 ezx102 => ?_)
                  obtain rfl : x102 = zx102 := ex102.trans ezx102.symm
                  refine lv_i2l (v := x102.toInt64) hx hb dX10_levels_247 rfl ?_
                  obtain ⟨x103, ex103, hF⟩ := ltt_some hF
                  refine lv_topl (fun zx103 ezx103 => ?_)
                  obtain rfl : x103 = zx103 := ex103.trans ezx103.symm
                  refine lv_aload_n hx hb dX10_levels_248 rfl (lv_at hl 4 rfl) ?_
                  refine va_get (D := D) (ci := 10) (v := .int (y97.2.1 a 19)) (C := RX10) (T := TX10) (N := 20) hx hb hts (mus hf_X10) hown hK hP a (wld_o ct ad100 (xt G L99) y97.2 hc hk (by decide)) rfl 19 (by decide) (hts (.fieldLink RX10 134 "VideoSuite$Writer" "suffixBits" "I") (mu mw_758)) (fun _ h9 => h9) rfl dX10_levels_249 ?_
                  obtain ⟨x104, ex104, hF⟩ := ltt_some hF
                  refine lv_topi (fun zx104 ezx104 => ?_)
                  obtain rfl : x104 = zx104 := ex104.trans ezx104.symm
                  obtain ⟨y105, hy105, hF⟩ := bnd_some hF
                  obtain ⟨w106, hF, ew106⟩ := app_some hF
                  obtain ⟨L107, eL107, hF⟩ := ltt_some hF
                  have hT107 : L86 = (L99 ++ y105.1) ++ w106.1 := by rw [hT, ew106]; simp only [List.append_assoc]
                  have hf9 := wA_in hD hA9 hS
                  refine va_callv (va_runV (As := [.int (14 : Int32), .long x103, .int x104]) (rest := []) ⟨hx, hb, hml, hown, hts⟩ (kX10_code l D ct ad100 Z (xt G L99) y97.2 _ a ((14 : Int32)) x103 x104 y105 hc hk hy105) (cwV 3 hts gX10_levels_X10_code rfl rfl rfl (by decide +kernel) ⟨Nat.le_of_ble_eq_true rfl, Nat.le_of_ble_eq_true rfl⟩) ⟨fun a U g mk q => by obtain ⟨q0, q1, qP, qK, qD, qZ, qN⟩ := q; exact ⟨q0, q1, qP, va_K.moved (u := U) (U := U.calling g mk a) (Vm.Alike.refl U.vm) qK, qD, sF.moved (u := U) (U := U.calling g mk a) (Vm.Alike.refl U.vm) qZ, nF.same rfl qN⟩, va_recv hK hP (ci := 10) (q0 := a) rfl (wld_o ct ad100 (xt G L99) y97.2 hc hk (by decide)), fun U hU hW => ⟨rfl, by rw [hU], by rw [hU]; exact hP, va_K.moved hW.alike hK, hD.weaken (fun _ _ _ _ => trivial), by rw [hU]; exact ((hZ.kept hS.2.1).narrow hf9).moved hW.alike, hN.warm hW⟩⟩ rfl rfl hl.1 rfl (lv_room (Nat.le_of_ble_eq_true rfl)) dX10_levels_252 (room_s hT107 hbl)) hS (fun q _ h => hf9 q h) hf9 (fun ad108 t H locs ht hvm hw hB hz1 hk1 hS => ?_)
                  have hn109 := hw
                  obtain ⟨hP, hK9, hD9⟩ := hB
                  rw [ht] at hP
                  have hD := hD9.weaken (fun _ q _ h => hf9 q.1 h)
                  rw [xt_xt, ← eL107] at hP hD
                  refine W_cs (k := L107.length) (n := wt L107) (by rw [eL107]; exact (len_s L99 y105.1).symm) (by rw [eL107]; exact (wt_app L99 y105.1).symm) ?_
                  have hT : L86 = L107 ++ w106.1 := by rw [hT107, eL107]
                  have h2 : y84.2 = w106.2 := by rw [h2, ew106]
                  have hl := lv_sub (l' := [(10, .int s12.2.2.1), (9, .int s12.2.1), (6, .int y3.2), (5, .int y2.2), (0, .ref (ad100 a)), (2, .int p1)]) hl [0, 1, 2, 3, 4, 5] rfl
                  have e9 : ([(10, .int s12.2.2.1), (9, .int s12.2.1), (6, .int y3.2), (5, .int y2.2), (0, .ref (ad100 a)), (2, .int p1)] : List (Nat × Value)) = [(10, .int s12.2.2.1), (9, .int s12.2.1), (6, .int y3.2), (5, .int y2.2), (0, .ref (ad108 a)), (2, .int p1)] := (by first | rfl | simp only [hn109 a hc])
                  rw [e9] at hl
                  clear e9
                  have hk : (xt G L107).2.1 a = 10 := by rw [eL107]; exact xt_k _ hc hk
                  have hc : a < (xt G L107).1 := by rw [eL107]; exact xt_l _ hc
                  have hk91 : (xt G L107).2.1 b91 = 13 := by rw [eL107]; exact xt_k _ hc91 hk91
                  have hc91 : b91 < (xt G L107).1 := by rw [eL107]; exact xt_l _ hc91
                  have hag := agr_t (xt_ge _ _) hag hn109
                  refine lv_iload hx hb dX10_levels_255 (lv_at hl 1 rfl) ?_
                  obtain ⟨y110, hy110, hF⟩ := bnd_some hF
                  have J110 : ∀ (H : Heap) (locs : List Loc) (ls : Array Slot), va_P D classes (wld ct ad108 (xt G L107) y105.2) H → va_D A (wld ct ad108 (xt G L107) y105.2) → va_S A s.heap H locs → lv_has ls 12 [(10, .int s12.2.2.1), (9, .int s12.2.1), (6, .int y3.2), (5, .int y2.2), (0, .ref (ad108 a)), (2, .int p1)] → W p l e (headSpec wuX10_levels ({ frames := 5, cells := y.1.length, slots := wt y.1, locals := 175 })).room s m ([.ref (ad a), .int p0, .int p1, va_re ad p2, .int p3] : List Value).toArray below meth c H locs (L107 : NN).length (wt L107) (MQ below (va_Qv (fun (u : Nat → Nat) => agr G.1 ad u) (fun u t => kE D ct u (xt G y.1) A y.2 t) A) ([.ref (ad a), .int p0, .int p1, va_re ad p2, .int p3] : List Value).toArray s y.1.length (wt y.1) A) (F0 m 266 ls [.int y110]) := by
                    intro H locs ls hP hD hS hl
                    refine lv_istore (lv' := [(9, .int y110), (10, .int s12.2.2.1), (6, .int y3.2), (5, .int y2.2), (0, .ref (ad108 a)), (2, .int p1)]) hx hb dX10_levels_266 hl (by decide) rfl (fun ls hl => ?_)
                    refine lv_iload hx hb dX10_levels_268 (lv_at hl 0 rfl) ?_
                    refine lv_bipush (v := (6 : Int32)) hx hb dX10_levels_270 (by decide) ?_
                    obtain ⟨y111, hy111, hF⟩ := bnd_some hF
                    have J111 : ∀ (H : Heap) (locs : List Loc) (ls : Array Slot), va_P D classes (wld ct ad108 (xt G L107) y111.2) H → va_D A (wld ct ad108 (xt G L107) y111.2) → va_S A s.heap H locs → lv_has ls 12 [(9, .int y110), (10, .int s12.2.2.1), (6, .int y3.2), (5, .int y2.2), (0, .ref (ad108 a)), (2, .int p1)] → W p l e (headSpec wuX10_levels ({ frames := 5, cells := y.1.length, slots := wt y.1, locals := 175 })).room s m ([.ref (ad a), .int p0, .int p1, va_re ad p2, .int p3] : List Value).toArray below meth c H locs (L107 : NN).length (wt L107) (MQ below (va_Qv (fun (u : Nat → Nat) => agr G.1 ad u) (fun u t => kE D ct u (xt G y.1) A y.2 t) A) ([.ref (ad a), .int p0, .int p1, va_re ad p2, .int p3] : List Value).toArray s y.1.length (wt y.1) A) (F0 m 303 ls [.int y111.1]) := by
                      intro H locs ls hP hD hS hl
                      refine lv_istore (lv' := [(9, .int y111.1), (10, .int s12.2.2.1), (6, .int y3.2), (5, .int y2.2), (0, .ref (ad108 a)), (2, .int p1)]) hx hb dX10_levels_303 hl (by decide) rfl (fun ls hl => ?_)
                      obtain rfl := Option.some.inj hF
                      have e1 : L86 = L107 := by rw [hT]; exact List.append_nil _
                      have e2 : y84.2 = (y111.1, y111.2) := h2
                      rw [e1] at J84
                      try rw [e2] at J84
                      exact J84 _ hag _ _ _ hP hD hS (lv_sub hl [1, 0, 2, 3, 4, 5] rfl)
                    clear hF
                    have hF := hy111
                    clear hy111
                    refine lv_icmp_ge (tgt := 301) hx hb dX10_levels_272 (by decide) (fun c112 => ?_) (fun c112 => ?_)
                    · rw [if_pos c112] at hF
                      refine lv_iload hx hb dX10_levels_301 (lv_at hl 0 rfl) ?_
                      obtain rfl := Option.some.inj hF
                      exact J111 _ _ _ hP hD hS (lv_sub hl [0, 1, 2, 3, 4, 5] rfl)
                    · rw [if_neg c112] at hF
                      refine lv_aload_n hx hb dX10_levels_275 rfl (lv_at hl 4 rfl) ?_
                      refine va_get (D := D) (ci := 10) (v := va_re ad108 (y105.2.2 a 14)) (C := RX10) (T := TX10) (N := 20) hx hb hts (mus hf_X10) hown hK hP a (wld_o ct ad108 (xt G L107) y105.2 hc hk (by decide)) rfl 14 (by decide) (hts (.fieldLink RX10 24 "VideoSuite$Writer" "size" "[I") (mu mw_753)) (fun _ h9 => h9) rfl dX10_levels_276 ?_
                      refine lv_iload hx hb dX10_levels_279 (lv_at hl 1 rfl) ?_
                      obtain ⟨b113, ho113, hc113, hk113, hF⟩ := dr_some hF
                      refine W_st (st' := [.int s12.2.2.1, .ref (ad108 b113)]) (by rw [va_some ho113]) ?_
                      obtain ⟨hvc, hF⟩ := chk_some hF
                      refine va_iald hx hb hK hP b113 1 (wld_i ct ad108 (xt G L107) y105.2 hc113 hk113) rfl hvc dX10_levels_281 ?_
                      obtain ⟨x114, ex114, hF⟩ := ltt_some hF
                      refine lv_topi (fun zx114 ezx114 => ?_)
                      obtain rfl : x114 = zx114 := ex114.trans ezx114.symm
                      refine va_mabs hx hb (hml.trans hl.1.symm) hown (hts (.methodLink RX10 137 Lib.Math.abs.name) (mu mw_2699)) (hts (.static Lib.Math.abs.name) (mu mw_990)) (hts (.initialized "java/lang/Math") (mu mw_183)) (hts (.code Lib.Math.abs.name Lib.Math.abs.code 1 (some .int)) (mu mw_991)) (Nat.le_of_ble_eq_true rfl) (Nat.le_of_ble_eq_true rfl) (room_d hT hbl).1 (room_d hT hbl).2 dX10_levels_282 ?_
                      obtain ⟨x115, ex115, hF⟩ := ltt_some hF
                      refine lv_topi (fun zx115 ezx115 => ?_)
                      obtain rfl : x115 = zx115 := ex115.trans ezx115.symm
                      refine lv_iconst (v := (3 : Int32)) hx hb dX10_levels_285 (by decide) ?_
                      refine lv_iload hx hb dX10_levels_286 (lv_at hl 0 rfl) ?_
                      refine lv_iconst (v := (1 : Int32)) hx hb dX10_levels_288 (by decide) ?_
                      refine lv_isub hx hb dX10_levels_289 ?_
                      obtain ⟨x116, ex116, hF⟩ := ltt_some hF
                      refine lv_topi (fun zx116 ezx116 => ?_)
                      obtain rfl : x116 = zx116 := ex116.trans ezx116.symm
                      refine lv_ishl hx hb dX10_levels_290 ?_
                      obtain ⟨x117, ex117, hF⟩ := ltt_some hF
                      refine lv_topi (fun zx117 ezx117 => ?_)
                      obtain rfl : x117 = zx117 := ex117.trans ezx117.symm
                      obtain ⟨y118, hy118, hF⟩ := bnd_some hF
                      have J118 : ∀ (H : Heap) (locs : List Loc) (ls : Array Slot), va_P D classes (wld ct ad108 (xt G L107) y105.2) H → va_D A (wld ct ad108 (xt G L107) y105.2) → va_S A s.heap H locs → lv_has ls 12 [(9, .int y110), (10, .int s12.2.2.1), (6, .int y3.2), (5, .int y2.2), (0, .ref (ad108 a)), (2, .int p1)] → W p l e (headSpec wuX10_levels ({ frames := 5, cells := y.1.length, slots := wt y.1, locals := 175 })).room s m ([.ref (ad a), .int p0, .int p1, va_re ad p2, .int p3] : List Value).toArray below meth c H locs (L107 : NN).length (wt L107) (MQ below (va_Qv (fun (u : Nat → Nat) => agr G.1 ad u) (fun u t => kE D ct u (xt G y.1) A y.2 t) A) ([.ref (ad a), .int p0, .int p1, va_re ad p2, .int p3] : List Value).toArray s y.1.length (wt y.1) A) (F0 m 303 ls [.int y118]) := by
                        intro H locs ls hP hD hS hl
                        obtain rfl := Option.some.inj hF
                        exact J111 _ _ _ hP hD hS (lv_sub hl [0, 1, 2, 3, 4, 5] rfl)
                      clear hF
                      have hF := hy118
                      clear hy118
                      refine lv_icmp_le (tgt := 301) hx hb dX10_levels_291 (by decide) (fun c119 => ?_) (fun c119 => ?_)
                      · rw [if_pos c119] at hF
                        refine lv_iload hx hb dX10_levels_301 (lv_at hl 0 rfl) ?_
                        obtain rfl := Option.some.inj hF
                        exact J118 _ _ _ hP hD hS (lv_sub hl [0, 1, 2, 3, 4, 5] rfl)
                      · rw [if_neg c119] at hF
                        refine lv_iload hx hb dX10_levels_294 (lv_at hl 0 rfl) ?_
                        refine lv_iconst (v := (1 : Int32)) hx hb dX10_levels_296 (by decide) ?_
                        refine lv_iadd hx hb dX10_levels_297 ?_
                        obtain ⟨x120, ex120, hF⟩ := ltt_some hF
                        refine lv_topi (fun zx120 ezx120 => ?_)
                        obtain rfl : x120 = zx120 := ex120.trans ezx120.symm
                        refine lv_goto (tgt := 303) hx hb dX10_levels_298 (by decide) ?_
                        obtain rfl := Option.some.inj hF
                        exact J118 _ _ _ hP hD hS (lv_sub hl [0, 1, 2, 3, 4, 5] rfl)
                  clear hF
                  have hF := hy110
                  clear hy110
                  refine lv_if_ne (tgt := 264) hx hb dX10_levels_257 (by decide) (fun c121 => ?_) (fun c121 => ?_)
                  · rw [if_neg c121] at hF
                    refine lv_iload hx hb dX10_levels_264 (lv_at hl 1 rfl) ?_
                    obtain rfl := Option.some.inj hF
                    exact J110 _ _ _ hP hD hS (lv_sub hl [0, 1, 2, 3, 4, 5] rfl)
                  · rw [if_pos c121] at hF
                    refine lv_iconst (v := (1 : Int32)) hx hb dX10_levels_260 (by decide) ?_
                    refine lv_goto (tgt := 266) hx hb dX10_levels_261 (by decide) ?_
                    obtain rfl := Option.some.inj hF
                    exact J110 _ _ _ hP hD hS (lv_sub hl [0, 1, 2, 3, 4, 5] rfl)
                clear hF
                have hF := hy93
                clear hy93
                refine lv_icmp_ne (tgt := 223) hx hb dX10_levels_210 (by decide) (fun c122 => ?_) (fun c122 => ?_)
                · rw [if_neg c122] at hF
                  refine lv_iconst (v := (0 : Int32)) hx hb dX10_levels_223 (by decide) ?_
                  obtain rfl := Option.some.inj hF
                  exact J93 _ _ _ hP hD hS (lv_sub hl [0, 1, 2, 3, 4, 5] rfl)
                · rw [if_pos c122] at hF
                  refine lv_iload hx hb dX10_levels_213 (lv_at hl 2 rfl) ?_
                  refine lv_iconst (v := (3 : Int32)) hx hb dX10_levels_215 (by decide) ?_
                  obtain ⟨y123, hy123, hF⟩ := bnd_some hF
                  have J123 : ∀ (H : Heap) (locs : List Loc) (ls : Array Slot), va_P D classes (wld ct ad78 (xt G s12.1) s12.2.2.2) H → va_D A (wld ct ad78 (xt G s12.1) s12.2.2.2) → va_S A s.heap H locs → lv_has ls 12 [(10, .int s12.2.2.1), (9, .int s12.2.1), (6, .int y3.2), (5, .int y2.2), (0, .ref (ad78 a)), (2, .int p1)] → W p l e (headSpec wuX10_levels ({ frames := 5, cells := y.1.length, slots := wt y.1, locals := 175 })).room s m ([.ref (ad a), .int p0, .int p1, va_re ad p2, .int p3] : List Value).toArray below meth c H locs (s12.1 : NN).length (wt s12.1) (MQ below (va_Qv (fun (u : Nat → Nat) => agr G.1 ad u) (fun u t => kE D ct u (xt G y.1) A y.2 t) A) ([.ref (ad a), .int p0, .int p1, va_re ad p2, .int p3] : List Value).toArray s y.1.length (wt y.1) A) (F0 m 224 ls [.int y123, .int x92, .int s12.2.1, .ref (ad78 a)]) := by
                    intro H locs ls hP hD hS hl
                    obtain rfl := Option.some.inj hF
                    exact J93 _ _ _ hP hD hS (lv_sub hl [0, 1, 2, 3, 4, 5] rfl)
                  clear hF
                  have hF := hy123
                  clear hy123
                  refine lv_icmp_ge (tgt := 223) hx hb dX10_levels_216 (by decide) (fun c124 => ?_) (fun c124 => ?_)
                  · rw [if_pos c124] at hF
                    refine lv_iconst (v := (0 : Int32)) hx hb dX10_levels_223 (by decide) ?_
                    obtain rfl := Option.some.inj hF
                    exact J123 _ _ _ hP hD hS (lv_sub hl [0, 1, 2, 3, 4, 5] rfl)
                  · rw [if_neg c124] at hF
                    refine lv_iconst (v := (1 : Int32)) hx hb dX10_levels_219 (by decide) ?_
                    refine lv_goto (tgt := 224) hx hb dX10_levels_220 (by decide) ?_
                    obtain rfl := Option.some.inj hF
                    exact J123 _ _ _ hP hD hS (lv_sub hl [0, 1, 2, 3, 4, 5] rfl)
              · rw [if_neg c90] at hF
                refine lv_aload_n hx hb dX10_levels_171 rfl (lv_at hl 4 rfl) ?_
                refine lv_bipush (v := (12 : Int32)) hx hb dX10_levels_172 (by decide) ?_
                refine lv_aload_n hx hb dX10_levels_174 rfl (lv_at hl 4 rfl) ?_
                refine va_get (D := D) (ci := 10) (v := va_re ad78 (s12.2.2.2.2 a 14)) (C := RX10) (T := TX10) (N := 20) hx hb hts (mus hf_X10) hown hK hP a (wld_o ct ad78 (xt G s12.1) s12.2.2.2 hc hk (by decide)) rfl 14 (by decide) (hts (.fieldLink RX10 24 "VideoSuite$Writer" "size" "[I") (mu mw_753)) (fun _ h9 => h9) rfl dX10_levels_175 ?_
                refine lv_iload hx hb dX10_levels_178 (lv_at hl 0 rfl) ?_
                obtain ⟨b125, ho125, hc125, hk125, hF⟩ := dr_some hF
                refine W_st (st' := [.int s12.2.2.1, .ref (ad78 b125), .int (12 : Int32), .ref (ad78 a)]) (by rw [va_some ho125]) ?_
                obtain ⟨hvc, hF⟩ := chk_some hF
                refine va_iald hx hb hK hP b125 1 (wld_i ct ad78 (xt G s12.1) s12.2.2.2 hc125 hk125) rfl hvc dX10_levels_180 ?_
                obtain ⟨x126, ex126, hF⟩ := ltt_some hF
                refine lv_topi (fun zx126 ezx126 => ?_)
                obtain rfl : x126 = zx126 := ex126.trans ezx126.symm
                obtain ⟨y127, hy127, hF⟩ := bnd_some hF
                have J127 : ∀ (H : Heap) (locs : List Loc) (ls : Array Slot), va_P D classes (wld ct ad78 (xt G s12.1) s12.2.2.2) H → va_D A (wld ct ad78 (xt G s12.1) s12.2.2.2) → va_S A s.heap H locs → lv_has ls 12 [(10, .int s12.2.2.1), (9, .int s12.2.1), (6, .int y3.2), (5, .int y2.2), (0, .ref (ad78 a)), (2, .int p1)] → W p l e (headSpec wuX10_levels ({ frames := 5, cells := y.1.length, slots := wt y.1, locals := 175 })).room s m ([.ref (ad a), .int p0, .int p1, va_re ad p2, .int p3] : List Value).toArray below meth c H locs (s12.1 : NN).length (wt s12.1) (MQ below (va_Qv (fun (u : Nat → Nat) => agr G.1 ad u) (fun u t => kE D ct u (xt G y.1) A y.2 t) A) ([.ref (ad a), .int p0, .int p1, va_re ad p2, .int p3] : List Value).toArray s y.1.length (wt y.1) A) (F0 m 189 ls [.long y127, .int (12 : Int32), .ref (ad78 a)]) := by
                  intro H locs ls hP hD hS hl
                  refine lv_iconst (v := (1 : Int32)) hx hb dX10_levels_189 (by decide) ?_
                  obtain ⟨y128, hy128, hF⟩ := bnd_some hF
                  obtain ⟨w129, hF, ew129⟩ := app_some hF
                  obtain ⟨L130, eL130, hF⟩ := ltt_some hF
                  have hT130 : L86 = (s12.1 ++ y128.1) ++ w129.1 := by rw [hT, ew129]; simp only [List.append_assoc]
                  have hf9 := wA_in hD hA9 hS
                  refine va_callv (va_runV (As := [.int (12 : Int32), .long y127, .int (1 : Int32)]) (rest := []) ⟨hx, hb, hml, hown, hts⟩ (kX10_code l D ct ad78 Z (xt G s12.1) s12.2.2.2 _ a ((12 : Int32)) y127 ((1 : Int32)) y128 hc hk hy128) (cwV 3 hts gX10_levels_X10_code rfl rfl rfl (by decide +kernel) ⟨Nat.le_of_ble_eq_true rfl, Nat.le_of_ble_eq_true rfl⟩) ⟨fun a U g mk q => by obtain ⟨q0, q1, qP, qK, qD, qZ, qN⟩ := q; exact ⟨q0, q1, qP, va_K.moved (u := U) (U := U.calling g mk a) (Vm.Alike.refl U.vm) qK, qD, sF.moved (u := U) (U := U.calling g mk a) (Vm.Alike.refl U.vm) qZ, nF.same rfl qN⟩, va_recv hK hP (ci := 10) (q0 := a) rfl (wld_o ct ad78 (xt G s12.1) s12.2.2.2 hc hk (by decide)), fun U hU hW => ⟨rfl, by rw [hU], by rw [hU]; exact hP, va_K.moved hW.alike hK, hD.weaken (fun _ _ _ _ => trivial), by rw [hU]; exact ((hZ.kept hS.2.1).narrow hf9).moved hW.alike, hN.warm hW⟩⟩ rfl rfl hl.1 rfl (lv_room (Nat.le_of_ble_eq_true rfl)) dX10_levels_190 (room_s hT130 hbl)) hS (fun q _ h => hf9 q h) hf9 (fun ad131 t H locs ht hvm hw hB hz1 hk1 hS => ?_)
                  have hn132 := hw
                  obtain ⟨hP, hK9, hD9⟩ := hB
                  rw [ht] at hP
                  have hD := hD9.weaken (fun _ q _ h => hf9 q.1 h)
                  rw [xt_xt, ← eL130] at hP hD
                  refine W_cs (k := L130.length) (n := wt L130) (by rw [eL130]; exact (len_s s12.1 y128.1).symm) (by rw [eL130]; exact (wt_app s12.1 y128.1).symm) ?_
                  have hT : L86 = L130 ++ w129.1 := by rw [hT130, eL130]
                  have h2 : y84.2 = w129.2 := by rw [h2, ew129]
                  have hl := lv_sub (l' := [(10, .int s12.2.2.1), (9, .int s12.2.1), (6, .int y3.2), (5, .int y2.2), (0, .ref (ad78 a)), (2, .int p1)]) hl [0, 1, 2, 3, 4, 5] rfl
                  have e9 : ([(10, .int s12.2.2.1), (9, .int s12.2.1), (6, .int y3.2), (5, .int y2.2), (0, .ref (ad78 a)), (2, .int p1)] : List (Nat × Value)) = [(10, .int s12.2.2.1), (9, .int s12.2.1), (6, .int y3.2), (5, .int y2.2), (0, .ref (ad131 a)), (2, .int p1)] := (by first | rfl | simp only [hn132 a hc])
                  rw [e9] at hl
                  clear e9
                  have hk : (xt G L130).2.1 a = 10 := by rw [eL130]; exact xt_k _ hc hk
                  have hc : a < (xt G L130).1 := by rw [eL130]; exact xt_l _ hc
                  have hk125 : (xt G L130).2.1 b125 = 13 := by rw [eL130]; exact xt_k _ hc125 hk125
                  have hc125 : b125 < (xt G L130).1 := by rw [eL130]; exact xt_l _ hc125
                  have hag := agr_t (xt_ge _ _) hag hn132
                  refine lv_goto (tgt := 305) hx hb dX10_levels_193 (by decide) ?_
                  obtain rfl := Option.some.inj hF
                  have e1 : L86 = L130 := by rw [hT]; exact List.append_nil _
                  have e2 : y84.2 = (s12.2.1, y128.2) := h2
                  rw [e1] at J84
                  try rw [e2] at J84
                  exact J84 _ hag _ _ _ hP hD hS (lv_sub hl [0, 1, 2, 3, 4, 5] rfl)
                clear hF
                have hF := hy127
                clear hy127
                refine lv_if_ge (tgt := 188) hx hb dX10_levels_181 (by decide) (fun c133 => ?_) (fun c133 => ?_)
                · rw [if_pos c133] at hF
                  refine lv_lconst (v := (0 : Int64)) hx hb dX10_levels_188 rfl ?_
                  obtain rfl := Option.some.inj hF
                  exact J127 _ _ _ hP hD hS (lv_sub hl [0, 1, 2, 3, 4, 5] rfl)
                · rw [if_neg c133] at hF
                  refine lv_lconst (v := (1 : Int64)) hx hb dX10_levels_184 rfl ?_
                  refine lv_goto (tgt := 189) hx hb dX10_levels_185 (by decide) ?_
                  obtain rfl := Option.some.inj hF
                  exact J127 _ _ _ hP hD hS (lv_sub hl [0, 1, 2, 3, 4, 5] rfl)
          clear hF
          have hF := hy10
          clear hy10
          refine lv_icmp_le (tgt := 151) hx hb dX10_levels_138 (by decide) (fun c134 => ?_) (fun c134 => ?_)
          · rw [if_pos c134] at hF
            refine lv_iconst (v := (0 : Int32)) hx hb dX10_levels_151 (by decide) ?_
            obtain rfl := Option.some.inj hF
            exact J10 _ _ _ hP hD hS (lv_sub hl [0, 1, 2, 3] rfl)
          · rw [if_neg c134] at hF
            refine lv_iload hx hb dX10_levels_141 (lv_at hl 0 rfl) ?_
            refine lv_iconst (v := (3 : Int32)) hx hb dX10_levels_143 (by decide) ?_
            obtain ⟨y135, hy135, hF⟩ := bnd_some hF
            have J135 : ∀ (H : Heap) (locs : List Loc) (ls : Array Slot), va_P D classes (wld ct ad9 (xt G L8) y6.2) H → va_D A (wld ct ad9 (xt G L8) y6.2) → va_S A s.heap H locs → lv_has ls 12 [(6, .int y3.2), (5, .int y2.2), (0, .ref (ad9 a)), (2, .int p1)] → W p l e (headSpec wuX10_levels ({ frames := 5, cells := y.1.length, slots := wt y.1, locals := 175 })).room s m ([.ref (ad a), .int p0, .int p1, va_re ad p2, .int p3] : List Value).toArray below meth c H locs (L8 : NN).length (wt L8) (MQ below (va_Qv (fun (u : Nat → Nat) => agr G.1 ad u) (fun u t => kE D ct u (xt G y.1) A y.2 t) A) ([.ref (ad a), .int p0, .int p1, va_re ad p2, .int p3] : List Value).toArray s y.1.length (wt y.1) A) (F0 m 152 ls [.int y135]) := by
              intro H locs ls hP hD hS hl
              obtain rfl := Option.some.inj hF
              exact J10 _ _ _ hP hD hS (lv_sub hl [0, 1, 2, 3] rfl)
            clear hF
            have hF := hy135
            clear hy135
            refine lv_icmp_ge (tgt := 151) hx hb dX10_levels_144 (by decide) (fun c136 => ?_) (fun c136 => ?_)
            · rw [if_pos c136] at hF
              refine lv_iconst (v := (0 : Int32)) hx hb dX10_levels_151 (by decide) ?_
              obtain rfl := Option.some.inj hF
              exact J135 _ _ _ hP hD hS (lv_sub hl [0, 1, 2, 3] rfl)
            · rw [if_neg c136] at hF
              refine lv_iconst (v := (1 : Int32)) hx hb dX10_levels_147 (by decide) ?_
              refine lv_goto (tgt := 152) hx hb dX10_levels_148 (by decide) ?_
              obtain rfl := Option.some.inj hF
              exact J135 _ _ _ hP hD hS (lv_sub hl [0, 1, 2, 3] rfl)
        clear hF
        obtain ⟨w137, hw137⟩ : ∃ z, z = y6 := ⟨_, rfl⟩
        have hF := hy6
        rw [← hw137] at hF
        clear hy6
        have hT : L8 = [] ++ w137.1 := by rw [eL8, hw137]
        have h2 : y6.2 = w137.2 := by rw [hw137]
        have hbl := hbl8
        refine lv_icmp_ne (tgt := 113) hx hb dX10_levels_78 (by decide) (fun c138 => ?_) (fun c138 => ?_)
        · rw [if_neg c138] at hF
          refine lv_aload_n hx hb dX10_levels_113 rfl (lv_at hl 4 rfl) ?_
          refine lv_bipush (v := (11 : Int32)) hx hb dX10_levels_114 (by decide) ?_
          refine lv_iload hx hb dX10_levels_116 (lv_at hl 1 rfl) ?_
          refine lv_iload hx hb dX10_levels_118 (lv_at hl 0 rfl) ?_
          obtain ⟨y139, hy139, hF⟩ := bnd_some hF
          have hf9 := wA_in hD hA9 hS
          refine va_calli (va_runS (As := [.int y4, .int y5]) (rest := [.int (11 : Int32), .ref (ad a)]) ⟨hx, hb, hml, hown, hts⟩ (kX5_valueOf l D ct ad Z (xt G []) y3.1 H.size y4 y5 y139 hy139) (va_cwS 2 hts gX10_levels_X5_valueOf rfl rfl rfl (by decide +kernel) ⟨Nat.le_of_ble_eq_true rfl, Nat.le_of_ble_eq_true rfl⟩) ⟨fun a U g mk q => by obtain ⟨q0, q1, qP, qK, qD, qZ, qN⟩ := q; exact ⟨q0, q1, qP, va_K.moved (u := U) (U := U.calling g mk a) (Vm.Alike.refl U.vm) qK, qD, sF.moved (u := U) (U := U.calling g mk a) (Vm.Alike.refl U.vm) qZ, nF.same rfl qN⟩, fun U hU hW => ⟨rfl, by rw [hU], by rw [hU]; exact hP, va_K.moved hW.alike hK, hD.weaken (fun _ _ _ _ => trivial), by rw [hU]; exact ((hZ.kept hS.2.1).narrow hf9).moved hW.alike, hN.warm hW⟩⟩ rfl rfl hl.1 rfl (lv_room (Nat.le_of_ble_eq_true rfl)) dX10_levels_120 (room_d hT hbl)) hS (fun q _ h => hf9 q h) hf9 (fun r u t H locs ht hvm hw hB hz1 hk1 hS => ?_)
          obtain ⟨hP, hK9, hD9⟩ := hB
          rw [ht] at hP
          try dsimp only at hw
          subst hw
          refine W_cs (k := ([] : NN).length) (n := wt []) rfl rfl ?_
          have hD := hD9.weaken (fun _ q _ h => hf9 q.1 h)
          refine lv_i2l (v := y139.2.toInt64) hx hb dX10_levels_123 rfl ?_
          obtain ⟨x140, ex140, hF⟩ := ltt_some hF
          refine lv_topl (fun zx140 ezx140 => ?_)
          obtain rfl : x140 = zx140 := ex140.trans ezx140.symm
          refine lv_iload hx hb dX10_levels_124 (lv_at hl 1 rfl) ?_
          refine lv_iload hx hb dX10_levels_126 (lv_at hl 0 rfl) ?_
          obtain ⟨y141, hy141, hF⟩ := bnd_some hF
          have hf9 := wA_in hD hA9 hS
          refine va_calli (va_runS (As := [.int y4, .int y5]) (rest := [.long x140, .int (11 : Int32), .ref (ad a)]) ⟨hx, hb, hml, hown, hts⟩ (kX5_lengthOf l D ct ad Z (xt G []) y139.1 H.size y4 y5 y141 hy141) (va_cwS 2 hts gX10_levels_X5_lengthOf rfl rfl rfl (by decide +kernel) ⟨Nat.le_of_ble_eq_true rfl, Nat.le_of_ble_eq_true rfl⟩) ⟨fun a U g mk q => by obtain ⟨q0, q1, qP, qK, qD, qZ, qN⟩ := q; exact ⟨q0, q1, qP, va_K.moved (u := U) (U := U.calling g mk a) (Vm.Alike.refl U.vm) qK, qD, sF.moved (u := U) (U := U.calling g mk a) (Vm.Alike.refl U.vm) qZ, nF.same rfl qN⟩, fun U hU hW => ⟨rfl, by rw [hU], by rw [hU]; exact hP, va_K.moved hW.alike hK, hD.weaken (fun _ _ _ _ => trivial), by rw [hU]; exact ((hZ.kept hS.2.1).narrow hf9).moved hW.alike, hN.warm hW⟩⟩ rfl rfl hl.1 rfl (lv_room (Nat.le_of_ble_eq_true rfl)) dX10_levels_128 (room_d hT hbl)) hS (fun q _ h => hf9 q h) hf9 (fun r u t H locs ht hvm hw hB hz1 hk1 hS => ?_)
          obtain ⟨hP, hK9, hD9⟩ := hB
          rw [ht] at hP
          try dsimp only at hw
          subst hw
          refine W_cs (k := ([] : NN).length) (n := wt []) rfl rfl ?_
          have hD := hD9.weaken (fun _ q _ h => hf9 q.1 h)
          obtain ⟨y142, hy142, hF⟩ := bnd_some hF
          obtain ⟨w143, hF, ew143⟩ := app_some hF
          obtain ⟨L144, eL144, hF⟩ := ltt_some hF
          have hT144 : L8 = ([] ++ y142.1) ++ w143.1 := by rw [hT, ew143]; simp only [List.append_assoc]
          have hf9 := wA_in hD hA9 hS
          refine va_callv (va_runV (As := [.int (11 : Int32), .long x140, .int y141.2]) (rest := []) ⟨hx, hb, hml, hown, hts⟩ (kX10_code l D ct ad Z (xt G []) y141.1 _ a ((11 : Int32)) x140 y141.2 y142 hc hk hy142) (cwV 3 hts gX10_levels_X10_code rfl rfl rfl (by decide +kernel) ⟨Nat.le_of_ble_eq_true rfl, Nat.le_of_ble_eq_true rfl⟩) ⟨fun a U g mk q => by obtain ⟨q0, q1, qP, qK, qD, qZ, qN⟩ := q; exact ⟨q0, q1, qP, va_K.moved (u := U) (U := U.calling g mk a) (Vm.Alike.refl U.vm) qK, qD, sF.moved (u := U) (U := U.calling g mk a) (Vm.Alike.refl U.vm) qZ, nF.same rfl qN⟩, va_recv hK hP (ci := 10) (q0 := a) rfl (wld_o ct ad (xt G []) y141.1 hc hk (by decide)), fun U hU hW => ⟨rfl, by rw [hU], by rw [hU]; exact hP, va_K.moved hW.alike hK, hD.weaken (fun _ _ _ _ => trivial), by rw [hU]; exact ((hZ.kept hS.2.1).narrow hf9).moved hW.alike, hN.warm hW⟩⟩ rfl rfl hl.1 rfl (lv_room (Nat.le_of_ble_eq_true rfl)) dX10_levels_131 (room_s hT144 hbl)) hS (fun q _ h => hf9 q h) hf9 (fun ad145 t H locs ht hvm hw hB hz1 hk1 hS => ?_)
          have hn146 := hw
          obtain ⟨hP, hK9, hD9⟩ := hB
          rw [ht] at hP
          have hD := hD9.weaken (fun _ q _ h => hf9 q.1 h)
          rw [xt_xt, ← eL144] at hP hD
          refine W_cs (k := L144.length) (n := wt L144) (by rw [eL144]; exact (len_s [] y142.1).symm) (by rw [eL144]; exact (wt_app [] y142.1).symm) ?_
          have hT : L8 = L144 ++ w143.1 := by rw [hT144, eL144]
          have h2 : y6.2 = w143.2 := by rw [h2, ew143]
          have hl := lv_sub (l' := [(6, .int y3.2), (5, .int y2.2), (0, .ref (ad a)), (2, .int p1)]) hl [2, 3, 4, 6] rfl
          have e9 : ([(6, .int y3.2), (5, .int y2.2), (0, .ref (ad a)), (2, .int p1)] : List (Nat × Value)) = [(6, .int y3.2), (5, .int y2.2), (0, .ref (ad145 a)), (2, .int p1)] := (by first | rfl | simp only [hn146 a hc])
          rw [e9] at hl
          clear e9
          have hk : (xt G L144).2.1 a = 10 := by rw [eL144]; exact xt_k _ hc hk
          have hc : a < (xt G L144).1 := by rw [eL144]; exact xt_l _ hc
          have hag := agr_t (xt_ge _ _) hag hn146
          obtain rfl := Option.some.inj hF
          have e1 : L8 = L144 := by rw [hT]; exact List.append_nil _
          have e2 : y6.2 = y142.2 := h2
          rw [e1] at J6
          try rw [e2] at J6
          exact J6 _ hag _ _ _ hP hD hS (lv_sub hl [0, 1, 2, 3] rfl)
        · rw [if_pos c138] at hF
          refine lv_aload_n hx hb dX10_levels_81 rfl (lv_at hl 4 rfl) ?_
          refine lv_bipush (v := (11 : Int32)) hx hb dX10_levels_82 (by decide) ?_
          refine lv_iload hx hb dX10_levels_84 (lv_at hl 3 rfl) ?_
          obtain ⟨y147, hy147, hF⟩ := bnd_some hF
          have J147 : ∀ (H : Heap) (locs : List Loc) (ls : Array Slot), va_P D classes (wld ct ad (xt G []) y3.1) H → va_D A (wld ct ad (xt G []) y3.1) → va_S A s.heap H locs → lv_has ls 12 [(8, .int y5), (7, .int y4), (6, .int y3.2), (5, .int y2.2), (0, .ref (ad a)), (1, .int p0), (2, .int p1), (3, va_re ad p2), (4, .int p3)] → W p l e (headSpec wuX10_levels ({ frames := 5, cells := y.1.length, slots := wt y.1, locals := 175 })).room s m ([.ref (ad a), .int p0, .int p1, va_re ad p2, .int p3] : List Value).toArray below meth c H locs ([] : NN).length (wt []) (MQ below (va_Qv (fun (u : Nat → Nat) => agr G.1 ad u) (fun u t => kE D ct u (xt G y.1) A y.2 t) A) ([.ref (ad a), .int p0, .int p1, va_re ad p2, .int p3] : List Value).toArray s y.1.length (wt y.1) A) (F0 m 105 ls [.long y147, .int (11 : Int32), .ref (ad a)]) := by
            intro H locs ls hP hD hS hl
            refine lv_bipush (v := (6 : Int32)) hx hb dX10_levels_105 (by decide) ?_
            obtain ⟨y148, hy148, hF⟩ := bnd_some hF
            obtain ⟨w149, hF, ew149⟩ := app_some hF
            obtain ⟨L150, eL150, hF⟩ := ltt_some hF
            have hT150 : L8 = ([] ++ y148.1) ++ w149.1 := by rw [hT, ew149]; simp only [List.append_assoc]
            have hf9 := wA_in hD hA9 hS
            refine va_callv (va_runV (As := [.int (11 : Int32), .long y147, .int (6 : Int32)]) (rest := []) ⟨hx, hb, hml, hown, hts⟩ (kX10_code l D ct ad Z (xt G []) y3.1 _ a ((11 : Int32)) y147 ((6 : Int32)) y148 hc hk hy148) (cwV 3 hts gX10_levels_X10_code rfl rfl rfl (by decide +kernel) ⟨Nat.le_of_ble_eq_true rfl, Nat.le_of_ble_eq_true rfl⟩) ⟨fun a U g mk q => by obtain ⟨q0, q1, qP, qK, qD, qZ, qN⟩ := q; exact ⟨q0, q1, qP, va_K.moved (u := U) (U := U.calling g mk a) (Vm.Alike.refl U.vm) qK, qD, sF.moved (u := U) (U := U.calling g mk a) (Vm.Alike.refl U.vm) qZ, nF.same rfl qN⟩, va_recv hK hP (ci := 10) (q0 := a) rfl (wld_o ct ad (xt G []) y3.1 hc hk (by decide)), fun U hU hW => ⟨rfl, by rw [hU], by rw [hU]; exact hP, va_K.moved hW.alike hK, hD.weaken (fun _ _ _ _ => trivial), by rw [hU]; exact ((hZ.kept hS.2.1).narrow hf9).moved hW.alike, hN.warm hW⟩⟩ rfl rfl hl.1 rfl (lv_room (Nat.le_of_ble_eq_true rfl)) dX10_levels_107 (room_s hT150 hbl)) hS (fun q _ h => hf9 q h) hf9 (fun ad151 t H locs ht hvm hw hB hz1 hk1 hS => ?_)
            have hn152 := hw
            obtain ⟨hP, hK9, hD9⟩ := hB
            rw [ht] at hP
            have hD := hD9.weaken (fun _ q _ h => hf9 q.1 h)
            rw [xt_xt, ← eL150] at hP hD
            refine W_cs (k := L150.length) (n := wt L150) (by rw [eL150]; exact (len_s [] y148.1).symm) (by rw [eL150]; exact (wt_app [] y148.1).symm) ?_
            have hT : L8 = L150 ++ w149.1 := by rw [hT150, eL150]
            have h2 : y6.2 = w149.2 := by rw [h2, ew149]
            have hl := lv_sub (l' := [(6, .int y3.2), (5, .int y2.2), (0, .ref (ad a)), (2, .int p1)]) hl [2, 3, 4, 6] rfl
            have e9 : ([(6, .int y3.2), (5, .int y2.2), (0, .ref (ad a)), (2, .int p1)] : List (Nat × Value)) = [(6, .int y3.2), (5, .int y2.2), (0, .ref (ad151 a)), (2, .int p1)] := (by first | rfl | simp only [hn152 a hc])
            rw [e9] at hl
            clear e9
            have hk : (xt G L150).2.1 a = 10 := by rw [eL150]; exact xt_k _ hc hk
            have hc : a < (xt G L150).1 := by rw [eL150]; exact xt_l _ hc
            have hag := agr_t (xt_ge _ _) hag hn152
            refine lv_goto (tgt := 134) hx hb dX10_levels_110 (by decide) ?_
            obtain rfl := Option.some.inj hF
            have e1 : L8 = L150 := by rw [hT]; exact List.append_nil _
            have e2 : y6.2 = y148.2 := h2
            rw [e1] at J6
            try rw [e2] at J6
            exact J6 _ hag _ _ _ hP hD hS (lv_sub hl [0, 1, 2, 3] rfl)
          clear hF
          have hF := hy147
          clear hy147
          refine lv_if_ne (tgt := 95) hx hb dX10_levels_86 (by decide) (fun c153 => ?_) (fun c153 => ?_)
          · rw [if_neg c153] at hF
            refine lv_iconst (v := (4 : Int32)) hx hb dX10_levels_95 (by decide) ?_
            refine lv_iload hx hb dX10_levels_96 (lv_at hl 3 rfl) ?_
            refine lv_iconst (v := (1 : Int32)) hx hb dX10_levels_98 (by decide) ?_
            refine lv_isub hx hb dX10_levels_99 ?_
            obtain ⟨x154, ex154, hF⟩ := ltt_some hF
            refine lv_topi (fun zx154 ezx154 => ?_)
            obtain rfl : x154 = zx154 := ex154.trans ezx154.symm
            refine lv_imul hx hb dX10_levels_100 ?_
            obtain ⟨x155, ex155, hF⟩ := ltt_some hF
            refine lv_topi (fun zx155 ezx155 => ?_)
            obtain rfl : x155 = zx155 := ex155.trans ezx155.symm
            refine lv_iload hx hb dX10_levels_101 (lv_at hl 2 rfl) ?_
            refine lv_iadd hx hb dX10_levels_103 ?_
            obtain ⟨x156, ex156, hF⟩ := ltt_some hF
            refine lv_topi (fun zx156 ezx156 => ?_)
            obtain rfl : x156 = zx156 := ex156.trans ezx156.symm
            refine lv_i2l (v := x156.toInt64) hx hb dX10_levels_104 rfl ?_
            obtain ⟨x157, ex157, hF⟩ := ltt_some hF
            refine lv_topl (fun zx157 ezx157 => ?_)
            obtain rfl : x157 = zx157 := ex157.trans ezx157.symm
            obtain rfl := Option.some.inj hF
            exact J147 _ _ _ hP hD hS (lv_sub hl [0, 1, 2, 3, 4, 5, 6, 7, 8] rfl)
          · rw [if_pos c153] at hF
            refine lv_ldc2 (v := (3 : Int64)) hx hb hown (hts (.constantLong RX10 115 (3 : Int64)) (mu mw_2700)) dX10_levels_89 ?_
            refine lv_goto (tgt := 105) hx hb dX10_levels_92 (by decide) ?_
            obtain rfl := Option.some.inj hF
            exact J147 _ _ _ hP hD hS (lv_sub hl [0, 1, 2, 3, 4, 5, 6, 7, 8] rfl)
      clear hF
      have hF := hy5
      clear hy5
      refine lv_icmp_ge (tgt := 64) hx hb dX10_levels_46 (by decide) (fun c158 => ?_) (fun c158 => ?_)
      · rw [if_pos c158] at hF
        refine lv_iconst (v := (4 : Int32)) hx hb dX10_levels_64 (by decide) ?_
        refine lv_iload hx hb dX10_levels_65 (lv_at hl 2 rfl) ?_
        refine lv_imul hx hb dX10_levels_67 ?_
        obtain ⟨x159, ex159, hF⟩ := ltt_some hF
        refine lv_topi (fun zx159 ezx159 => ?_)
        obtain rfl : x159 = zx159 := ex159.trans ezx159.symm
        refine lv_bipush (v := (6 : Int32)) hx hb dX10_levels_68 (by decide) ?_
        refine lv_isub hx hb dX10_levels_70 ?_
        obtain ⟨x160, ex160, hF⟩ := ltt_some hF
        refine lv_topi (fun zx160 ezx160 => ?_)
        obtain rfl : x160 = zx160 := ex160.trans ezx160.symm
        refine lv_iload hx hb dX10_levels_71 (lv_at hl 1 rfl) ?_
        refine lv_iadd hx hb dX10_levels_73 ?_
        obtain ⟨x161, ex161, hF⟩ := ltt_some hF
        refine lv_topi (fun zx161 ezx161 => ?_)
        obtain rfl : x161 = zx161 := ex161.trans ezx161.symm
        obtain rfl := Option.some.inj hF
        exact J5 _ _ _ hP hD hS (lv_sub hl [0, 1, 2, 3, 4, 5, 6, 7] rfl)
      · rw [if_neg c158] at hF
        refine lv_iload hx hb dX10_levels_49 (lv_at hl 2 rfl) ?_
        refine lv_iload hx hb dX10_levels_51 (lv_at hl 2 rfl) ?_
        refine lv_iconst (v := (1 : Int32)) hx hb dX10_levels_53 (by decide) ?_
        refine lv_iadd hx hb dX10_levels_54 ?_
        obtain ⟨x162, ex162, hF⟩ := ltt_some hF
        refine lv_topi (fun zx162 ezx162 => ?_)
        obtain rfl : x162 = zx162 := ex162.trans ezx162.symm
        refine lv_imul hx hb dX10_levels_55 ?_
        obtain ⟨x163, ex163, hF⟩ := ltt_some hF
        refine lv_topi (fun zx163 ezx163 => ?_)
        obtain rfl : x163 = zx163 := ex163.trans ezx163.symm
        refine lv_iconst (v := (2 : Int32)) hx hb dX10_levels_56 (by decide) ?_
        refine lv_idiv hx hb dX10_levels_57 (by decide) ?_
        obtain ⟨x164, ex164, hF⟩ := ltt_some hF
        refine lv_topi (fun zx164 ezx164 => ?_)
        obtain rfl : x164 = zx164 := ex164.trans ezx164.symm
        refine lv_iload hx hb dX10_levels_58 (lv_at hl 1 rfl) ?_
        refine lv_iadd hx hb dX10_levels_60 ?_
        obtain ⟨x165, ex165, hF⟩ := ltt_some hF
        refine lv_topi (fun zx165 ezx165 => ?_)
        obtain rfl : x165 = zx165 := ex165.trans ezx165.symm
        refine lv_goto (tgt := 74) hx hb dX10_levels_61 (by decide) ?_
        obtain rfl := Option.some.inj hF
        exact J5 _ _ _ hP hD hS (lv_sub hl [0, 1, 2, 3, 4, 5, 6, 7] rfl)
    clear hF
    have hF := hy4
    clear hy4
    refine lv_icmp_ne (tgt := 40) hx hb dX10_levels_33 (by decide) (fun c166 => ?_) (fun c166 => ?_)
    · rw [if_neg c166] at hF
      refine lv_iload_n hx hb dX10_levels_40 rfl (lv_at hl 3 rfl) ?_
      obtain rfl := Option.some.inj hF
      exact J4 _ _ _ hP hD hS (lv_sub hl [0, 1, 2, 3, 4, 5, 6] rfl)
    · rw [if_pos c166] at hF
      refine lv_iconst (v := (3 : Int32)) hx hb dX10_levels_36 (by decide) ?_
      refine lv_goto (tgt := 41) hx hb dX10_levels_37 (by decide) ?_
      obtain rfl := Option.some.inj hF
      exact J4 _ _ _ hP hD hS (lv_sub hl [0, 1, 2, 3, 4, 5, 6] rfl)
  clear hF
  have hF := hy1
  clear hy1
  refine lv_icmp_ne (tgt := 15) hx hb dX10_levels_5 (by decide) (fun c167 => ?_) (fun c167 => ?_)
  · rw [if_neg c167] at hF
    refine lv_iload hx hb dX10_levels_15 (lv_at hl 4 rfl) ?_
    obtain rfl := Option.some.inj hF
    exact J1 _ _ _ hP hD hS (lv_sub hl [0, 1, 2, 3, 4] rfl)
  · rw [if_pos c167] at hF
    refine lv_iload hx hb dX10_levels_8 (lv_at hl 4 rfl) ?_
    refine lv_iconst (v := (1 : Int32)) hx hb dX10_levels_10 (by decide) ?_
    refine lv_iadd hx hb dX10_levels_11 ?_
    obtain ⟨x168, ex168, hF⟩ := ltt_some hF
    refine lv_topi (fun zx168 ezx168 => ?_)
    obtain rfl : x168 = zx168 := ex168.trans ezx168.symm
    refine lv_goto (tgt := 17) hx hb dX10_levels_12 (by decide) ?_
    obtain rfl := Option.some.inj hF
    exact J1 _ _ _ hP hD hS (lv_sub hl [0, 1, 2, 3, 4] rfl)
