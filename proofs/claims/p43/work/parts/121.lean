theorem ggX0_inputSum_X0_wide : GoodIn wsX0_inputSum wsX0_wide := goodIn_r _ [6, 7, 15, 16, 17, 18, 19, 20, 21, 22, 23, 24, 25, 26, 27, 28, 29, 30, 31, 32, 33, 34, 35] (by decide +kernel) (by decide +kernel)
set_option maxRecDepth 20000 in
theorem gX0_inputSum_X0_wide : GoodIn wsX0_inputSum (wsV RX0 176 RX0 yX0_wide wsX0_wide) := goodIn_app (goodIn_of _ (by decide +kernel)) ggX0_inputSum_X0_wide
set_option maxRecDepth 20000 in
theorem ggX0_inputSum_X0_high : GoodIn wsX0_inputSum wsX0_high := goodIn_r _ [11, 7, 15, 16, 17, 18, 19, 20, 21, 22, 23, 24, 25, 26, 27, 28, 29, 30, 31, 32, 33, 34, 35] (by decide +kernel) (by decide +kernel)
set_option maxRecDepth 20000 in
theorem gX0_inputSum_X0_high : GoodIn wsX0_inputSum (wsV RX0 180 RX0 yX0_high wsX0_high) := goodIn_app (goodIn_of _ (by decide +kernel)) ggX0_inputSum_X0_high
set_option maxRecDepth 20000 in
theorem ggX0_inputSum_X11_hash : GoodIn wsX0_inputSum wsX11_hash := goodIn_r _ [14] (by decide +kernel) (by decide +kernel)
set_option maxRecDepth 20000 in
theorem gX0_inputSum_X11_hash_n183 : GoodIn wsX0_inputSum (wsX11_hash) := ggX0_inputSum_X11_hash
theorem dX0_inputSum_0 : decode cX0_inputSum 0 = .ok (.aload_n 0, 1) := by decide +kernel
theorem dX0_inputSum_1 : decode cX0_inputSum 1 = .ok (.getfield 66, 3) := by decide +kernel
theorem dX0_inputSum_4 : decode cX0_inputSum 4 = .ok (.bipush 9, 2) := by decide +kernel
theorem dX0_inputSum_6 : decode cX0_inputSum 6 = .ok (.aaload, 1) := by decide +kernel
theorem dX0_inputSum_7 : decode cX0_inputSum 7 = .ok (.iconst 0, 1) := by decide +kernel
theorem dX0_inputSum_8 : decode cX0_inputSum 8 = .ok (.aload_n 0, 1) := by decide +kernel
theorem dX0_inputSum_9 : decode cX0_inputSum 9 = .ok (.iconst 0, 1) := by decide +kernel
theorem dX0_inputSum_10 : decode cX0_inputSum 10 = .ok (.invokevirtual 176, 3) := by decide +kernel
theorem dX0_inputSum_13 : decode cX0_inputSum 13 = .ok (.aload_n 0, 1) := by decide +kernel
theorem dX0_inputSum_14 : decode cX0_inputSum 14 = .ok (.iconst 0, 1) := by decide +kernel
theorem dX0_inputSum_15 : decode cX0_inputSum 15 = .ok (.invokevirtual 180, 3) := by decide +kernel
theorem dX0_inputSum_18 : decode cX0_inputSum 18 = .ok (.imul, 1) := by decide +kernel
theorem dX0_inputSum_19 : decode cX0_inputSum 19 = .ok (.invokestatic 183, 3) := by decide +kernel
theorem dX0_inputSum_22 : decode cX0_inputSum 22 = .ok (.ireturn, 1) := by decide +kernel
def FX0_inputSum (G : GG) (M : DD) (a : Nat)  : Option (DD × Int32) :=
  dr G 15 ((M.2 a 8)) fun b2 =>
  chk (¬ (((9 : Int32)) < 0 ∨ G.2.2 b2 ≤ ((9 : Int32)).toNatClampNeg)) <|
  bnd (FX0_wide G M a ((0 : Int32))) fun y3 =>
  bnd (FX0_high G y3.1 a ((0 : Int32))) fun y4 =>
  ltt ((y3.2 * y4.2)) fun x5 =>
  bnd (FX11_hash G y4.1 ((M.2 b2 ((9 : Int32)).toNatClampNeg)) ((0 : Int32)) x5) fun y6 =>
  some (y6.1, y6.2)
set_option maxHeartbeats 4000000 in
set_option maxRecDepth 100000 in
theorem kX0_inputSum (l : Launch) (D : va_G) (ct : CT) (ad : Nat → Nat) (Z : Nat → Nat) (G : GG) (M : DD) (sz : Nat) (a : Nat)  (y : DD × Int32) (hc : a < G.1) (hk : G.2.1 a = 0) (hF : FX0_inputSum G M a  = some y) : Met l yX0_inputSum wsX0_inputSum ({ frames := 1, cells := 0, slots := 0, locals := 24 }) (va_Pc [.ref (ad a)] (kB D ct ad Z G M sz)) (va_Qi (fun (q : Int32) (_ : Unit) => q = y.2) (fun _ t => kE D ct ad G (wA ad G sz) y.1 t) (wA ad G sz)) 0 0 (wA ad G sz) := by
  refine Met.ofW (cc := cX0_inputSum) (maxL := 1) (ret := (some .int)) (by decide) rfl ?_
  intro p e s m args below meth c s₁ B hml hv
  obtain ⟨rfl, hsz, hP, hK, hD0, hZ, hN⟩ := hv
  have hx := B.exec
  have hb := B.bytes
  have hr := B.returns
  have hts := atoms_spec (ws := wsX0_inputSum) B.pre
  have hown : s.vm.findClass RX0 = some m.cls := findClass_of_methodNamed B.named
  have hlocks := B.notSynchronized
  subst hsz
  have hD := wD_self (sz := s.heap.size) hD0
  have hA9 : ∀ q, s.heap.size ≤ q → wA ad G s.heap.size q := fun q h => Or.inr h
  generalize hAe : wA ad G s.heap.size = A at hD hA9 hZ ⊢
  have hS : va_S A s.heap s.heap [] := va_S.rf
  have hl := lv_entry ([.ref (ad a)]) (n := 1) (Nat.le_of_ble_eq_true rfl)
  rw [lg_entry_eq]
  generalize (lg_sl ([.ref (ad a)]) ++ List.replicate (1 - (lg_sl ([.ref (ad a)])).length) Slot.unset).toArray = ls at hl ⊢
  have hl : lv_has ls 1 [(0, .ref (ad a))] := hl
  unfold FX0_inputSum at hF
  refine lv_aload_n hx hb dX0_inputSum_0 rfl (lv_at hl 0 rfl) ?_
  refine va_get (D := D) (ci := 0) (v := va_re ad (M.2 a 8)) (C := RX0) (T := TX0) (N := 21) hx hb hts (by decide +kernel) hown hK hP a (wld_o ct ad G M hc hk (by decide)) rfl 8 (by decide) (hts (.fieldLink RX0 66 "VideoSuite$Coder" "planes" "[[I") (by decide +kernel)) (fun _ h9 => h9) rfl dX0_inputSum_1 ?_
  refine lv_bipush (v := (9 : Int32)) hx hb dX0_inputSum_4 (by decide) ?_
  obtain ⟨b2, ho2, hc2, hk2, hF⟩ := dr_some hF
  refine W_st (st' := [.int (9 : Int32), .ref (ad b2)]) (by rw [va_some ho2]) ?_
  obtain ⟨hvc, hF⟩ := chk_some hF
  refine ld_g hx hb hK hP hc2 hk2 hvc dX0_inputSum_6 ?_
  refine lv_iconst (v := (0 : Int32)) hx hb dX0_inputSum_7 (by decide) ?_
  refine lv_aload_n hx hb dX0_inputSum_8 rfl (lv_at hl 0 rfl) ?_
  refine lv_iconst (v := (0 : Int32)) hx hb dX0_inputSum_9 (by decide) ?_
  obtain ⟨y3, hy3, hF⟩ := bnd_some hF
  have hf9 := wA_in hD hA9 hS
  refine va_calli (va_runV (As := [.int (0 : Int32)]) (rest := [.int (0 : Int32), va_re ad (M.2 b2 ((9 : Int32)).toNatClampNeg)]) ⟨hx, hb, hml, hown, hts⟩ (kX0_wide l D ct ad Z G M s.heap.size a ((0 : Int32)) y3 hc hk hy3) (cwV 1 hts gX0_inputSum_X0_wide rfl rfl rfl (by decide +kernel) ⟨Nat.le_of_ble_eq_true rfl, Nat.le_of_ble_eq_true rfl⟩) ⟨fun a U g mk q => by obtain ⟨q0, q1, qP, qK, qD, qZ, qN⟩ := q; exact ⟨q0, q1, qP, va_K.moved (u := U) (U := U.calling g mk a) (Vm.Alike.refl U.vm) qK, qD, sF.moved (u := U) (U := U.calling g mk a) (Vm.Alike.refl U.vm) qZ, nF.same rfl qN⟩, va_recv hK hP (ci := 0) (q0 := a) rfl (wld_o ct ad G M hc hk (by decide)), fun U hU hW => ⟨rfl, by rw [hU], by rw [hU]; exact hP, va_K.moved hW.alike hK, hD.weaken (fun _ _ _ _ => trivial), by rw [hU]; exact ((hZ.kept hS.2.1).narrow hf9).moved hW.alike, hN.warm hW⟩⟩ rfl rfl hl.1 rfl (lv_room (by simp only [List.map, va_re_cat]; exact Nat.le_of_ble_eq_true rfl)) dX0_inputSum_10 ⟨(Nat.zero_le _), (Nat.zero_le _)⟩) hS (fun q _ h => hf9 q h) hf9 (fun r u t H locs ht hvm hw hB hz1 hk1 hS => ?_)
  obtain ⟨hP, hK9, hD9⟩ := hB
  rw [ht] at hP
  try dsimp only at hw
  subst hw
  have hD := hD9.weaken (fun _ q _ h => hf9 q.1 h)
  refine lv_aload_n hx hb dX0_inputSum_13 rfl (lv_at hl 0 rfl) ?_
  refine lv_iconst (v := (0 : Int32)) hx hb dX0_inputSum_14 (by decide) ?_
  obtain ⟨y4, hy4, hF⟩ := bnd_some hF
  have hf9 := wA_in hD hA9 hS
  refine va_calli (va_runV (As := [.int (0 : Int32)]) (rest := [.int y3.2, .int (0 : Int32), va_re ad (M.2 b2 ((9 : Int32)).toNatClampNeg)]) ⟨hx, hb, hml, hown, hts⟩ (kX0_high l D ct ad Z G y3.1 H.size a ((0 : Int32)) y4 hc hk hy4) (cwV 1 hts gX0_inputSum_X0_high rfl rfl rfl (by decide +kernel) ⟨Nat.le_of_ble_eq_true rfl, Nat.le_of_ble_eq_true rfl⟩) ⟨fun a U g mk q => by obtain ⟨q0, q1, qP, qK, qD, qZ, qN⟩ := q; exact ⟨q0, q1, qP, va_K.moved (u := U) (U := U.calling g mk a) (Vm.Alike.refl U.vm) qK, qD, sF.moved (u := U) (U := U.calling g mk a) (Vm.Alike.refl U.vm) qZ, nF.same rfl qN⟩, va_recv hK hP (ci := 0) (q0 := a) rfl (wld_o ct ad G y3.1 hc hk (by decide)), fun U hU hW => ⟨rfl, by rw [hU], by rw [hU]; exact hP, va_K.moved hW.alike hK, hD.weaken (fun _ _ _ _ => trivial), by rw [hU]; exact ((hZ.kept hS.2.1).narrow hf9).moved hW.alike, hN.warm hW⟩⟩ rfl rfl hl.1 rfl (lv_room (by simp only [List.map, va_re_cat]; exact Nat.le_of_ble_eq_true rfl)) dX0_inputSum_15 ⟨(Nat.zero_le _), (Nat.zero_le _)⟩) hS (fun q _ h => hf9 q h) hf9 (fun r u t H locs ht hvm hw hB hz1 hk1 hS => ?_)
  obtain ⟨hP, hK9, hD9⟩ := hB
  rw [ht] at hP
  try dsimp only at hw
  subst hw
  have hD := hD9.weaken (fun _ q _ h => hf9 q.1 h)
  refine lv_imul hx hb dX0_inputSum_18 ?_
  obtain ⟨x5, ex5, hF⟩ := ltt_some hF
  refine lv_topi (fun zx5 ezx5 => ?_)
  obtain rfl : x5 = zx5 := ex5.trans ezx5.symm
  obtain ⟨y6, hy6, hF⟩ := bnd_some hF
  have hf9 := wA_in hD hA9 hS
  refine va_calli (va_runSN (As := [va_re ad (M.2 b2 ((9 : Int32)).toNatClampNeg), .int (0 : Int32), .int x5]) (rest := []) ⟨hx, hb, hml, hown, hts⟩ (kX11_hash l D ct ad Z G y4.1 H.size ((M.2 b2 ((9 : Int32)).toNatClampNeg)) ((0 : Int32)) x5 y6 hy6) ⟨va_cnB 3 hts gX0_inputSum_X11_hash_n183 rfl rfl rfl (hN.1 (RX0, 183, yX11_hash, RX11) (List.mem_of_getElem? (i := 2) rfl)) (hts (.initialized RX11) (by decide +kernel)) (by decide +kernel) ⟨Nat.le_of_ble_eq_true rfl, Nat.le_of_ble_eq_true rfl⟩, hts (.static yX11_hash) (by decide +kernel), trivial⟩ ⟨fun a U g mk q => by obtain ⟨q0, q1, qP, qK, qD, qZ, qN⟩ := q; exact ⟨q0, q1, qP, va_K.moved (u := U) (U := U.calling g mk a) (Vm.Alike.refl U.vm) qK, qD, sF.moved (u := U) (U := U.calling g mk a) (Vm.Alike.refl U.vm) qZ, nF.same rfl qN⟩, fun U hU hW => ⟨rfl, by rw [hU], by rw [hU]; exact hP, va_K.moved hW.alike hK, hD.weaken (fun _ _ _ _ => trivial), by rw [hU]; exact ((hZ.kept hS.2.1).narrow hf9).moved hW.alike, hN.warm hW⟩⟩ rfl rfl hl.1 rfl (lv_room (Nat.le_of_ble_eq_true rfl)) dX0_inputSum_19 ⟨(Nat.zero_le _), (Nat.zero_le _)⟩) hS (fun q _ h => hf9 q h) hf9 (fun r u t H locs ht hvm hw hB hz1 hk1 hS => ?_)
  obtain ⟨hP, hK9, hD9⟩ := hB
  rw [ht] at hP
  try dsimp only at hw
  subst hw
  have hD := hD9.weaken (fun _ q _ h => hf9 q.1 h)
  obtain rfl := Option.some.inj hF
  exact W.iret (v := y6.2) hx hb hr (fun t ht hW => ⟨⟨_, (), rfl, rfl, ⟨by rw [ht]; exact hP, va_K.moved hW.alike hK, hD⟩⟩, hS.F ht⟩) hS.2.2 dX0_inputSum_22
theorem ggX0_mayBe_X9_mayBeSixteen : GoodIn wsX0_mayBe wsX9_mayBeSixteen := goodIn_r _ [10] (by decide +kernel) (by decide +kernel)
set_option maxRecDepth 20000 in
theorem gX0_mayBe_X9_mayBeSixteen : GoodIn wsX0_mayBe (va_wsS RX0 346 yX9_mayBeSixteen wsX9_mayBeSixteen) := goodIn_app (goodIn_of _ (by decide +kernel)) ggX0_mayBe_X9_mayBeSixteen
theorem ggX0_mayBe_X9_mayBeFour : GoodIn wsX0_mayBe wsX9_mayBeFour := goodIn_r _ [7] (by decide +kernel) (by decide +kernel)
set_option maxRecDepth 20000 in
theorem gX0_mayBe_X9_mayBeFour : GoodIn wsX0_mayBe (va_wsS RX0 343 yX9_mayBeFour wsX9_mayBeFour) := goodIn_app (goodIn_of _ (by decide +kernel)) ggX0_mayBe_X9_mayBeFour
set_option maxRecDepth 20000 in
theorem ggX0_mayBe_X9_mayBeColours : GoodIn wsX0_mayBe wsX9_mayBeColours := goodIn_r _ [4] (by decide +kernel) (by decide +kernel)
set_option maxRecDepth 20000 in
theorem gX0_mayBe_X9_mayBeColours : GoodIn wsX0_mayBe (va_wsS RX0 339 yX9_mayBeColours wsX9_mayBeColours) := goodIn_app (goodIn_of _ (by decide +kernel)) ggX0_mayBe_X9_mayBeColours
set_option maxRecDepth 20000 in
theorem dX0_mayBe_0 : decode cX0_mayBe 0 = .ok (.iload_n 0, 1) := by decide +kernel
theorem dX0_mayBe_1 : decode cX0_mayBe 1 = .ok (.iconst (-1), 1) := by decide +kernel
theorem dX0_mayBe_2 : decode cX0_mayBe 2 = .ok (.if_icmp .ne 9, 3) := by decide +kernel
theorem dX0_mayBe_5 : decode cX0_mayBe 5 = .ok (.iload_n 1, 1) := by decide +kernel
theorem dX0_mayBe_6 : decode cX0_mayBe 6 = .ok (.iload_n 2, 1) := by decide +kernel
theorem dX0_mayBe_7 : decode cX0_mayBe 7 = .ok (.invokestatic 339, 3) := by decide +kernel
theorem dX0_mayBe_10 : decode cX0_mayBe 10 = .ok (.ireturn, 1) := by decide +kernel
theorem dX0_mayBe_11 : decode cX0_mayBe 11 = .ok (.iload_n 0, 1) := by decide +kernel
theorem dX0_mayBe_12 : decode cX0_mayBe 12 = .ok (.ifCond .ne 11, 3) := by decide +kernel
theorem dX0_mayBe_15 : decode cX0_mayBe 15 = .ok (.iload_n 1, 1) := by decide +kernel
theorem dX0_mayBe_16 : decode cX0_mayBe 16 = .ok (.iload_n 2, 1) := by decide +kernel
theorem dX0_mayBe_17 : decode cX0_mayBe 17 = .ok (.invokestatic 343, 3) := by decide +kernel
theorem dX0_mayBe_20 : decode cX0_mayBe 20 = .ok (.goto 8, 3) := by decide +kernel
theorem dX0_mayBe_23 : decode cX0_mayBe 23 = .ok (.iload_n 1, 1) := by decide +kernel
theorem dX0_mayBe_24 : decode cX0_mayBe 24 = .ok (.iload_n 2, 1) := by decide +kernel
theorem dX0_mayBe_25 : decode cX0_mayBe 25 = .ok (.invokestatic 346, 3) := by decide +kernel
theorem dX0_mayBe_28 : decode cX0_mayBe 28 = .ok (.ireturn, 1) := by decide +kernel
def FX0_mayBe (G : GG) (M : DD) (p0 : Int32) (p1 : Int32) (p2 : Int32) : Option (DD × Int32) :=
  if p0 = ((-1 : Int32)) then (bnd (FX9_mayBeColours G M p1 p2) fun y6 =>
  chk (y6.2 = 0 ∨ y6.2 = 1) <|
  some (y6.1, y6.2)) else
  (bnd (if p0 = ((0 : Int32)) then (bnd (FX9_mayBeFour G M p1 p2) fun y5 =>
  some (y5.2, y5.1)) else
  (bnd (FX9_mayBeSixteen G M p1 p2) fun y4 =>
  some (y4.2, y4.1))) fun (y2 : Int32 × DD) =>
  chk (y2.1 = 0 ∨ y2.1 = 1) <|
  some (y2.2, y2.1))
set_option maxHeartbeats 4000000 in
set_option maxRecDepth 100000 in
theorem kX0_mayBe (l : Launch) (D : va_G) (ct : CT) (ad : Nat → Nat) (Z : Nat → Nat) (G : GG) (M : DD) (sz : Nat) (p0 : Int32) (p1 : Int32) (p2 : Int32) (y : DD × Int32) (hF : FX0_mayBe G M p0 p1 p2 = some y) : Met l yX0_mayBe wsX0_mayBe ({ frames := 1, cells := 0, slots := 0, locals := 22 }) (va_Pc [.int p0, .int p1, .int p2] (kB D ct ad Z G M sz)) (va_Qi (fun (q : Int32) (_ : Unit) => q = y.2) (fun _ t => kE D ct ad G (wA ad G sz) y.1 t) (wA ad G sz)) 0 0 (wA ad G sz) := by
  refine Met.ofW (cc := cX0_mayBe) (maxL := 3) (ret := (some .boolean)) (by decide) rfl ?_
  intro p e s m args below meth c s₁ B hml hv
  obtain ⟨rfl, hsz, hP, hK, hD0, hZ, hN⟩ := hv
  have hx := B.exec
  have hb := B.bytes
  have hr := B.returns
  have hts := atoms_spec (ws := wsX0_mayBe) B.pre
  have hown : s.vm.findClass RX0 = some m.cls := findClass_of_methodNamed B.named
  have hlocks := B.notSynchronized
  subst hsz
  have hD := wD_self (sz := s.heap.size) hD0
  have hA9 : ∀ q, s.heap.size ≤ q → wA ad G s.heap.size q := fun q h => Or.inr h
  generalize hAe : wA ad G s.heap.size = A at hD hA9 hZ ⊢
  have hS : va_S A s.heap s.heap [] := va_S.rf
  have hl := lv_entry ([.int p0, .int p1, .int p2]) (n := 3) (Nat.le_of_ble_eq_true rfl)
  rw [lg_entry_eq]
  generalize (lg_sl ([.int p0, .int p1, .int p2]) ++ List.replicate (3 - (lg_sl ([.int p0, .int p1, .int p2])).length) Slot.unset).toArray = ls at hl ⊢
  have hl : lv_has ls 3 [(0, .int p0), (1, .int p1), (2, .int p2)] := hl
  unfold FX0_mayBe at hF
  refine lv_iload_n hx hb dX0_mayBe_0 rfl (lv_at hl 0 rfl) ?_
  refine lv_iconst (v := (-1 : Int32)) hx hb dX0_mayBe_1 (by decide) ?_
  refine lv_icmp_ne (tgt := 11) hx hb dX0_mayBe_2 (by decide) (fun c1 => ?_) (fun c1 => ?_)
  · rw [if_neg c1] at hF
    refine lv_iload_n hx hb dX0_mayBe_11 rfl (lv_at hl 0 rfl) ?_
    obtain ⟨y2, hy2, hF⟩ := bnd_some hF
    have J2 : ∀ (H : Heap) (locs : List Loc) (ls : Array Slot), va_P D classes (wld ct ad G y2.2) H → va_D A (wld ct ad G y2.2) → va_S A s.heap H locs → lv_has ls 3 [(0, .int p0), (1, .int p1), (2, .int p2)] → W p l e (headSpec wsX0_mayBe ({ frames := 1, cells := 0, slots := 0, locals := 22 })).room s m ([.int p0, .int p1, .int p2] : List Value).toArray below meth c H locs 0 0 (MQ below (va_Qi (fun (q : Int32) (_ : Unit) => q = y.2) (fun _ t => kE D ct ad G A y.1 t) A) ([.int p0, .int p1, .int p2] : List Value).toArray s 0 0 A) (F0 m 28 ls [.int y2.1]) := by
      intro H locs ls hP hD hS hl
      obtain ⟨hz9, hF⟩ := chk_some hF
      obtain rfl := Option.some.inj hF
      exact W.zret (v := y2.1) (ty := .boolean) hx hb hr (nar_z hz9).1 (fun t ht hW => ⟨⟨_, (), rfl, rfl, ⟨by rw [ht]; exact hP, va_K.moved hW.alike hK, hD⟩⟩, hS.F ht⟩) hS.2.2 dX0_mayBe_28
    clear hF
    have hF := hy2
    clear hy2
    refine lv_if_ne (tgt := 23) hx hb dX0_mayBe_12 (by decide) (fun c3 => ?_) (fun c3 => ?_)
    · rw [if_neg c3] at hF
      refine lv_iload_n hx hb dX0_mayBe_23 rfl (lv_at hl 1 rfl) ?_
      refine lv_iload_n hx hb dX0_mayBe_24 rfl (lv_at hl 2 rfl) ?_
      obtain ⟨y4, hy4, hF⟩ := bnd_some hF
      have hf9 := wA_in hD hA9 hS
      refine va_calli (va_runS (As := [.int p1, .int p2]) (rest := []) ⟨hx, hb, hml, hown, hts⟩ (kX9_mayBeSixteen l D ct ad Z G M s.heap.size p1 p2 y4 hy4) (va_cwS 2 hts gX0_mayBe_X9_mayBeSixteen rfl rfl rfl (by decide +kernel) ⟨Nat.le_of_ble_eq_true rfl, Nat.le_of_ble_eq_true rfl⟩) ⟨fun a U g mk q => by obtain ⟨q0, q1, qP, qK, qD, qZ, qN⟩ := q; exact ⟨q0, q1, qP, va_K.moved (u := U) (U := U.calling g mk a) (Vm.Alike.refl U.vm) qK, qD, sF.moved (u := U) (U := U.calling g mk a) (Vm.Alike.refl U.vm) qZ, nF.same rfl qN⟩, fun U hU hW => ⟨rfl, by rw [hU], by rw [hU]; exact hP, va_K.moved hW.alike hK, hD.weaken (fun _ _ _ _ => trivial), by rw [hU]; exact ((hZ.kept hS.2.1).narrow hf9).moved hW.alike, hN.warm hW⟩⟩ rfl rfl hl.1 rfl (lv_room (Nat.le_of_ble_eq_true rfl)) dX0_mayBe_25 ⟨(Nat.zero_le _), (Nat.zero_le _)⟩) hS (fun q _ h => hf9 q h) hf9 (fun r u t H locs ht hvm hw hB hz1 hk1 hS => ?_)
      obtain ⟨hP, hK9, hD9⟩ := hB
      rw [ht] at hP
      try dsimp only at hw
      subst hw
      have hD := hD9.weaken (fun _ q _ h => hf9 q.1 h)
      obtain rfl := Option.some.inj hF
      exact J2 _ _ _ hP hD hS (lv_sub hl [0, 1, 2] rfl)
    · rw [if_pos c3] at hF
      refine lv_iload_n hx hb dX0_mayBe_15 rfl (lv_at hl 1 rfl) ?_
      refine lv_iload_n hx hb dX0_mayBe_16 rfl (lv_at hl 2 rfl) ?_
      obtain ⟨y5, hy5, hF⟩ := bnd_some hF
      have hf9 := wA_in hD hA9 hS
      refine va_calli (va_runS (As := [.int p1, .int p2]) (rest := []) ⟨hx, hb, hml, hown, hts⟩ (kX9_mayBeFour l D ct ad Z G M s.heap.size p1 p2 y5 hy5) (va_cwS 2 hts gX0_mayBe_X9_mayBeFour rfl rfl rfl (by decide +kernel) ⟨Nat.le_of_ble_eq_true rfl, Nat.le_of_ble_eq_true rfl⟩) ⟨fun a U g mk q => by obtain ⟨q0, q1, qP, qK, qD, qZ, qN⟩ := q; exact ⟨q0, q1, qP, va_K.moved (u := U) (U := U.calling g mk a) (Vm.Alike.refl U.vm) qK, qD, sF.moved (u := U) (U := U.calling g mk a) (Vm.Alike.refl U.vm) qZ, nF.same rfl qN⟩, fun U hU hW => ⟨rfl, by rw [hU], by rw [hU]; exact hP, va_K.moved hW.alike hK, hD.weaken (fun _ _ _ _ => trivial), by rw [hU]; exact ((hZ.kept hS.2.1).narrow hf9).moved hW.alike, hN.warm hW⟩⟩ rfl rfl hl.1 rfl (lv_room (Nat.le_of_ble_eq_true rfl)) dX0_mayBe_17 ⟨(Nat.zero_le _), (Nat.zero_le _)⟩) hS (fun q _ h => hf9 q h) hf9 (fun r u t H locs ht hvm hw hB hz1 hk1 hS => ?_)
      obtain ⟨hP, hK9, hD9⟩ := hB
      rw [ht] at hP
      try dsimp only at hw
      subst hw
      have hD := hD9.weaken (fun _ q _ h => hf9 q.1 h)
      refine lv_goto (tgt := 28) hx hb dX0_mayBe_20 (by decide) ?_
      obtain rfl := Option.some.inj hF
      exact J2 _ _ _ hP hD hS (lv_sub hl [0, 1, 2] rfl)
  · rw [if_pos c1] at hF
    refine lv_iload_n hx hb dX0_mayBe_5 rfl (lv_at hl 1 rfl) ?_
    refine lv_iload_n hx hb dX0_mayBe_6 rfl (lv_at hl 2 rfl) ?_
    obtain ⟨y6, hy6, hF⟩ := bnd_some hF
    have hf9 := wA_in hD hA9 hS
    refine va_calli (va_runS (As := [.int p1, .int p2]) (rest := []) ⟨hx, hb, hml, hown, hts⟩ (kX9_mayBeColours l D ct ad Z G M s.heap.size p1 p2 y6 hy6) (va_cwS 2 hts gX0_mayBe_X9_mayBeColours rfl rfl rfl (by decide +kernel) ⟨Nat.le_of_ble_eq_true rfl, Nat.le_of_ble_eq_true rfl⟩) ⟨fun a U g mk q => by obtain ⟨q0, q1, qP, qK, qD, qZ, qN⟩ := q; exact ⟨q0, q1, qP, va_K.moved (u := U) (U := U.calling g mk a) (Vm.Alike.refl U.vm) qK, qD, sF.moved (u := U) (U := U.calling g mk a) (Vm.Alike.refl U.vm) qZ, nF.same rfl qN⟩, fun U hU hW => ⟨rfl, by rw [hU], by rw [hU]; exact hP, va_K.moved hW.alike hK, hD.weaken (fun _ _ _ _ => trivial), by rw [hU]; exact ((hZ.kept hS.2.1).narrow hf9).moved hW.alike, hN.warm hW⟩⟩ rfl rfl hl.1 rfl (lv_room (Nat.le_of_ble_eq_true rfl)) dX0_mayBe_7 ⟨(Nat.zero_le _), (Nat.zero_le _)⟩) hS (fun q _ h => hf9 q h) hf9 (fun r u t H locs ht hvm hw hB hz1 hk1 hS => ?_)
    obtain ⟨hP, hK9, hD9⟩ := hB
    rw [ht] at hP
    try dsimp only at hw
    subst hw
    have hD := hD9.weaken (fun _ q _ h => hf9 q.1 h)
    obtain ⟨hz9, hF⟩ := chk_some hF
    obtain rfl := Option.some.inj hF
    exact W.zret (v := y6.2) (ty := .boolean) hx hb hr (nar_z hz9).1 (fun t ht hW => ⟨⟨_, (), rfl, rfl, ⟨by rw [ht]; exact hP, va_K.moved hW.alike hK, hD⟩⟩, hS.F ht⟩) hS.2.2 dX0_mayBe_10
theorem ggX0_paintMoved_X0_wide : GoodIn wsX0_paintMoved wsX0_wide := goodIn_r _ [10, 11, 19, 20, 21, 22, 23, 24, 25, 26, 27, 28, 29, 30, 31, 32, 33, 34, 35, 36, 37, 38, 39] (by decide +kernel) (by decide +kernel)
set_option maxRecDepth 20000 in
theorem gX0_paintMoved_X0_wide : GoodIn wsX0_paintMoved (wsV RX0 176 RX0 yX0_wide wsX0_wide) := goodIn_app (goodIn_of _ (by decide +kernel)) ggX0_paintMoved_X0_wide
set_option maxRecDepth 20000 in
theorem ggX0_paintMoved_X0_high : GoodIn wsX0_paintMoved wsX0_high := goodIn_r _ [15, 11, 19, 20, 21, 22, 23, 24, 25, 26, 27, 28, 29, 30, 31, 32, 33, 34, 35, 36, 37, 38, 39] (by decide +kernel) (by decide +kernel)
set_option maxRecDepth 20000 in
theorem gX0_paintMoved_X0_high : GoodIn wsX0_paintMoved (wsV RX0 180 RX0 yX0_high wsX0_high) := goodIn_app (goodIn_of _ (by decide +kernel)) ggX0_paintMoved_X0_high
set_option maxRecDepth 20000 in
theorem ggX0_paintMoved_X0_moved : GoodIn wsX0_paintMoved wsX0_moved := goodIn_r _ [18] (by decide +kernel) (by decide +kernel)
set_option maxRecDepth 20000 in
theorem gX0_paintMoved_X0_moved : GoodIn wsX0_paintMoved (va_wsS RX0 192 yX0_moved wsX0_moved) := goodIn_app (goodIn_of _ (by decide +kernel)) ggX0_paintMoved_X0_moved
theorem dX0_paintMoved_0 : decode cX0_paintMoved 0 = .ok (.iconst 0, 1) := by decide +kernel
theorem dX0_paintMoved_1 : decode cX0_paintMoved 1 = .ok (.istore_n 3, 1) := by decide +kernel
theorem dX0_paintMoved_2 : decode cX0_paintMoved 2 = .ok (.iload_n 3, 1) := by decide +kernel
theorem dX0_paintMoved_3 : decode cX0_paintMoved 3 = .ok (.iconst 3, 1) := by decide +kernel
theorem dX0_paintMoved_4 : decode cX0_paintMoved 4 = .ok (.if_icmp .ge 146, 3) := by decide +kernel
theorem dX0_paintMoved_7 : decode cX0_paintMoved 7 = .ok (.aload_n 0, 1) := by decide +kernel
theorem dX0_paintMoved_8 : decode cX0_paintMoved 8 = .ok (.iload_n 3, 1) := by decide +kernel
theorem dX0_paintMoved_9 : decode cX0_paintMoved 9 = .ok (.invokevirtual 176, 3) := by decide +kernel
theorem dX0_paintMoved_12 : decode cX0_paintMoved 12 = .ok (.istore 4, 2) := by decide +kernel
theorem dX0_paintMoved_14 : decode cX0_paintMoved 14 = .ok (.iload 4, 2) := by decide +kernel
theorem dX0_paintMoved_16 : decode cX0_paintMoved 16 = .ok (.aload_n 0, 1) := by decide +kernel
theorem dX0_paintMoved_17 : decode cX0_paintMoved 17 = .ok (.iload_n 3, 1) := by decide +kernel
theorem dX0_paintMoved_18 : decode cX0_paintMoved 18 = .ok (.invokevirtual 180, 3) := by decide +kernel
theorem dX0_paintMoved_21 : decode cX0_paintMoved 21 = .ok (.imul, 1) := by decide +kernel
theorem dX0_paintMoved_22 : decode cX0_paintMoved 22 = .ok (.istore 5, 2) := by decide +kernel
theorem dX0_paintMoved_24 : decode cX0_paintMoved 24 = .ok (.aload_n 0, 1) := by decide +kernel
theorem dX0_paintMoved_25 : decode cX0_paintMoved 25 = .ok (.getfield 66, 3) := by decide +kernel
theorem dX0_paintMoved_28 : decode cX0_paintMoved 28 = .ok (.bipush 9, 2) := by decide +kernel
theorem dX0_paintMoved_30 : decode cX0_paintMoved 30 = .ok (.iload_n 3, 1) := by decide +kernel
theorem dX0_paintMoved_31 : decode cX0_paintMoved 31 = .ok (.iadd, 1) := by decide +kernel
theorem dX0_paintMoved_32 : decode cX0_paintMoved 32 = .ok (.aaload, 1) := by decide +kernel
theorem dX0_paintMoved_33 : decode cX0_paintMoved 33 = .ok (.iconst 0, 1) := by decide +kernel
theorem dX0_paintMoved_34 : decode cX0_paintMoved 34 = .ok (.aload_n 0, 1) := by decide +kernel
theorem dX0_paintMoved_35 : decode cX0_paintMoved 35 = .ok (.getfield 66, 3) := by decide +kernel
theorem dX0_paintMoved_38 : decode cX0_paintMoved 38 = .ok (.bipush 6, 2) := by decide +kernel
theorem dX0_paintMoved_40 : decode cX0_paintMoved 40 = .ok (.iload_n 3, 1) := by decide +kernel
theorem dX0_paintMoved_41 : decode cX0_paintMoved 41 = .ok (.iadd, 1) := by decide +kernel
theorem dX0_paintMoved_42 : decode cX0_paintMoved 42 = .ok (.aaload, 1) := by decide +kernel
theorem dX0_paintMoved_43 : decode cX0_paintMoved 43 = .ok (.iconst 0, 1) := by decide +kernel
theorem dX0_paintMoved_44 : decode cX0_paintMoved 44 = .ok (.iload 5, 2) := by decide +kernel
theorem dX0_paintMoved_46 : decode cX0_paintMoved 46 = .ok (.invokestatic 94, 3) := by decide +kernel
theorem dX0_paintMoved_49 : decode cX0_paintMoved 49 = .ok (.iconst 0, 1) := by decide +kernel
theorem dX0_paintMoved_50 : decode cX0_paintMoved 50 = .ok (.istore 6, 2) := by decide +kernel
theorem dX0_paintMoved_52 : decode cX0_paintMoved 52 = .ok (.iload 6, 2) := by decide +kernel
theorem dX0_paintMoved_54 : decode cX0_paintMoved 54 = .ok (.iload 5, 2) := by decide +kernel
theorem dX0_paintMoved_56 : decode cX0_paintMoved 56 = .ok (.if_icmp .ge 88, 3) := by decide +kernel
theorem dX0_paintMoved_59 : decode cX0_paintMoved 59 = .ok (.iload 6, 2) := by decide +kernel
theorem dX0_paintMoved_61 : decode cX0_paintMoved 61 = .ok (.iload 4, 2) := by decide +kernel
theorem dX0_paintMoved_63 : decode cX0_paintMoved 63 = .ok (.irem, 1) := by decide +kernel
theorem dX0_paintMoved_64 : decode cX0_paintMoved 64 = .ok (.iload_n 3, 1) := by decide +kernel
theorem dX0_paintMoved_65 : decode cX0_paintMoved 65 = .ok (.ifCond .ne 7, 3) := by decide +kernel
theorem dX0_paintMoved_68 : decode cX0_paintMoved 68 = .ok (.iload_n 1, 1) := by decide +kernel
theorem dX0_paintMoved_69 : decode cX0_paintMoved 69 = .ok (.goto 6, 3) := by decide +kernel
theorem dX0_paintMoved_72 : decode cX0_paintMoved 72 = .ok (.iload_n 1, 1) := by decide +kernel
theorem dX0_paintMoved_73 : decode cX0_paintMoved 73 = .ok (.iconst 2, 1) := by decide +kernel
theorem dX0_paintMoved_74 : decode cX0_paintMoved 74 = .ok (.idiv, 1) := by decide +kernel
theorem dX0_paintMoved_75 : decode cX0_paintMoved 75 = .ok (.iload 4, 2) := by decide +kernel
theorem dX0_paintMoved_77 : decode cX0_paintMoved 77 = .ok (.invokestatic 192, 3) := by decide +kernel
theorem dX0_paintMoved_80 : decode cX0_paintMoved 80 = .ok (.istore 7, 2) := by decide +kernel
theorem dX0_paintMoved_82 : decode cX0_paintMoved 82 = .ok (.iload 6, 2) := by decide +kernel
theorem dX0_paintMoved_84 : decode cX0_paintMoved 84 = .ok (.iload 4, 2) := by decide +kernel
theorem dX0_paintMoved_86 : decode cX0_paintMoved 86 = .ok (.idiv, 1) := by decide +kernel
theorem dX0_paintMoved_87 : decode cX0_paintMoved 87 = .ok (.iload_n 3, 1) := by decide +kernel
theorem dX0_paintMoved_88 : decode cX0_paintMoved 88 = .ok (.ifCond .ne 7, 3) := by decide +kernel
theorem dX0_paintMoved_91 : decode cX0_paintMoved 91 = .ok (.iload_n 2, 1) := by decide +kernel
theorem dX0_paintMoved_92 : decode cX0_paintMoved 92 = .ok (.goto 6, 3) := by decide +kernel
theorem dX0_paintMoved_95 : decode cX0_paintMoved 95 = .ok (.iload_n 2, 1) := by decide +kernel
theorem dX0_paintMoved_96 : decode cX0_paintMoved 96 = .ok (.iconst 2, 1) := by decide +kernel
theorem dX0_paintMoved_97 : decode cX0_paintMoved 97 = .ok (.idiv, 1) := by decide +kernel
theorem dX0_paintMoved_98 : decode cX0_paintMoved 98 = .ok (.aload_n 0, 1) := by decide +kernel
theorem dX0_paintMoved_99 : decode cX0_paintMoved 99 = .ok (.iload_n 3, 1) := by decide +kernel
theorem dX0_paintMoved_100 : decode cX0_paintMoved 100 = .ok (.invokevirtual 180, 3) := by decide +kernel
theorem dX0_paintMoved_103 : decode cX0_paintMoved 103 = .ok (.invokestatic 192, 3) := by decide +kernel
theorem dX0_paintMoved_106 : decode cX0_paintMoved 106 = .ok (.istore 8, 2) := by decide +kernel
theorem dX0_paintMoved_108 : decode cX0_paintMoved 108 = .ok (.aload_n 0, 1) := by decide +kernel
theorem dX0_paintMoved_109 : decode cX0_paintMoved 109 = .ok (.getfield 66, 3) := by decide +kernel
theorem dX0_paintMoved_112 : decode cX0_paintMoved 112 = .ok (.bipush 9, 2) := by decide +kernel
theorem dX0_paintMoved_114 : decode cX0_paintMoved 114 = .ok (.iload_n 3, 1) := by decide +kernel
theorem dX0_paintMoved_115 : decode cX0_paintMoved 115 = .ok (.iadd, 1) := by decide +kernel
theorem dX0_paintMoved_116 : decode cX0_paintMoved 116 = .ok (.aaload, 1) := by decide +kernel
theorem dX0_paintMoved_117 : decode cX0_paintMoved 117 = .ok (.iload 6, 2) := by decide +kernel
theorem dX0_paintMoved_119 : decode cX0_paintMoved 119 = .ok (.aload_n 0, 1) := by decide +kernel
theorem dX0_paintMoved_120 : decode cX0_paintMoved 120 = .ok (.getfield 66, 3) := by decide +kernel
theorem dX0_paintMoved_123 : decode cX0_paintMoved 123 = .ok (.bipush 6, 2) := by decide +kernel
theorem dX0_paintMoved_125 : decode cX0_paintMoved 125 = .ok (.iload_n 3, 1) := by decide +kernel
theorem dX0_paintMoved_126 : decode cX0_paintMoved 126 = .ok (.iadd, 1) := by decide +kernel
theorem dX0_paintMoved_127 : decode cX0_paintMoved 127 = .ok (.aaload, 1) := by decide +kernel
theorem dX0_paintMoved_128 : decode cX0_paintMoved 128 = .ok (.iload 8, 2) := by decide +kernel
theorem dX0_paintMoved_130 : decode cX0_paintMoved 130 = .ok (.iload 4, 2) := by decide +kernel
theorem dX0_paintMoved_132 : decode cX0_paintMoved 132 = .ok (.imul, 1) := by decide +kernel
theorem dX0_paintMoved_133 : decode cX0_paintMoved 133 = .ok (.iload 7, 2) := by decide +kernel
theorem dX0_paintMoved_135 : decode cX0_paintMoved 135 = .ok (.iadd, 1) := by decide +kernel
theorem dX0_paintMoved_136 : decode cX0_paintMoved 136 = .ok (.iaload, 1) := by decide +kernel
theorem dX0_paintMoved_137 : decode cX0_paintMoved 137 = .ok (.iastore, 1) := by decide +kernel
theorem dX0_paintMoved_138 : decode cX0_paintMoved 138 = .ok (.iinc 6 1, 3) := by decide +kernel
theorem dX0_paintMoved_141 : decode cX0_paintMoved 141 = .ok (.goto (-89), 3) := by decide +kernel
theorem dX0_paintMoved_144 : decode cX0_paintMoved 144 = .ok (.iinc 3 1, 3) := by decide +kernel
theorem dX0_paintMoved_147 : decode cX0_paintMoved 147 = .ok (.goto (-145), 3) := by decide +kernel
theorem dX0_paintMoved_150 : decode cX0_paintMoved 150 = .ok (.return_, 1) := by decide +kernel
def FX0_paintMoved (G : GG) (M : DD) (a : Nat) (p0 : Int32) (p1 : Int32) : Option (DD) :=
  bnd (itr (fun (s2 : Int32 × DD) => ((if ((3 : Int32)) ≤ s2.1 then (some (.inr (s2.1, s2.2))) else
  (bnd (FX0_wide G s2.2 a s2.1) fun y6 =>
  bnd (FX0_high G y6.1 a s2.1) fun y7 =>
  ltt ((y6.2 * y7.2)) fun x8 =>
  ltt ((((9 : Int32)) + s2.1)) fun x9 =>
  dr G 15 ((y7.1.2 a 8)) fun b10 =>
  chk (¬ (x9 < 0 ∨ G.2.2 b10 ≤ x9.toNatClampNeg)) <|
  ltt ((((6 : Int32)) + s2.1)) fun x11 =>
  chk (¬ (x11 < 0 ∨ G.2.2 b10 ≤ x11.toNatClampNeg)) <|
  dr G 13 ((y7.1.2 b10 x9.toNatClampNeg)) fun b12 =>
  dr G 13 ((y7.1.2 b10 x11.toNatClampNeg)) fun b13 =>
  chk (¬ ((0 : Int32)) < 0 ∧ ¬ ((0 : Int32)) < 0 ∧ ¬ x8 < 0 ∧ ((0 : Int32)).toNatClampNeg + x8.toNatClampNeg ≤ G.2.2 b12 ∧ ((0 : Int32)).toNatClampNeg + x8.toNatClampNeg ≤ G.2.2 b13) <|
  ltt (rI y7.1 b13 (va_cpy (y7.1.1 b12) (y7.1.1 b13) ((0 : Int32)).toNatClampNeg ((0 : Int32)).toNatClampNeg x8.toNatClampNeg)) fun M14 =>
  bnd (itr (fun (s16 : Int32 × DD) => ((if x8 ≤ s16.1 then (some (.inr (s16.1, s16.2))) else
  (chk (¬ y6.2 = 0) <|
  ltt (s16.1 - s16.1 / y6.2 * y6.2) fun x21 =>
  bnd (if s2.1 = ((0 : Int32)) then (some (p0)) else
  (ltt (p0 / ((2 : Int32))) fun x41 =>
  some (x41))) fun (y22 : Int32) =>
  bnd (FX0_moved G s16.2 x21 y22 y6.2) fun y23 =>
  chk (¬ y6.2 = 0) <|
  ltt (s16.1 / y6.2) fun x24 =>
  bnd (if s2.1 = ((0 : Int32)) then (some (p1)) else
  (ltt (p1 / ((2 : Int32))) fun x39 =>
  some (x39))) fun (y25 : Int32) =>
  bnd (FX0_high G y23.1 a s2.1) fun y26 =>
  bnd (FX0_moved G y26.1 x24 y25 y26.2) fun y27 =>
  ltt ((((9 : Int32)) + s2.1)) fun x28 =>
  dr G 15 ((y27.1.2 a 8)) fun b29 =>
  chk (¬ (x28 < 0 ∨ G.2.2 b29 ≤ x28.toNatClampNeg)) <|
  ltt ((((6 : Int32)) + s2.1)) fun x30 =>
  chk (¬ (x30 < 0 ∨ G.2.2 b29 ≤ x30.toNatClampNeg)) <|
  ltt ((y27.2 * y6.2)) fun x31 =>
  ltt ((x31 + y23.2)) fun x32 =>
  dr G 13 ((y27.1.2 b29 x30.toNatClampNeg)) fun b33 =>
  chk (¬ (x32 < 0 ∨ G.2.2 b33 ≤ x32.toNatClampNeg)) <|
  ltt (y27.1.1 b33 x32.toNatClampNeg) fun x34 =>
  dr G 13 ((y27.1.2 b29 x28.toNatClampNeg)) fun b35 =>
  chk (¬ (s16.1 < 0 ∨ G.2.2 b35 ≤ s16.1.toNatClampNeg)) <|
  ltt (uI y27.1 b35 s16.1.toNatClampNeg x34) fun M36 =>
  ltt (s16.1 + (1 : Int32)) fun x37 =>
  some (.inl (x37, M36)))) : Option ((Int32 × DD) ⊕ (Int32 × DD)))) 1000000 ((0 : Int32), M14)) fun (y15 : Int32 × DD) =>
  ltt (s2.1 + (1 : Int32)) fun x18 =>
  some (.inl (x18, y15.2)))) : Option ((Int32 × DD) ⊕ (Int32 × DD)))) 1000000 ((0 : Int32), M)) fun (y1 : Int32 × DD) =>
  some y1.2
set_option maxHeartbeats 4000000 in
set_option maxRecDepth 100000 in
theorem kX0_paintMoved (l : Launch) (D : va_G) (ct : CT) (ad : Nat → Nat) (Z : Nat → Nat) (G : GG) (M : DD) (sz : Nat) (a : Nat) (p0 : Int32) (p1 : Int32) (y : DD) (hc : a < G.1) (hk : G.2.1 a = 0) (hF : FX0_paintMoved G M a p0 p1 = some y) : Met l yX0_paintMoved wsX0_paintMoved ({ frames := 1, cells := 0, slots := 0, locals := 80 }) (va_Pc [.ref (ad a), .int p0, .int p1] (kB D ct ad Z G M sz)) (va_Qv (fun (_ : Unit) => True) (fun _ t => kE D ct ad G (wA ad G sz) y t) (wA ad G sz)) 0 0 (wA ad G sz) := by
  refine Met.ofW (cc := cX0_paintMoved) (maxL := 9) (ret := none) (by decide) rfl ?_
  intro p e s m args below meth c s₁ B hml hv
  obtain ⟨rfl, hsz, hP, hK, hD0, hZ, hN⟩ := hv
  have hx := B.exec
  have hb := B.bytes
  have hr := B.returns
  have hts := atoms_spec (ws := wsX0_paintMoved) B.pre
  have hown : s.vm.findClass RX0 = some m.cls := findClass_of_methodNamed B.named
  have hlocks := B.notSynchronized
  subst hsz
  have hD := wD_self (sz := s.heap.size) hD0
  have hA9 : ∀ q, s.heap.size ≤ q → wA ad G s.heap.size q := fun q h => Or.inr h
  generalize hAe : wA ad G s.heap.size = A at hD hA9 hZ ⊢
  have hS : va_S A s.heap s.heap [] := va_S.rf
  have hl := lv_entry ([.ref (ad a), .int p0, .int p1]) (n := 9) (Nat.le_of_ble_eq_true rfl)
  rw [lg_entry_eq]
  generalize (lg_sl ([.ref (ad a), .int p0, .int p1]) ++ List.replicate (9 - (lg_sl ([.ref (ad a), .int p0, .int p1])).length) Slot.unset).toArray = ls at hl ⊢
  have hl : lv_has ls 9 [(0, .ref (ad a)), (1, .int p0), (2, .int p1)] := hl
  unfold FX0_paintMoved at hF
  refine lv_iconst (v := (0 : Int32)) hx hb dX0_paintMoved_0 (by decide) ?_
  refine lv_istore_n (lv' := [(3, .int (0 : Int32)), (0, .ref (ad a)), (1, .int p0), (2, .int p1)]) hx hb dX0_paintMoved_1 rfl hl (by decide) rfl (fun ls hl => ?_)
  obtain ⟨y1, hy1, hF⟩ := bnd_some hF
  have K1 : ∀ (H : Heap) (locs : List Loc) (ls : Array Slot), va_P D classes (wld ct ad G y1.2) H → va_D A (wld ct ad G y1.2) → va_S A s.heap H locs → lv_has ls 9 [(3, .int y1.1), (0, .ref (ad a)), (1, .int p0), (2, .int p1)] → W p l e (headSpec wsX0_paintMoved ({ frames := 1, cells := 0, slots := 0, locals := 80 })).room s m ([.ref (ad a), .int p0, .int p1] : List Value).toArray below meth c H locs 0 0 (MQ below (va_Qv (fun (_ : Unit) => True) (fun _ t => kE D ct ad G A y t) A) ([.ref (ad a), .int p0, .int p1] : List Value).toArray s 0 0 A) (F0 m 150 ls []) := by
    intro H locs ls hP hD hS hl
    obtain rfl := Option.some.inj hF
    exact W.vret hx hb hr (fun t ht hW => ⟨⟨(), rfl, trivial, ⟨by rw [ht]; exact hP, va_K.moved hW.alike hK, hD⟩⟩, hS.F ht⟩) hS.2.2 dX0_paintMoved_150
  clear hF
  refine itr_rule (fun (s2 : Int32 × DD) => ∀ (H : Heap) (locs : List Loc) (ls : Array Slot), va_P D classes (wld ct ad G s2.2) H → va_D A (wld ct ad G s2.2) → va_S A s.heap H locs → lv_has ls 9 [(3, .int s2.1), (0, .ref (ad a)), (1, .int p0), (2, .int p1)] → W p l e (headSpec wsX0_paintMoved ({ frames := 1, cells := 0, slots := 0, locals := 80 })).room s m ([.ref (ad a), .int p0, .int p1] : List Value).toArray below meth c H locs 0 0 (MQ below (va_Qv (fun (_ : Unit) => True) (fun _ t => kE D ct ad G A y t) A) ([.ref (ad a), .int p0, .int p1] : List Value).toArray s 0 0 A) (F0 m 2 ls [])) ?_ _ _ hy1 _ _ _ hP hD hS (lv_sub hl [0, 1, 2, 3] rfl)
  rintro s2 ⟨z4, hF, hwz4⟩ H locs ls hP hD hS hl
  try dsimp only at hF
  refine lv_iload_n hx hb dX0_paintMoved_2 rfl (lv_at hl 0 rfl) ?_
  refine lv_iconst (v := (3 : Int32)) hx hb dX0_paintMoved_3 (by decide) ?_
  refine lv_icmp_ge (tgt := 150) hx hb dX0_paintMoved_4 (by decide) (fun c5 => ?_) (fun c5 => ?_)
  · rw [if_pos c5] at hF
    obtain rfl := Option.some.inj hF
    subst hwz4
    exact K1 _ _ _ hP hD hS (lv_sub hl [0, 1, 2, 3] rfl)
  · rw [if_neg c5] at hF
    refine lv_aload_n hx hb dX0_paintMoved_7 rfl (lv_at hl 1 rfl) ?_
    refine lv_iload_n hx hb dX0_paintMoved_8 rfl (lv_at hl 0 rfl) ?_
    obtain ⟨y6, hy6, hF⟩ := bnd_some hF
    have hf9 := wA_in hD hA9 hS
    refine va_calli (va_runV (As := [.int s2.1]) (rest := []) ⟨hx, hb, hml, hown, hts⟩ (kX0_wide l D ct ad Z G s2.2 H.size a s2.1 y6 hc hk hy6) (cwV 1 hts gX0_paintMoved_X0_wide rfl rfl rfl (by decide +kernel) ⟨Nat.le_of_ble_eq_true rfl, Nat.le_of_ble_eq_true rfl⟩) ⟨fun a U g mk q => by obtain ⟨q0, q1, qP, qK, qD, qZ, qN⟩ := q; exact ⟨q0, q1, qP, va_K.moved (u := U) (U := U.calling g mk a) (Vm.Alike.refl U.vm) qK, qD, sF.moved (u := U) (U := U.calling g mk a) (Vm.Alike.refl U.vm) qZ, nF.same rfl qN⟩, va_recv hK hP (ci := 0) (q0 := a) rfl (wld_o ct ad G s2.2 hc hk (by decide)), fun U hU hW => ⟨rfl, by rw [hU], by rw [hU]; exact hP, va_K.moved hW.alike hK, hD.weaken (fun _ _ _ _ => trivial), by rw [hU]; exact ((hZ.kept hS.2.1).narrow hf9).moved hW.alike, hN.warm hW⟩⟩ rfl rfl hl.1 rfl (lv_room (Nat.le_of_ble_eq_true rfl)) dX0_paintMoved_9 ⟨(Nat.zero_le _), (Nat.zero_le _)⟩) hS (fun q _ h => hf9 q h) hf9 (fun r u t H locs ht hvm hw hB hz1 hk1 hS => ?_)
    obtain ⟨hP, hK9, hD9⟩ := hB
    rw [ht] at hP
    try dsimp only at hw
    subst hw
    have hD := hD9.weaken (fun _ q _ h => hf9 q.1 h)
    refine lv_istore (lv' := [(4, .int y6.2), (3, .int s2.1), (0, .ref (ad a)), (1, .int p0), (2, .int p1)]) hx hb dX0_paintMoved_12 hl (by decide) rfl (fun ls hl => ?_)
    refine lv_iload hx hb dX0_paintMoved_14 (lv_at hl 0 rfl) ?_
    refine lv_aload_n hx hb dX0_paintMoved_16 rfl (lv_at hl 2 rfl) ?_
    refine lv_iload_n hx hb dX0_paintMoved_17 rfl (lv_at hl 1 rfl) ?_
    obtain ⟨y7, hy7, hF⟩ := bnd_some hF
    have hf9 := wA_in hD hA9 hS
    refine va_calli (va_runV (As := [.int s2.1]) (rest := [.int y6.2]) ⟨hx, hb, hml, hown, hts⟩ (kX0_high l D ct ad Z G y6.1 H.size a s2.1 y7 hc hk hy7) (cwV 1 hts gX0_paintMoved_X0_high rfl rfl rfl (by decide +kernel) ⟨Nat.le_of_ble_eq_true rfl, Nat.le_of_ble_eq_true rfl⟩) ⟨fun a U g mk q => by obtain ⟨q0, q1, qP, qK, qD, qZ, qN⟩ := q; exact ⟨q0, q1, qP, va_K.moved (u := U) (U := U.calling g mk a) (Vm.Alike.refl U.vm) qK, qD, sF.moved (u := U) (U := U.calling g mk a) (Vm.Alike.refl U.vm) qZ, nF.same rfl qN⟩, va_recv hK hP (ci := 0) (q0 := a) rfl (wld_o ct ad G y6.1 hc hk (by decide)), fun U hU hW => ⟨rfl, by rw [hU], by rw [hU]; exact hP, va_K.moved hW.alike hK, hD.weaken (fun _ _ _ _ => trivial), by rw [hU]; exact ((hZ.kept hS.2.1).narrow hf9).moved hW.alike, hN.warm hW⟩⟩ rfl rfl hl.1 rfl (lv_room (Nat.le_of_ble_eq_true rfl)) dX0_paintMoved_18 ⟨(Nat.zero_le _), (Nat.zero_le _)⟩) hS (fun q _ h => hf9 q h) hf9 (fun r u t H locs ht hvm hw hB hz1 hk1 hS => ?_)
    obtain ⟨hP, hK9, hD9⟩ := hB
    rw [ht] at hP
    try dsimp only at hw
    subst hw
    have hD := hD9.weaken (fun _ q _ h => hf9 q.1 h)
    refine lv_imul hx hb dX0_paintMoved_21 ?_
    obtain ⟨x8, ex8, hF⟩ := ltt_some hF
    refine lv_topi (fun zx8 ezx8 => ?_)
    obtain rfl : x8 = zx8 := ex8.trans ezx8.symm
    refine lv_istore (lv' := [(5, .int x8), (4, .int y6.2), (3, .int s2.1), (0, .ref (ad a)), (1, .int p0), (2, .int p1)]) hx hb dX0_paintMoved_22 hl (by decide) rfl (fun ls hl => ?_)
    refine lv_aload_n hx hb dX0_paintMoved_24 rfl (lv_at hl 3 rfl) ?_
    refine va_get (D := D) (ci := 0) (v := va_re ad (y7.1.2 a 8)) (C := RX0) (T := TX0) (N := 21) hx hb hts (by decide +kernel) hown hK hP a (wld_o ct ad G y7.1 hc hk (by decide)) rfl 8 (by decide) (hts (.fieldLink RX0 66 "VideoSuite$Coder" "planes" "[[I") (by decide +kernel)) (fun _ h9 => h9) rfl dX0_paintMoved_25 ?_
    refine lv_bipush (v := (9 : Int32)) hx hb dX0_paintMoved_28 (by decide) ?_
    refine lv_iload_n hx hb dX0_paintMoved_30 rfl (lv_at hl 2 rfl) ?_
    refine lv_iadd hx hb dX0_paintMoved_31 ?_
    obtain ⟨x9, ex9, hF⟩ := ltt_some hF
    refine lv_topi (fun zx9 ezx9 => ?_)
    obtain rfl : x9 = zx9 := ex9.trans ezx9.symm
    obtain ⟨b10, ho10, hc10, hk10, hF⟩ := dr_some hF
    refine W_st (st' := [.int x9, .ref (ad b10)]) (by rw [va_some ho10]) ?_
    obtain ⟨hvc, hF⟩ := chk_some hF
    refine ld_g hx hb hK hP hc10 hk10 hvc dX0_paintMoved_32 ?_
    refine lv_iconst (v := (0 : Int32)) hx hb dX0_paintMoved_33 (by decide) ?_
    refine lv_aload_n hx hb dX0_paintMoved_34 rfl (lv_at hl 3 rfl) ?_
    refine va_get (D := D) (ci := 0) (v := va_re ad (y7.1.2 a 8)) (C := RX0) (T := TX0) (N := 21) hx hb hts (by decide +kernel) hown hK hP a (wld_o ct ad G y7.1 hc hk (by decide)) rfl 8 (by decide) (hts (.fieldLink RX0 66 "VideoSuite$Coder" "planes" "[[I") (by decide +kernel)) (fun _ h9 => h9) rfl dX0_paintMoved_35 ?_
    refine lv_bipush (v := (6 : Int32)) hx hb dX0_paintMoved_38 (by decide) ?_
    refine lv_iload_n hx hb dX0_paintMoved_40 rfl (lv_at hl 2 rfl) ?_
    refine lv_iadd hx hb dX0_paintMoved_41 ?_
    obtain ⟨x11, ex11, hF⟩ := ltt_some hF
    refine lv_topi (fun zx11 ezx11 => ?_)
    obtain rfl : x11 = zx11 := ex11.trans ezx11.symm
    refine W_st (st' := [.int x11, .ref (ad b10), .int (0 : Int32), va_re ad (y7.1.2 b10 x9.toNatClampNeg)]) (by rw [va_some ho10]) ?_
    obtain ⟨hvc, hF⟩ := chk_some hF
    refine ld_g hx hb hK hP hc10 hk10 hvc dX0_paintMoved_42 ?_
    refine lv_iconst (v := (0 : Int32)) hx hb dX0_paintMoved_43 (by decide) ?_
    refine lv_iload hx hb dX0_paintMoved_44 (lv_at hl 0 rfl) ?_
    obtain ⟨b12, ho12, hc12, hk12, hF⟩ := dr_some hF
    refine W_st (st' := [.int x8, .int (0 : Int32), va_re ad (y7.1.2 b10 x11.toNatClampNeg), .int (0 : Int32), .ref (ad b12)]) (by rw [va_some ho12]) ?_
    obtain ⟨b13, ho13, hc13, hk13, hF⟩ := dr_some hF
    refine W_st (st' := [.int x8, .int (0 : Int32), .ref (ad b13), .int (0 : Int32), .ref (ad b12)]) (by rw [va_some ho13]) ?_
    obtain ⟨hv9, hF⟩ := chk_some hF
    refine va_copyi (ty := .int) hx hb (hml.trans hl.1.symm) hown (hts (.methodLink RX0 94 arraycopyName) (by decide +kernel)) (hts (.native arraycopyName) (by decide +kernel)) (hts (.static arraycopyName) (by decide +kernel)) (hts (.initialized "java/lang/System") (by decide +kernel)) hK hP hD hS b12 b13 1 1 (wld_i ct ad G y7.1 hc12 hk12) (wld_i ct ad G y7.1 hc13 hk13) rfl rfl rfl hv9.1 hv9.2.1 hv9.2.2.1 hv9.2.2.2.1 hv9.2.2.2.2 (fun _ _ => rfl) (Nat.le_of_ble_eq_true rfl) (by decide +kernel) dX0_paintMoved_46 (fun H locs hP hD hS => ?_)
    obtain ⟨M14, eM14, hF⟩ := ltt_some hF
    rw [set_ri ct ad G y7.1 hc13 hk13, ← eM14] at hP hD
    refine lv_iconst (v := (0 : Int32)) hx hb dX0_paintMoved_49 (by decide) ?_
    refine lv_istore (lv' := [(6, .int (0 : Int32)), (5, .int x8), (4, .int y6.2), (3, .int s2.1), (0, .ref (ad a)), (1, .int p0), (2, .int p1)]) hx hb dX0_paintMoved_50 hl (by decide) rfl (fun ls hl => ?_)
    obtain ⟨y15, hy15, hF⟩ := bnd_some hF
    have K15 : ∀ (H : Heap) (locs : List Loc) (ls : Array Slot), va_P D classes (wld ct ad G y15.2) H → va_D A (wld ct ad G y15.2) → va_S A s.heap H locs → lv_has ls 9 [(6, .int y15.1), (5, .int x8), (4, .int y6.2), (3, .int s2.1), (0, .ref (ad a)), (1, .int p0), (2, .int p1)] → W p l e (headSpec wsX0_paintMoved ({ frames := 1, cells := 0, slots := 0, locals := 80 })).room s m ([.ref (ad a), .int p0, .int p1] : List Value).toArray below meth c H locs 0 0 (MQ below (va_Qv (fun (_ : Unit) => True) (fun _ t => kE D ct ad G A y t) A) ([.ref (ad a), .int p0, .int p1] : List Value).toArray s 0 0 A) (F0 m 144 ls []) := by
      intro H locs ls hP hD hS hl
      obtain ⟨x18, ex18, hF⟩ := ltt_some hF
      refine lv_iinc (v := x18) (lv' := [(3, .int x18), (6, .int y15.1), (5, .int x8), (4, .int y6.2), (0, .ref (ad a)), (1, .int p0), (2, .int p1)]) hx hb dX0_paintMoved_144 hl (k := 3) rfl (by rw [ex18]; rfl) (by decide) rfl (fun ls hl => ?_)
      refine lv_goto (tgt := 2) hx hb dX0_paintMoved_147 (by decide) ?_
      obtain rfl := Option.some.inj hF
      exact hwz4 _ _ _ hP hD hS (lv_sub hl [0, 4, 5, 6] rfl)
    clear hF
    refine itr_rule (fun (s16 : Int32 × DD) => ∀ (H : Heap) (locs : List Loc) (ls : Array Slot), va_P D classes (wld ct ad G s16.2) H → va_D A (wld ct ad G s16.2) → va_S A s.heap H locs → lv_has ls 9 [(6, .int s16.1), (5, .int x8), (4, .int y6.2), (3, .int s2.1), (0, .ref (ad a)), (1, .int p0), (2, .int p1)] → W p l e (headSpec wsX0_paintMoved ({ frames := 1, cells := 0, slots := 0, locals := 80 })).room s m ([.ref (ad a), .int p0, .int p1] : List Value).toArray below meth c H locs 0 0 (MQ below (va_Qv (fun (_ : Unit) => True) (fun _ t => kE D ct ad G A y t) A) ([.ref (ad a), .int p0, .int p1] : List Value).toArray s 0 0 A) (F0 m 52 ls [])) ?_ _ _ hy15 _ _ _ hP hD hS (lv_sub hl [0, 1, 2, 3, 4, 5, 6] rfl)
    rintro s16 ⟨z19, hF, hwz19⟩ H locs ls hP hD hS hl
    try dsimp only at hF
    refine lv_iload hx hb dX0_paintMoved_52 (lv_at hl 0 rfl) ?_
    refine lv_iload hx hb dX0_paintMoved_54 (lv_at hl 1 rfl) ?_
    refine lv_icmp_ge (tgt := 144) hx hb dX0_paintMoved_56 (by decide) (fun c20 => ?_) (fun c20 => ?_)
    · rw [if_pos c20] at hF
      obtain rfl := Option.some.inj hF
      subst hwz19
      exact K15 _ _ _ hP hD hS (lv_sub hl [0, 1, 2, 3, 4, 5, 6] rfl)
    · rw [if_neg c20] at hF
      refine lv_iload hx hb dX0_paintMoved_59 (lv_at hl 0 rfl) ?_
      refine lv_iload hx hb dX0_paintMoved_61 (lv_at hl 2 rfl) ?_
      obtain ⟨hne, hF⟩ := chk_some hF
      refine lv_irem hx hb dX0_paintMoved_63 hne ?_
      obtain ⟨x21, ex21, hF⟩ := ltt_some hF
      refine lv_topi (fun zx21 ezx21 => ?_)
      obtain rfl : x21 = zx21 := ex21.trans ezx21.symm
      refine lv_iload_n hx hb dX0_paintMoved_64 rfl (lv_at hl 3 rfl) ?_
      obtain ⟨y22, hy22, hF⟩ := bnd_some hF
      have J22 : ∀ (H : Heap) (locs : List Loc) (ls : Array Slot), va_P D classes (wld ct ad G s16.2) H → va_D A (wld ct ad G s16.2) → va_S A s.heap H locs → lv_has ls 9 [(6, .int s16.1), (5, .int x8), (4, .int y6.2), (3, .int s2.1), (0, .ref (ad a)), (1, .int p0), (2, .int p1)] → W p l e (headSpec wsX0_paintMoved ({ frames := 1, cells := 0, slots := 0, locals := 80 })).room s m ([.ref (ad a), .int p0, .int p1] : List Value).toArray below meth c H locs 0 0 (MQ below (va_Qv (fun (_ : Unit) => True) (fun _ t => kE D ct ad G A y t) A) ([.ref (ad a), .int p0, .int p1] : List Value).toArray s 0 0 A) (F0 m 75 ls [.int y22, .int x21]) := by
        intro H locs ls hP hD hS hl
        refine lv_iload hx hb dX0_paintMoved_75 (lv_at hl 2 rfl) ?_
        obtain ⟨y23, hy23, hF⟩ := bnd_some hF
        have hf9 := wA_in hD hA9 hS
        refine va_calli (va_runS (As := [.int x21, .int y22, .int y6.2]) (rest := []) ⟨hx, hb, hml, hown, hts⟩ (kX0_moved l D ct ad Z G s16.2 H.size x21 y22 y6.2 y23 hy23) (va_cwS 3 hts gX0_paintMoved_X0_moved rfl rfl rfl (by decide +kernel) ⟨Nat.le_of_ble_eq_true rfl, Nat.le_of_ble_eq_true rfl⟩) ⟨fun a U g mk q => by obtain ⟨q0, q1, qP, qK, qD, qZ, qN⟩ := q; exact ⟨q0, q1, qP, va_K.moved (u := U) (U := U.calling g mk a) (Vm.Alike.refl U.vm) qK, qD, sF.moved (u := U) (U := U.calling g mk a) (Vm.Alike.refl U.vm) qZ, nF.same rfl qN⟩, fun U hU hW => ⟨rfl, by rw [hU], by rw [hU]; exact hP, va_K.moved hW.alike hK, hD.weaken (fun _ _ _ _ => trivial), by rw [hU]; exact ((hZ.kept hS.2.1).narrow hf9).moved hW.alike, hN.warm hW⟩⟩ rfl rfl hl.1 rfl (lv_room (Nat.le_of_ble_eq_true rfl)) dX0_paintMoved_77 ⟨(Nat.zero_le _), (Nat.zero_le _)⟩) hS (fun q _ h => hf9 q h) hf9 (fun r u t H locs ht hvm hw hB hz1 hk1 hS => ?_)
        obtain ⟨hP, hK9, hD9⟩ := hB
        rw [ht] at hP
        try dsimp only at hw
        subst hw
        have hD := hD9.weaken (fun _ q _ h => hf9 q.1 h)
        refine lv_istore (lv' := [(7, .int y23.2), (6, .int s16.1), (5, .int x8), (4, .int y6.2), (3, .int s2.1), (0, .ref (ad a)), (1, .int p0), (2, .int p1)]) hx hb dX0_paintMoved_80 hl (by decide) rfl (fun ls hl => ?_)
        refine lv_iload hx hb dX0_paintMoved_82 (lv_at hl 1 rfl) ?_
        refine lv_iload hx hb dX0_paintMoved_84 (lv_at hl 3 rfl) ?_
        obtain ⟨hne, hF⟩ := chk_some hF
        refine lv_idiv hx hb dX0_paintMoved_86 hne ?_
        obtain ⟨x24, ex24, hF⟩ := ltt_some hF
        refine lv_topi (fun zx24 ezx24 => ?_)
        obtain rfl : x24 = zx24 := ex24.trans ezx24.symm
        refine lv_iload_n hx hb dX0_paintMoved_87 rfl (lv_at hl 4 rfl) ?_
        obtain ⟨y25, hy25, hF⟩ := bnd_some hF
        have J25 : ∀ (H : Heap) (locs : List Loc) (ls : Array Slot), va_P D classes (wld ct ad G y23.1) H → va_D A (wld ct ad G y23.1) → va_S A s.heap H locs → lv_has ls 9 [(7, .int y23.2), (6, .int s16.1), (5, .int x8), (4, .int y6.2), (3, .int s2.1), (0, .ref (ad a)), (1, .int p0), (2, .int p1)] → W p l e (headSpec wsX0_paintMoved ({ frames := 1, cells := 0, slots := 0, locals := 80 })).room s m ([.ref (ad a), .int p0, .int p1] : List Value).toArray below meth c H locs 0 0 (MQ below (va_Qv (fun (_ : Unit) => True) (fun _ t => kE D ct ad G A y t) A) ([.ref (ad a), .int p0, .int p1] : List Value).toArray s 0 0 A) (F0 m 98 ls [.int y25, .int x24]) := by
          intro H locs ls hP hD hS hl
          refine lv_aload_n hx hb dX0_paintMoved_98 rfl (lv_at hl 5 rfl) ?_
          refine lv_iload_n hx hb dX0_paintMoved_99 rfl (lv_at hl 4 rfl) ?_
          obtain ⟨y26, hy26, hF⟩ := bnd_some hF
          have hf9 := wA_in hD hA9 hS
          refine va_calli (va_runV (As := [.int s2.1]) (rest := [.int y25, .int x24]) ⟨hx, hb, hml, hown, hts⟩ (kX0_high l D ct ad Z G y23.1 H.size a s2.1 y26 hc hk hy26) (cwV 1 hts gX0_paintMoved_X0_high rfl rfl rfl (by decide +kernel) ⟨Nat.le_of_ble_eq_true rfl, Nat.le_of_ble_eq_true rfl⟩) ⟨fun a U g mk q => by obtain ⟨q0, q1, qP, qK, qD, qZ, qN⟩ := q; exact ⟨q0, q1, qP, va_K.moved (u := U) (U := U.calling g mk a) (Vm.Alike.refl U.vm) qK, qD, sF.moved (u := U) (U := U.calling g mk a) (Vm.Alike.refl U.vm) qZ, nF.same rfl qN⟩, va_recv hK hP (ci := 0) (q0 := a) rfl (wld_o ct ad G y23.1 hc hk (by decide)), fun U hU hW => ⟨rfl, by rw [hU], by rw [hU]; exact hP, va_K.moved hW.alike hK, hD.weaken (fun _ _ _ _ => trivial), by rw [hU]; exact ((hZ.kept hS.2.1).narrow hf9).moved hW.alike, hN.warm hW⟩⟩ rfl rfl hl.1 rfl (lv_room (Nat.le_of_ble_eq_true rfl)) dX0_paintMoved_100 ⟨(Nat.zero_le _), (Nat.zero_le _)⟩) hS (fun q _ h => hf9 q h) hf9 (fun r u t H locs ht hvm hw hB hz1 hk1 hS => ?_)
          obtain ⟨hP, hK9, hD9⟩ := hB
          rw [ht] at hP
          try dsimp only at hw
          subst hw
          have hD := hD9.weaken (fun _ q _ h => hf9 q.1 h)
          obtain ⟨y27, hy27, hF⟩ := bnd_some hF
          have hf9 := wA_in hD hA9 hS
          refine va_calli (va_runS (As := [.int x24, .int y25, .int y26.2]) (rest := []) ⟨hx, hb, hml, hown, hts⟩ (kX0_moved l D ct ad Z G y26.1 H.size x24 y25 y26.2 y27 hy27) (va_cwS 3 hts gX0_paintMoved_X0_moved rfl rfl rfl (by decide +kernel) ⟨Nat.le_of_ble_eq_true rfl, Nat.le_of_ble_eq_true rfl⟩) ⟨fun a U g mk q => by obtain ⟨q0, q1, qP, qK, qD, qZ, qN⟩ := q; exact ⟨q0, q1, qP, va_K.moved (u := U) (U := U.calling g mk a) (Vm.Alike.refl U.vm) qK, qD, sF.moved (u := U) (U := U.calling g mk a) (Vm.Alike.refl U.vm) qZ, nF.same rfl qN⟩, fun U hU hW => ⟨rfl, by rw [hU], by rw [hU]; exact hP, va_K.moved hW.alike hK, hD.weaken (fun _ _ _ _ => trivial), by rw [hU]; exact ((hZ.kept hS.2.1).narrow hf9).moved hW.alike, hN.warm hW⟩⟩ rfl rfl hl.1 rfl (lv_room (Nat.le_of_ble_eq_true rfl)) dX0_paintMoved_103 ⟨(Nat.zero_le _), (Nat.zero_le _)⟩) hS (fun q _ h => hf9 q h) hf9 (fun r u t H locs ht hvm hw hB hz1 hk1 hS => ?_)
          obtain ⟨hP, hK9, hD9⟩ := hB
          rw [ht] at hP
          try dsimp only at hw
          subst hw
          have hD := hD9.weaken (fun _ q _ h => hf9 q.1 h)
          refine lv_istore (lv' := [(8, .int y27.2), (7, .int y23.2), (6, .int s16.1), (5, .int x8), (4, .int y6.2), (3, .int s2.1), (0, .ref (ad a)), (1, .int p0), (2, .int p1)]) hx hb dX0_paintMoved_106 hl (by decide) rfl (fun ls hl => ?_)
          refine lv_aload_n hx hb dX0_paintMoved_108 rfl (lv_at hl 6 rfl) ?_
          refine va_get (D := D) (ci := 0) (v := va_re ad (y27.1.2 a 8)) (C := RX0) (T := TX0) (N := 21) hx hb hts (by decide +kernel) hown hK hP a (wld_o ct ad G y27.1 hc hk (by decide)) rfl 8 (by decide) (hts (.fieldLink RX0 66 "VideoSuite$Coder" "planes" "[[I") (by decide +kernel)) (fun _ h9 => h9) rfl dX0_paintMoved_109 ?_
          refine lv_bipush (v := (9 : Int32)) hx hb dX0_paintMoved_112 (by decide) ?_
          refine lv_iload_n hx hb dX0_paintMoved_114 rfl (lv_at hl 5 rfl) ?_
          refine lv_iadd hx hb dX0_paintMoved_115 ?_
          obtain ⟨x28, ex28, hF⟩ := ltt_some hF
          refine lv_topi (fun zx28 ezx28 => ?_)
          obtain rfl : x28 = zx28 := ex28.trans ezx28.symm
          obtain ⟨b29, ho29, hc29, hk29, hF⟩ := dr_some hF
          refine W_st (st' := [.int x28, .ref (ad b29)]) (by rw [va_some ho29]) ?_
          obtain ⟨hvc, hF⟩ := chk_some hF
          refine ld_g hx hb hK hP hc29 hk29 hvc dX0_paintMoved_116 ?_
          refine lv_iload hx hb dX0_paintMoved_117 (lv_at hl 2 rfl) ?_
          refine lv_aload_n hx hb dX0_paintMoved_119 rfl (lv_at hl 6 rfl) ?_
          refine va_get (D := D) (ci := 0) (v := va_re ad (y27.1.2 a 8)) (C := RX0) (T := TX0) (N := 21) hx hb hts (by decide +kernel) hown hK hP a (wld_o ct ad G y27.1 hc hk (by decide)) rfl 8 (by decide) (hts (.fieldLink RX0 66 "VideoSuite$Coder" "planes" "[[I") (by decide +kernel)) (fun _ h9 => h9) rfl dX0_paintMoved_120 ?_
          refine lv_bipush (v := (6 : Int32)) hx hb dX0_paintMoved_123 (by decide) ?_
          refine lv_iload_n hx hb dX0_paintMoved_125 rfl (lv_at hl 5 rfl) ?_
          refine lv_iadd hx hb dX0_paintMoved_126 ?_
          obtain ⟨x30, ex30, hF⟩ := ltt_some hF
          refine lv_topi (fun zx30 ezx30 => ?_)
          obtain rfl : x30 = zx30 := ex30.trans ezx30.symm
          refine W_st (st' := [.int x30, .ref (ad b29), .int s16.1, va_re ad (y27.1.2 b29 x28.toNatClampNeg)]) (by rw [va_some ho29]) ?_
          obtain ⟨hvc, hF⟩ := chk_some hF
          refine ld_g hx hb hK hP hc29 hk29 hvc dX0_paintMoved_127 ?_
          refine lv_iload hx hb dX0_paintMoved_128 (lv_at hl 0 rfl) ?_
          refine lv_iload hx hb dX0_paintMoved_130 (lv_at hl 4 rfl) ?_
          refine lv_imul hx hb dX0_paintMoved_132 ?_
          obtain ⟨x31, ex31, hF⟩ := ltt_some hF
          refine lv_topi (fun zx31 ezx31 => ?_)
          obtain rfl : x31 = zx31 := ex31.trans ezx31.symm
          refine lv_iload hx hb dX0_paintMoved_133 (lv_at hl 1 rfl) ?_
          refine lv_iadd hx hb dX0_paintMoved_135 ?_
          obtain ⟨x32, ex32, hF⟩ := ltt_some hF
          refine lv_topi (fun zx32 ezx32 => ?_)
          obtain rfl : x32 = zx32 := ex32.trans ezx32.symm
          obtain ⟨b33, ho33, hc33, hk33, hF⟩ := dr_some hF
          refine W_st (st' := [.int x32, .ref (ad b33), .int s16.1, va_re ad (y27.1.2 b29 x28.toNatClampNeg)]) (by rw [va_some ho33]) ?_
          obtain ⟨hvc, hF⟩ := chk_some hF
          refine va_iald hx hb hK hP b33 1 (wld_i ct ad G y27.1 hc33 hk33) rfl hvc dX0_paintMoved_136 ?_
          obtain ⟨x34, ex34, hF⟩ := ltt_some hF
          refine lv_topi (fun zx34 ezx34 => ?_)
          obtain rfl : x34 = zx34 := ex34.trans ezx34.symm
          obtain ⟨b35, ho35, hc35, hk35, hF⟩ := dr_some hF
          refine W_st (st' := [.int x34, .int s16.1, .ref (ad b35)]) (by rw [va_some ho35]) ?_
          obtain ⟨hvc, hF⟩ := chk_some hF
          refine va_iast hx hb hK hP hD hS b35 1 (wld_i ct ad G y27.1 hc35 hk35) rfl hvc dX0_paintMoved_137 (fun H locs hP hD hS => ?_)
          obtain ⟨M36, eM36, hF⟩ := ltt_some hF
          rw [set_i ct ad G y27.1 hc35 hk35, ← eM36] at hP hD
          obtain ⟨x37, ex37, hF⟩ := ltt_some hF
          refine lv_iinc (v := x37) (lv' := [(6, .int x37), (8, .int y27.2), (7, .int y23.2), (5, .int x8), (4, .int y6.2), (3, .int s2.1), (0, .ref (ad a)), (1, .int p0), (2, .int p1)]) hx hb dX0_paintMoved_138 hl (k := 2) rfl (by rw [ex37]; rfl) (by decide) rfl (fun ls hl => ?_)
          refine lv_goto (tgt := 52) hx hb dX0_paintMoved_141 (by decide) ?_
          obtain rfl := Option.some.inj hF
          exact hwz19 _ _ _ hP hD hS (lv_sub hl [0, 3, 4, 5, 6, 7, 8] rfl)
        clear hF
        have hF := hy25
        clear hy25
        refine lv_if_ne (tgt := 95) hx hb dX0_paintMoved_88 (by decide) (fun c38 => ?_) (fun c38 => ?_)
        · rw [if_neg c38] at hF
          refine lv_iload_n hx hb dX0_paintMoved_95 rfl (lv_at hl 7 rfl) ?_
          refine lv_iconst (v := (2 : Int32)) hx hb dX0_paintMoved_96 (by decide) ?_
          refine lv_idiv hx hb dX0_paintMoved_97 (by decide) ?_
          obtain ⟨x39, ex39, hF⟩ := ltt_some hF
          refine lv_topi (fun zx39 ezx39 => ?_)
          obtain rfl : x39 = zx39 := ex39.trans ezx39.symm
          obtain rfl := Option.some.inj hF
          exact J25 _ _ _ hP hD hS (lv_sub hl [0, 1, 2, 3, 4, 5, 6, 7] rfl)
        · rw [if_pos c38] at hF
          refine lv_iload_n hx hb dX0_paintMoved_91 rfl (lv_at hl 7 rfl) ?_
          refine lv_goto (tgt := 98) hx hb dX0_paintMoved_92 (by decide) ?_
          obtain rfl := Option.some.inj hF
          exact J25 _ _ _ hP hD hS (lv_sub hl [0, 1, 2, 3, 4, 5, 6, 7] rfl)
      clear hF
      have hF := hy22
      clear hy22
      refine lv_if_ne (tgt := 72) hx hb dX0_paintMoved_65 (by decide) (fun c40 => ?_) (fun c40 => ?_)
      · rw [if_neg c40] at hF
        refine lv_iload_n hx hb dX0_paintMoved_72 rfl (lv_at hl 5 rfl) ?_
        refine lv_iconst (v := (2 : Int32)) hx hb dX0_paintMoved_73 (by decide) ?_
        refine lv_idiv hx hb dX0_paintMoved_74 (by decide) ?_
        obtain ⟨x41, ex41, hF⟩ := ltt_some hF
        refine lv_topi (fun zx41 ezx41 => ?_)
        obtain rfl : x41 = zx41 := ex41.trans ezx41.symm
        obtain rfl := Option.some.inj hF
        exact J22 _ _ _ hP hD hS (lv_sub hl [0, 1, 2, 3, 4, 5, 6] rfl)
      · rw [if_pos c40] at hF
        refine lv_iload_n hx hb dX0_paintMoved_68 rfl (lv_at hl 5 rfl) ?_
        refine lv_goto (tgt := 75) hx hb dX0_paintMoved_69 (by decide) ?_
        obtain rfl := Option.some.inj hF
        exact J22 _ _ _ hP hD hS (lv_sub hl [0, 1, 2, 3, 4, 5, 6] rfl)
theorem ggX0_paintNoise_X0_wide : GoodIn wsX0_paintNoise wsX0_wide := goodIn_r _ [8, 9, 17, 18, 19, 20, 21, 22, 23, 24, 25, 26, 27, 28, 29, 30, 31, 32, 33, 34, 35, 36, 37] (by decide +kernel) (by decide +kernel)
set_option maxRecDepth 20000 in
theorem gX0_paintNoise_X0_wide : GoodIn wsX0_paintNoise (wsV RX0 176 RX0 yX0_wide wsX0_wide) := goodIn_app (goodIn_of _ (by decide +kernel)) ggX0_paintNoise_X0_wide
set_option maxRecDepth 20000 in
theorem ggX0_paintNoise_X0_high : GoodIn wsX0_paintNoise wsX0_high := goodIn_r _ [13, 9, 17, 18, 19, 20, 21, 22, 23, 24, 25, 26, 27, 28, 29, 30, 31, 32, 33, 34, 35, 36, 37] (by decide +kernel) (by decide +kernel)
set_option maxRecDepth 20000 in
theorem gX0_paintNoise_X0_high : GoodIn wsX0_paintNoise (wsV RX0 180 RX0 yX0_high wsX0_high) := goodIn_app (goodIn_of _ (by decide +kernel)) ggX0_paintNoise_X0_high
set_option maxRecDepth 20000 in
theorem ggX0_paintNoise_X11_clip : GoodIn wsX0_paintNoise wsX11_clip := goodIn_r _ [16] (by decide +kernel) (by decide +kernel)
set_option maxRecDepth 20000 in
theorem gX0_paintNoise_X11_clip_n189 : GoodIn wsX0_paintNoise (wsX11_clip) := ggX0_paintNoise_X11_clip
theorem dX0_paintNoise_0 : decode cX0_paintNoise 0 = .ok (.iload_n 1, 1) := by decide +kernel
theorem dX0_paintNoise_1 : decode cX0_paintNoise 1 = .ok (.sipush 255, 3) := by decide +kernel
theorem dX0_paintNoise_4 : decode cX0_paintNoise 4 = .ok (.iand, 1) := by decide +kernel
theorem dX0_paintNoise_5 : decode cX0_paintNoise 5 = .ok (.ifCond .ne 9, 3) := by decide +kernel
theorem dX0_paintNoise_8 : decode cX0_paintNoise 8 = .ok (.sipush 256, 3) := by decide +kernel
theorem dX0_paintNoise_11 : decode cX0_paintNoise 11 = .ok (.goto 8, 3) := by decide +kernel
theorem dX0_paintNoise_14 : decode cX0_paintNoise 14 = .ok (.iload_n 1, 1) := by decide +kernel
theorem dX0_paintNoise_15 : decode cX0_paintNoise 15 = .ok (.sipush 255, 3) := by decide +kernel
theorem dX0_paintNoise_18 : decode cX0_paintNoise 18 = .ok (.iand, 1) := by decide +kernel
theorem dX0_paintNoise_19 : decode cX0_paintNoise 19 = .ok (.istore 4, 2) := by decide +kernel
theorem dX0_paintNoise_21 : decode cX0_paintNoise 21 = .ok (.iload_n 3, 1) := by decide +kernel
theorem dX0_paintNoise_22 : decode cX0_paintNoise 22 = .ok (.istore 5, 2) := by decide +kernel
theorem dX0_paintNoise_24 : decode cX0_paintNoise 24 = .ok (.iconst 0, 1) := by decide +kernel
theorem dX0_paintNoise_25 : decode cX0_paintNoise 25 = .ok (.istore 6, 2) := by decide +kernel
theorem dX0_paintNoise_27 : decode cX0_paintNoise 27 = .ok (.iload 6, 2) := by decide +kernel
theorem dX0_paintNoise_29 : decode cX0_paintNoise 29 = .ok (.iconst 3, 1) := by decide +kernel
theorem dX0_paintNoise_30 : decode cX0_paintNoise 30 = .ok (.if_icmp .ge 82, 3) := by decide +kernel
theorem dX0_paintNoise_33 : decode cX0_paintNoise 33 = .ok (.aload_n 0, 1) := by decide +kernel
theorem dX0_paintNoise_34 : decode cX0_paintNoise 34 = .ok (.getfield 66, 3) := by decide +kernel
theorem dX0_paintNoise_37 : decode cX0_paintNoise 37 = .ok (.bipush 9, 2) := by decide +kernel
theorem dX0_paintNoise_39 : decode cX0_paintNoise 39 = .ok (.iload 6, 2) := by decide +kernel
theorem dX0_paintNoise_41 : decode cX0_paintNoise 41 = .ok (.iadd, 1) := by decide +kernel
theorem dX0_paintNoise_42 : decode cX0_paintNoise 42 = .ok (.aaload, 1) := by decide +kernel
theorem dX0_paintNoise_43 : decode cX0_paintNoise 43 = .ok (.astore 7, 2) := by decide +kernel
theorem dX0_paintNoise_45 : decode cX0_paintNoise 45 = .ok (.iconst 0, 1) := by decide +kernel
theorem dX0_paintNoise_46 : decode cX0_paintNoise 46 = .ok (.istore 8, 2) := by decide +kernel
theorem dX0_paintNoise_48 : decode cX0_paintNoise 48 = .ok (.iload 8, 2) := by decide +kernel
theorem dX0_paintNoise_50 : decode cX0_paintNoise 50 = .ok (.aload_n 0, 1) := by decide +kernel
theorem dX0_paintNoise_51 : decode cX0_paintNoise 51 = .ok (.iload 6, 2) := by decide +kernel
theorem dX0_paintNoise_53 : decode cX0_paintNoise 53 = .ok (.invokevirtual 176, 3) := by decide +kernel
theorem dX0_paintNoise_56 : decode cX0_paintNoise 56 = .ok (.aload_n 0, 1) := by decide +kernel
theorem dX0_paintNoise_57 : decode cX0_paintNoise 57 = .ok (.iload 6, 2) := by decide +kernel
theorem dX0_paintNoise_59 : decode cX0_paintNoise 59 = .ok (.invokevirtual 180, 3) := by decide +kernel
theorem dX0_paintNoise_62 : decode cX0_paintNoise 62 = .ok (.imul, 1) := by decide +kernel
theorem dX0_paintNoise_63 : decode cX0_paintNoise 63 = .ok (.if_icmp .ge 43, 3) := by decide +kernel
theorem dX0_paintNoise_66 : decode cX0_paintNoise 66 = .ok (.ldc 187, 2) := by decide +kernel
theorem dX0_paintNoise_68 : decode cX0_paintNoise 68 = .ok (.iload 5, 2) := by decide +kernel
theorem dX0_paintNoise_70 : decode cX0_paintNoise 70 = .ok (.imul, 1) := by decide +kernel
theorem dX0_paintNoise_71 : decode cX0_paintNoise 71 = .ok (.ldc 188, 2) := by decide +kernel
theorem dX0_paintNoise_73 : decode cX0_paintNoise 73 = .ok (.iadd, 1) := by decide +kernel
theorem dX0_paintNoise_74 : decode cX0_paintNoise 74 = .ok (.istore 5, 2) := by decide +kernel
theorem dX0_paintNoise_76 : decode cX0_paintNoise 76 = .ok (.aload 7, 2) := by decide +kernel
theorem dX0_paintNoise_78 : decode cX0_paintNoise 78 = .ok (.iload 8, 2) := by decide +kernel
theorem dX0_paintNoise_80 : decode cX0_paintNoise 80 = .ok (.aload 7, 2) := by decide +kernel
theorem dX0_paintNoise_82 : decode cX0_paintNoise 82 = .ok (.iload 8, 2) := by decide +kernel
theorem dX0_paintNoise_84 : decode cX0_paintNoise 84 = .ok (.iaload, 1) := by decide +kernel
theorem dX0_paintNoise_85 : decode cX0_paintNoise 85 = .ok (.iload 5, 2) := by decide +kernel
theorem dX0_paintNoise_87 : decode cX0_paintNoise 87 = .ok (.bipush 24, 2) := by decide +kernel
theorem dX0_paintNoise_89 : decode cX0_paintNoise 89 = .ok (.iushr, 1) := by decide +kernel
theorem dX0_paintNoise_90 : decode cX0_paintNoise 90 = .ok (.iload 4, 2) := by decide +kernel
theorem dX0_paintNoise_92 : decode cX0_paintNoise 92 = .ok (.irem, 1) := by decide +kernel
theorem dX0_paintNoise_93 : decode cX0_paintNoise 93 = .ok (.iadd, 1) := by decide +kernel
theorem dX0_paintNoise_94 : decode cX0_paintNoise 94 = .ok (.iload_n 2, 1) := by decide +kernel
theorem dX0_paintNoise_95 : decode cX0_paintNoise 95 = .ok (.isub, 1) := by decide +kernel
theorem dX0_paintNoise_96 : decode cX0_paintNoise 96 = .ok (.invokestatic 189, 3) := by decide +kernel
theorem dX0_paintNoise_99 : decode cX0_paintNoise 99 = .ok (.iastore, 1) := by decide +kernel
theorem dX0_paintNoise_100 : decode cX0_paintNoise 100 = .ok (.iinc 8 1, 3) := by decide +kernel
theorem dX0_paintNoise_103 : decode cX0_paintNoise 103 = .ok (.goto (-55), 3) := by decide +kernel
theorem dX0_paintNoise_106 : decode cX0_paintNoise 106 = .ok (.iinc 6 1, 3) := by decide +kernel
theorem dX0_paintNoise_109 : decode cX0_paintNoise 109 = .ok (.goto (-82), 3) := by decide +kernel
theorem dX0_paintNoise_112 : decode cX0_paintNoise 112 = .ok (.return_, 1) := by decide +kernel
def FX0_paintNoise (G : GG) (M : DD) (a : Nat) (p0 : Int32) (p1 : Int32) (p2 : Int32) : Option (DD) :=
  ltt ((p0 &&& ((255 : Int32)))) fun x1 =>
  bnd (if x1 = ((0 : Int32)) then (some ((256 : Int32))) else
  (ltt ((p0 &&& ((255 : Int32)))) fun x31 =>
  some (x31))) fun (y2 : Int32) =>
  bnd (itr (fun (s4 : Int32 × Int32 × DD) => ((if ((3 : Int32)) ≤ s4.2.1 then (some (.inr (s4.1, s4.2.1, s4.2.2))) else
  (ltt ((((9 : Int32)) + s4.2.1)) fun x8 =>
  dr G 15 ((s4.2.2.2 a 8)) fun b9 =>
  chk (¬ (x8 < 0 ∨ G.2.2 b9 ≤ x8.toNatClampNeg)) <|
  bnd (itr (fun (s11 : Int32 × Int32 × DD) => ((bnd (FX0_wide G s11.2.2 a s4.2.1) fun y15 =>
  bnd (FX0_high G y15.1 a s4.2.1) fun y16 =>
  ltt ((y15.2 * y16.2)) fun x17 =>
  if x17 ≤ s11.2.1 then (some (.inr (s11.1, s11.2.1, y16.1))) else
  (ltt ((((1664525 : Int32)) * s11.1)) fun x19 =>
  ltt ((x19 + ((1013904223 : Int32)))) fun x20 =>
  dr G 13 ((s4.2.2.2 b9 x8.toNatClampNeg)) fun b21 =>
  chk (¬ (s11.2.1 < 0 ∨ G.2.2 b21 ≤ s11.2.1.toNatClampNeg)) <|
  ltt (y16.1.1 b21 s11.2.1.toNatClampNeg) fun x22 =>
  ltt ((x20.toUInt32 >>> (((24 : Int32)).toUInt32 &&& Int32.toUInt32 31)).toInt32) fun x23 =>
  chk (¬ y2 = 0) <|
  ltt (x23 - x23 / y2 * y2) fun x24 =>
  ltt ((x22 + x24)) fun x25 =>
  ltt ((x25 - p1)) fun x26 =>
  bnd (FX11_clip G y16.1 x26) fun y27 =>
  chk (¬ (s11.2.1 < 0 ∨ G.2.2 b21 ≤ s11.2.1.toNatClampNeg)) <|
  ltt (uI y27.1 b21 s11.2.1.toNatClampNeg y27.2) fun M28 =>
  ltt (s11.2.1 + (1 : Int32)) fun x29 =>
  some (.inl (x20, x29, M28)))) : Option ((Int32 × Int32 × DD) ⊕ (Int32 × Int32 × DD)))) 1000000 (s4.1, (0 : Int32), s4.2.2)) fun (y10 : Int32 × Int32 × DD) =>
  ltt (s4.2.1 + (1 : Int32)) fun x13 =>
  some (.inl (y10.1, x13, y10.2.2)))) : Option ((Int32 × Int32 × DD) ⊕ (Int32 × Int32 × DD)))) 1000000 (p2, (0 : Int32), M)) fun (y3 : Int32 × Int32 × DD) =>
  some y3.2.2
set_option maxHeartbeats 4000000 in
set_option maxRecDepth 100000 in
theorem kX0_paintNoise (l : Launch) (D : va_G) (ct : CT) (ad : Nat → Nat) (Z : Nat → Nat) (G : GG) (M : DD) (sz : Nat) (a : Nat) (p0 : Int32) (p1 : Int32) (p2 : Int32) (y : DD) (hc : a < G.1) (hk : G.2.1 a = 0) (hF : FX0_paintNoise G M a p0 p1 p2 = some y) : Met l yX0_paintNoise wsX0_paintNoise ({ frames := 1, cells := 0, slots := 0, locals := 21 }) (va_Pc [.ref (ad a), .int p0, .int p1, .int p2] (kB D ct ad Z G M sz)) (va_Qv (fun (_ : Unit) => True) (fun _ t => kE D ct ad G (wA ad G sz) y t) (wA ad G sz)) 0 0 (wA ad G sz) := by
  refine Met.ofW (cc := cX0_paintNoise) (maxL := 9) (ret := none) (by decide) rfl ?_
  intro p e s m args below meth c s₁ B hml hv
  obtain ⟨rfl, hsz, hP, hK, hD0, hZ, hN⟩ := hv
  have hx := B.exec
  have hb := B.bytes
  have hr := B.returns
  have hts := atoms_spec (ws := wsX0_paintNoise) B.pre
  have hown : s.vm.findClass RX0 = some m.cls := findClass_of_methodNamed B.named
  have hlocks := B.notSynchronized
  subst hsz
  have hD := wD_self (sz := s.heap.size) hD0
  have hA9 : ∀ q, s.heap.size ≤ q → wA ad G s.heap.size q := fun q h => Or.inr h
  generalize hAe : wA ad G s.heap.size = A at hD hA9 hZ ⊢
  have hS : va_S A s.heap s.heap [] := va_S.rf
  have hl := lv_entry ([.ref (ad a), .int p0, .int p1, .int p2]) (n := 9) (Nat.le_of_ble_eq_true rfl)
  rw [lg_entry_eq]
  generalize (lg_sl ([.ref (ad a), .int p0, .int p1, .int p2]) ++ List.replicate (9 - (lg_sl ([.ref (ad a), .int p0, .int p1, .int p2])).length) Slot.unset).toArray = ls at hl ⊢
  have hl : lv_has ls 9 [(0, .ref (ad a)), (1, .int p0), (2, .int p1), (3, .int p2)] := hl
  unfold FX0_paintNoise at hF
  refine lv_iload_n hx hb dX0_paintNoise_0 rfl (lv_at hl 1 rfl) ?_
  refine lv_sipush (v := (255 : Int32)) hx hb dX0_paintNoise_1 (by decide) ?_
  refine lv_iand hx hb dX0_paintNoise_4 ?_
  obtain ⟨x1, ex1, hF⟩ := ltt_some hF
  refine lv_topi (fun zx1 ezx1 => ?_)
  obtain rfl : x1 = zx1 := ex1.trans ezx1.symm
  obtain ⟨y2, hy2, hF⟩ := bnd_some hF
  have J2 : ∀ (H : Heap) (locs : List Loc) (ls : Array Slot), va_P D classes (wld ct ad G M) H → va_D A (wld ct ad G M) → va_S A s.heap H locs → lv_has ls 9 [(0, .ref (ad a)), (1, .int p0), (2, .int p1), (3, .int p2)] → W p l e (headSpec wsX0_paintNoise ({ frames := 1, cells := 0, slots := 0, locals := 21 })).room s m ([.ref (ad a), .int p0, .int p1, .int p2] : List Value).toArray below meth c H locs 0 0 (MQ below (va_Qv (fun (_ : Unit) => True) (fun _ t => kE D ct ad G A y t) A) ([.ref (ad a), .int p0, .int p1, .int p2] : List Value).toArray s 0 0 A) (F0 m 19 ls [.int y2]) := by
    intro H locs ls hP hD hS hl
    refine lv_istore (lv' := [(4, .int y2), (0, .ref (ad a)), (1, .int p0), (2, .int p1), (3, .int p2)]) hx hb dX0_paintNoise_19 hl (by decide) rfl (fun ls hl => ?_)
    refine lv_iload_n hx hb dX0_paintNoise_21 rfl (lv_at hl 4 rfl) ?_
    refine lv_istore (lv' := [(5, .int p2), (4, .int y2), (0, .ref (ad a)), (1, .int p0), (2, .int p1), (3, .int p2)]) hx hb dX0_paintNoise_22 hl (by decide) rfl (fun ls hl => ?_)
    refine lv_iconst (v := (0 : Int32)) hx hb dX0_paintNoise_24 (by decide) ?_
    refine lv_istore (lv' := [(6, .int (0 : Int32)), (5, .int p2), (4, .int y2), (0, .ref (ad a)), (1, .int p0), (2, .int p1), (3, .int p2)]) hx hb dX0_paintNoise_25 hl (by decide) rfl (fun ls hl => ?_)
    obtain ⟨y3, hy3, hF⟩ := bnd_some hF
    have K3 : ∀ (H : Heap) (locs : List Loc) (ls : Array Slot), va_P D classes (wld ct ad G y3.2.2) H → va_D A (wld ct ad G y3.2.2) → va_S A s.heap H locs → lv_has ls 9 [(6, .int y3.2.1), (5, .int y3.1), (4, .int y2), (0, .ref (ad a)), (1, .int p0), (2, .int p1), (3, .int p2)] → W p l e (headSpec wsX0_paintNoise ({ frames := 1, cells := 0, slots := 0, locals := 21 })).room s m ([.ref (ad a), .int p0, .int p1, .int p2] : List Value).toArray below meth c H locs 0 0 (MQ below (va_Qv (fun (_ : Unit) => True) (fun _ t => kE D ct ad G A y t) A) ([.ref (ad a), .int p0, .int p1, .int p2] : List Value).toArray s 0 0 A) (F0 m 112 ls []) := by
      intro H locs ls hP hD hS hl
      obtain rfl := Option.some.inj hF
      exact W.vret hx hb hr (fun t ht hW => ⟨⟨(), rfl, trivial, ⟨by rw [ht]; exact hP, va_K.moved hW.alike hK, hD⟩⟩, hS.F ht⟩) hS.2.2 dX0_paintNoise_112
    clear hF
    refine itr_rule (fun (s4 : Int32 × Int32 × DD) => ∀ (H : Heap) (locs : List Loc) (ls : Array Slot), va_P D classes (wld ct ad G s4.2.2) H → va_D A (wld ct ad G s4.2.2) → va_S A s.heap H locs → lv_has ls 9 [(6, .int s4.2.1), (5, .int s4.1), (4, .int y2), (0, .ref (ad a)), (1, .int p0), (2, .int p1), (3, .int p2)] → W p l e (headSpec wsX0_paintNoise ({ frames := 1, cells := 0, slots := 0, locals := 21 })).room s m ([.ref (ad a), .int p0, .int p1, .int p2] : List Value).toArray below meth c H locs 0 0 (MQ below (va_Qv (fun (_ : Unit) => True) (fun _ t => kE D ct ad G A y t) A) ([.ref (ad a), .int p0, .int p1, .int p2] : List Value).toArray s 0 0 A) (F0 m 27 ls [])) ?_ _ _ hy3 _ _ _ hP hD hS (lv_sub hl [0, 1, 2, 3, 4, 5, 6] rfl)
    rintro s4 ⟨z6, hF, hwz6⟩ H locs ls hP hD hS hl
    try dsimp only at hF
    refine lv_iload hx hb dX0_paintNoise_27 (lv_at hl 0 rfl) ?_
    refine lv_iconst (v := (3 : Int32)) hx hb dX0_paintNoise_29 (by decide) ?_
    refine lv_icmp_ge (tgt := 112) hx hb dX0_paintNoise_30 (by decide) (fun c7 => ?_) (fun c7 => ?_)
    · rw [if_pos c7] at hF
      obtain rfl := Option.some.inj hF
      subst hwz6
      exact K3 _ _ _ hP hD hS (lv_sub hl [0, 1, 2, 3, 4, 5, 6] rfl)
    · rw [if_neg c7] at hF
      refine lv_aload_n hx hb dX0_paintNoise_33 rfl (lv_at hl 3 rfl) ?_
      refine va_get (D := D) (ci := 0) (v := va_re ad (s4.2.2.2 a 8)) (C := RX0) (T := TX0) (N := 21) hx hb hts (by decide +kernel) hown hK hP a (wld_o ct ad G s4.2.2 hc hk (by decide)) rfl 8 (by decide) (hts (.fieldLink RX0 66 "VideoSuite$Coder" "planes" "[[I") (by decide +kernel)) (fun _ h9 => h9) rfl dX0_paintNoise_34 ?_
      refine lv_bipush (v := (9 : Int32)) hx hb dX0_paintNoise_37 (by decide) ?_
      refine lv_iload hx hb dX0_paintNoise_39 (lv_at hl 0 rfl) ?_
      refine lv_iadd hx hb dX0_paintNoise_41 ?_
      obtain ⟨x8, ex8, hF⟩ := ltt_some hF
      refine lv_topi (fun zx8 ezx8 => ?_)
      obtain rfl : x8 = zx8 := ex8.trans ezx8.symm
      obtain ⟨b9, ho9, hc9, hk9, hF⟩ := dr_some hF
      refine W_st (st' := [.int x8, .ref (ad b9)]) (by rw [va_some ho9]) ?_
      obtain ⟨hvc, hF⟩ := chk_some hF
      refine ld_g hx hb hK hP hc9 hk9 hvc dX0_paintNoise_42 ?_
      refine lv_astoreq (lv' := [(7, va_re ad (s4.2.2.2 b9 x8.toNatClampNeg)), (6, .int s4.2.1), (5, .int s4.1), (4, .int y2), (0, .ref (ad a)), (1, .int p0), (2, .int p1), (3, .int p2)]) hx hb dX0_paintNoise_43 hl (by decide) rfl (fun ls hl => ?_)
      refine lv_iconst (v := (0 : Int32)) hx hb dX0_paintNoise_45 (by decide) ?_
      refine lv_istore (lv' := [(8, .int (0 : Int32)), (7, va_re ad (s4.2.2.2 b9 x8.toNatClampNeg)), (6, .int s4.2.1), (5, .int s4.1), (4, .int y2), (0, .ref (ad a)), (1, .int p0), (2, .int p1), (3, .int p2)]) hx hb dX0_paintNoise_46 hl (by decide) (by generalize ((s4.2.2.2 b9 x8.toNatClampNeg)) = o9; cases o9 <;> rfl) (fun ls hl => ?_)
      obtain ⟨y10, hy10, hF⟩ := bnd_some hF
      have K10 : ∀ (H : Heap) (locs : List Loc) (ls : Array Slot), va_P D classes (wld ct ad G y10.2.2) H → va_D A (wld ct ad G y10.2.2) → va_S A s.heap H locs → lv_has ls 9 [(8, .int y10.2.1), (7, va_re ad (s4.2.2.2 b9 x8.toNatClampNeg)), (6, .int s4.2.1), (5, .int y10.1), (4, .int y2), (0, .ref (ad a)), (1, .int p0), (2, .int p1), (3, .int p2)] → W p l e (headSpec wsX0_paintNoise ({ frames := 1, cells := 0, slots := 0, locals := 21 })).room s m ([.ref (ad a), .int p0, .int p1, .int p2] : List Value).toArray below meth c H locs 0 0 (MQ below (va_Qv (fun (_ : Unit) => True) (fun _ t => kE D ct ad G A y t) A) ([.ref (ad a), .int p0, .int p1, .int p2] : List Value).toArray s 0 0 A) (F0 m 106 ls []) := by
        intro H locs ls hP hD hS hl
        obtain ⟨x13, ex13, hF⟩ := ltt_some hF
        refine lv_iinc (v := x13) (lv' := [(6, .int x13), (8, .int y10.2.1), (7, va_re ad (s4.2.2.2 b9 x8.toNatClampNeg)), (5, .int y10.1), (4, .int y2), (0, .ref (ad a)), (1, .int p0), (2, .int p1), (3, .int p2)]) hx hb dX0_paintNoise_106 hl (k := 2) rfl (by rw [ex13]; rfl) (by decide) rfl (fun ls hl => ?_)
        refine lv_goto (tgt := 27) hx hb dX0_paintNoise_109 (by decide) ?_
        obtain rfl := Option.some.inj hF
        exact hwz6 _ _ _ hP hD hS (lv_sub hl [0, 3, 4, 5, 6, 7, 8] rfl)
      clear hF
      refine itr_rule (fun (s11 : Int32 × Int32 × DD) => ∀ (H : Heap) (locs : List Loc) (ls : Array Slot), va_P D classes (wld ct ad G s11.2.2) H → va_D A (wld ct ad G s11.2.2) → va_S A s.heap H locs → lv_has ls 9 [(8, .int s11.2.1), (7, va_re ad (s4.2.2.2 b9 x8.toNatClampNeg)), (6, .int s4.2.1), (5, .int s11.1), (4, .int y2), (0, .ref (ad a)), (1, .int p0), (2, .int p1), (3, .int p2)] → W p l e (headSpec wsX0_paintNoise ({ frames := 1, cells := 0, slots := 0, locals := 21 })).room s m ([.ref (ad a), .int p0, .int p1, .int p2] : List Value).toArray below meth c H locs 0 0 (MQ below (va_Qv (fun (_ : Unit) => True) (fun _ t => kE D ct ad G A y t) A) ([.ref (ad a), .int p0, .int p1, .int p2] : List Value).toArray s 0 0 A) (F0 m 48 ls [])) ?_ _ _ hy10 _ _ _ hP hD hS (lv_sub hl [0, 1, 2, 3, 4, 5, 6, 7, 8] rfl)
      rintro s11 ⟨z14, hF, hwz14⟩ H locs ls hP hD hS hl
      try dsimp only at hF
      refine lv_iload hx hb dX0_paintNoise_48 (lv_at hl 0 rfl) ?_
      refine lv_aload_n hx hb dX0_paintNoise_50 rfl (lv_at hl 5 rfl) ?_
      refine lv_iload hx hb dX0_paintNoise_51 (lv_at hl 2 rfl) ?_
      obtain ⟨y15, hy15, hF⟩ := bnd_some hF
      have hf9 := wA_in hD hA9 hS
      refine va_calli (va_runV (As := [.int s4.2.1]) (rest := [.int s11.2.1]) ⟨hx, hb, hml, hown, hts⟩ (kX0_wide l D ct ad Z G s11.2.2 H.size a s4.2.1 y15 hc hk hy15) (cwV 1 hts gX0_paintNoise_X0_wide rfl rfl rfl (by decide +kernel) ⟨Nat.le_of_ble_eq_true rfl, Nat.le_of_ble_eq_true rfl⟩) ⟨fun a U g mk q => by obtain ⟨q0, q1, qP, qK, qD, qZ, qN⟩ := q; exact ⟨q0, q1, qP, va_K.moved (u := U) (U := U.calling g mk a) (Vm.Alike.refl U.vm) qK, qD, sF.moved (u := U) (U := U.calling g mk a) (Vm.Alike.refl U.vm) qZ, nF.same rfl qN⟩, va_recv hK hP (ci := 0) (q0 := a) rfl (wld_o ct ad G s11.2.2 hc hk (by decide)), fun U hU hW => ⟨rfl, by rw [hU], by rw [hU]; exact hP, va_K.moved hW.alike hK, hD.weaken (fun _ _ _ _ => trivial), by rw [hU]; exact ((hZ.kept hS.2.1).narrow hf9).moved hW.alike, hN.warm hW⟩⟩ rfl rfl hl.1 rfl (lv_room (Nat.le_of_ble_eq_true rfl)) dX0_paintNoise_53 ⟨(Nat.zero_le _), (Nat.zero_le _)⟩) hS (fun q _ h => hf9 q h) hf9 (fun r u t H locs ht hvm hw hB hz1 hk1 hS => ?_)
      obtain ⟨hP, hK9, hD9⟩ := hB
      rw [ht] at hP
      try dsimp only at hw
      subst hw
      have hD := hD9.weaken (fun _ q _ h => hf9 q.1 h)
      refine lv_aload_n hx hb dX0_paintNoise_56 rfl (lv_at hl 5 rfl) ?_
      refine lv_iload hx hb dX0_paintNoise_57 (lv_at hl 2 rfl) ?_
      obtain ⟨y16, hy16, hF⟩ := bnd_some hF
      have hf9 := wA_in hD hA9 hS
      refine va_calli (va_runV (As := [.int s4.2.1]) (rest := [.int y15.2, .int s11.2.1]) ⟨hx, hb, hml, hown, hts⟩ (kX0_high l D ct ad Z G y15.1 H.size a s4.2.1 y16 hc hk hy16) (cwV 1 hts gX0_paintNoise_X0_high rfl rfl rfl (by decide +kernel) ⟨Nat.le_of_ble_eq_true rfl, Nat.le_of_ble_eq_true rfl⟩) ⟨fun a U g mk q => by obtain ⟨q0, q1, qP, qK, qD, qZ, qN⟩ := q; exact ⟨q0, q1, qP, va_K.moved (u := U) (U := U.calling g mk a) (Vm.Alike.refl U.vm) qK, qD, sF.moved (u := U) (U := U.calling g mk a) (Vm.Alike.refl U.vm) qZ, nF.same rfl qN⟩, va_recv hK hP (ci := 0) (q0 := a) rfl (wld_o ct ad G y15.1 hc hk (by decide)), fun U hU hW => ⟨rfl, by rw [hU], by rw [hU]; exact hP, va_K.moved hW.alike hK, hD.weaken (fun _ _ _ _ => trivial), by rw [hU]; exact ((hZ.kept hS.2.1).narrow hf9).moved hW.alike, hN.warm hW⟩⟩ rfl rfl hl.1 rfl (lv_room (Nat.le_of_ble_eq_true rfl)) dX0_paintNoise_59 ⟨(Nat.zero_le _), (Nat.zero_le _)⟩) hS (fun q _ h => hf9 q h) hf9 (fun r u t H locs ht hvm hw hB hz1 hk1 hS => ?_)
      obtain ⟨hP, hK9, hD9⟩ := hB
      rw [ht] at hP
      try dsimp only at hw
      subst hw
      have hD := hD9.weaken (fun _ q _ h => hf9 q.1 h)
      refine lv_imul hx hb dX0_paintNoise_62 ?_
      obtain ⟨x17, ex17, hF⟩ := ltt_some hF
      refine lv_topi (fun zx17 ezx17 => ?_)
      obtain rfl : x17 = zx17 := ex17.trans ezx17.symm
      refine lv_icmp_ge (tgt := 106) hx hb dX0_paintNoise_63 (by decide) (fun c18 => ?_) (fun c18 => ?_)
      · rw [if_pos c18] at hF
        obtain rfl := Option.some.inj hF
        subst hwz14
        exact K10 _ _ _ hP hD hS (lv_sub hl [0, 1, 2, 3, 4, 5, 6, 7, 8] rfl)
      · rw [if_neg c18] at hF
        refine lv_ldc (v := (1664525 : Int32)) hx hb hown (hts (.constant RX0 187 (1664525 : Int32)) (by decide +kernel)) dX0_paintNoise_66 ?_
        refine lv_iload hx hb dX0_paintNoise_68 (lv_at hl 3 rfl) ?_
        refine lv_imul hx hb dX0_paintNoise_70 ?_
        obtain ⟨x19, ex19, hF⟩ := ltt_some hF
        refine lv_topi (fun zx19 ezx19 => ?_)
        obtain rfl : x19 = zx19 := ex19.trans ezx19.symm
        refine lv_ldc (v := (1013904223 : Int32)) hx hb hown (hts (.constant RX0 188 (1013904223 : Int32)) (by decide +kernel)) dX0_paintNoise_71 ?_
        refine lv_iadd hx hb dX0_paintNoise_73 ?_
        obtain ⟨x20, ex20, hF⟩ := ltt_some hF
        refine lv_topi (fun zx20 ezx20 => ?_)
        obtain rfl : x20 = zx20 := ex20.trans ezx20.symm
        refine lv_istore (lv' := [(5, .int x20), (8, .int s11.2.1), (7, va_re ad (s4.2.2.2 b9 x8.toNatClampNeg)), (6, .int s4.2.1), (4, .int y2), (0, .ref (ad a)), (1, .int p0), (2, .int p1), (3, .int p2)]) hx hb dX0_paintNoise_74 hl (by decide) rfl (fun ls hl => ?_)
        refine lv_aloadq hx hb dX0_paintNoise_76 (lv_at hl 2 rfl) ?_
        refine lv_iload hx hb dX0_paintNoise_78 (lv_at hl 1 rfl) ?_
        refine lv_aloadq hx hb dX0_paintNoise_80 (lv_at hl 2 rfl) ?_
        refine lv_iload hx hb dX0_paintNoise_82 (lv_at hl 1 rfl) ?_
        obtain ⟨b21, ho21, hc21, hk21, hF⟩ := dr_some hF
        refine W_st (st' := [.int s11.2.1, .ref (ad b21), .int s11.2.1, .ref (ad b21)]) (by rw [va_some ho21]) ?_
        obtain ⟨hvc, hF⟩ := chk_some hF
        refine va_iald hx hb hK hP b21 1 (wld_i ct ad G y16.1 hc21 hk21) rfl hvc dX0_paintNoise_84 ?_
        obtain ⟨x22, ex22, hF⟩ := ltt_some hF
        refine lv_topi (fun zx22 ezx22 => ?_)
        obtain rfl : x22 = zx22 := ex22.trans ezx22.symm
        refine lv_iload hx hb dX0_paintNoise_85 (lv_at hl 0 rfl) ?_
        refine lv_bipush (v := (24 : Int32)) hx hb dX0_paintNoise_87 (by decide) ?_
        refine lv_iushr (v := (x20.toUInt32 >>> (((24 : Int32)).toUInt32 &&& Int32.toUInt32 31)).toInt32) hx hb dX0_paintNoise_89 rfl ?_
        obtain ⟨x23, ex23, hF⟩ := ltt_some hF
        refine lv_topi (fun zx23 ezx23 => ?_)
        obtain rfl : x23 = zx23 := ex23.trans ezx23.symm
        refine lv_iload hx hb dX0_paintNoise_90 (lv_at hl 4 rfl) ?_
        obtain ⟨hne, hF⟩ := chk_some hF
        refine lv_irem hx hb dX0_paintNoise_92 hne ?_
        obtain ⟨x24, ex24, hF⟩ := ltt_some hF
        refine lv_topi (fun zx24 ezx24 => ?_)
        obtain rfl : x24 = zx24 := ex24.trans ezx24.symm
        refine lv_iadd hx hb dX0_paintNoise_93 ?_
        obtain ⟨x25, ex25, hF⟩ := ltt_some hF
        refine lv_topi (fun zx25 ezx25 => ?_)
        obtain rfl : x25 = zx25 := ex25.trans ezx25.symm
        refine lv_iload_n hx hb dX0_paintNoise_94 rfl (lv_at hl 7 rfl) ?_
        refine lv_isub hx hb dX0_paintNoise_95 ?_
        obtain ⟨x26, ex26, hF⟩ := ltt_some hF
        refine lv_topi (fun zx26 ezx26 => ?_)
        obtain rfl : x26 = zx26 := ex26.trans ezx26.symm
        obtain ⟨y27, hy27, hF⟩ := bnd_some hF
        have hf9 := wA_in hD hA9 hS
        refine va_calli (va_runSN (As := [.int x26]) (rest := [.int s11.2.1, .ref (ad b21)]) ⟨hx, hb, hml, hown, hts⟩ (kX11_clip l D ct ad Z G y16.1 H.size x26 y27 hy27) ⟨va_cnB 1 hts gX0_paintNoise_X11_clip_n189 rfl rfl rfl (hN.1 (RX0, 189, yX11_clip, RX11) (List.mem_of_getElem? (i := 3) rfl)) (hts (.initialized RX11) (by decide +kernel)) (by decide +kernel) ⟨Nat.le_of_ble_eq_true rfl, Nat.le_of_ble_eq_true rfl⟩, hts (.static yX11_clip) (by decide +kernel), trivial⟩ ⟨fun a U g mk q => by obtain ⟨q0, q1, qP, qK, qD, qZ, qN⟩ := q; exact ⟨q0, q1, qP, va_K.moved (u := U) (U := U.calling g mk a) (Vm.Alike.refl U.vm) qK, qD, sF.moved (u := U) (U := U.calling g mk a) (Vm.Alike.refl U.vm) qZ, nF.same rfl qN⟩, fun U hU hW => ⟨rfl, by rw [hU], by rw [hU]; exact hP, va_K.moved hW.alike hK, hD.weaken (fun _ _ _ _ => trivial), by rw [hU]; exact ((hZ.kept hS.2.1).narrow hf9).moved hW.alike, hN.warm hW⟩⟩ rfl rfl hl.1 rfl (lv_room (Nat.le_of_ble_eq_true rfl)) dX0_paintNoise_96 ⟨(Nat.zero_le _), (Nat.zero_le _)⟩) hS (fun q _ h => hf9 q h) hf9 (fun r u t H locs ht hvm hw hB hz1 hk1 hS => ?_)
        obtain ⟨hP, hK9, hD9⟩ := hB
        rw [ht] at hP
        try dsimp only at hw
        subst hw
        have hD := hD9.weaken (fun _ q _ h => hf9 q.1 h)
        obtain ⟨hvc, hF⟩ := chk_some hF
        refine va_iast hx hb hK hP hD hS b21 1 (wld_i ct ad G y27.1 hc21 hk21) rfl hvc dX0_paintNoise_99 (fun H locs hP hD hS => ?_)
        obtain ⟨M28, eM28, hF⟩ := ltt_some hF
        rw [set_i ct ad G y27.1 hc21 hk21, ← eM28] at hP hD
        obtain ⟨x29, ex29, hF⟩ := ltt_some hF
        refine lv_iinc (v := x29) (lv' := [(8, .int x29), (5, .int x20), (7, va_re ad (s4.2.2.2 b9 x8.toNatClampNeg)), (6, .int s4.2.1), (4, .int y2), (0, .ref (ad a)), (1, .int p0), (2, .int p1), (3, .int p2)]) hx hb dX0_paintNoise_100 hl (k := 1) rfl (by rw [ex29]; rfl) (by decide) (by generalize ((s4.2.2.2 b9 x8.toNatClampNeg)) = o9; cases o9 <;> rfl) (fun ls hl => ?_)
        refine lv_goto (tgt := 48) hx hb dX0_paintNoise_103 (by decide) ?_
        obtain rfl := Option.some.inj hF
        exact hwz14 _ _ _ hP hD hS (lv_sub hl [0, 2, 3, 1, 4, 5, 6, 7, 8] rfl)
  clear hF
  have hF := hy2
  clear hy2
  refine lv_if_ne (tgt := 14) hx hb dX0_paintNoise_5 (by decide) (fun c30 => ?_) (fun c30 => ?_)
  · rw [if_neg c30] at hF
    refine lv_iload_n hx hb dX0_paintNoise_14 rfl (lv_at hl 1 rfl) ?_
    refine lv_sipush (v := (255 : Int32)) hx hb dX0_paintNoise_15 (by decide) ?_
    refine lv_iand hx hb dX0_paintNoise_18 ?_
    obtain ⟨x31, ex31, hF⟩ := ltt_some hF
    refine lv_topi (fun zx31 ezx31 => ?_)
    obtain rfl : x31 = zx31 := ex31.trans ezx31.symm
    obtain rfl := Option.some.inj hF
    exact J2 _ _ _ hP hD hS (lv_sub hl [0, 1, 2, 3] rfl)
  · rw [if_pos c30] at hF
    refine lv_sipush (v := (256 : Int32)) hx hb dX0_paintNoise_8 (by decide) ?_
    refine lv_goto (tgt := 19) hx hb dX0_paintNoise_11 (by decide) ?_
    obtain rfl := Option.some.inj hF
    exact J2 _ _ _ hP hD hS (lv_sub hl [0, 1, 2, 3] rfl)
theorem ggX0_paintSlope_X0_wide : GoodIn wsX0_paintSlope wsX0_wide := goodIn_r _ [6, 7, 12, 13, 14, 15, 16, 17, 18, 19, 20, 21, 22, 23, 24, 25, 26, 27, 28, 29, 30, 31, 32] (by decide +kernel) (by decide +kernel)
set_option maxRecDepth 20000 in
theorem gX0_paintSlope_X0_wide : GoodIn wsX0_paintSlope (wsV RX0 176 RX0 yX0_wide wsX0_wide) := goodIn_app (goodIn_of _ (by decide +kernel)) ggX0_paintSlope_X0_wide
set_option maxRecDepth 20000 in
theorem ggX0_paintSlope_X0_high : GoodIn wsX0_paintSlope wsX0_high := goodIn_r _ [11, 7, 12, 13, 14, 15, 16, 17, 18, 19, 20, 21, 22, 23, 24, 25, 26, 27, 28, 29, 30, 31, 32] (by decide +kernel) (by decide +kernel)
set_option maxRecDepth 20000 in
theorem gX0_paintSlope_X0_high : GoodIn wsX0_paintSlope (wsV RX0 180 RX0 yX0_high wsX0_high) := goodIn_app (goodIn_of _ (by decide +kernel)) ggX0_paintSlope_X0_high
theorem dX0_paintSlope_0 : decode cX0_paintSlope 0 = .ok (.iconst 0, 1) := by decide +kernel
theorem dX0_paintSlope_1 : decode cX0_paintSlope 1 = .ok (.istore 4, 2) := by decide +kernel
theorem dX0_paintSlope_3 : decode cX0_paintSlope 3 = .ok (.iload 4, 2) := by decide +kernel
theorem dX0_paintSlope_5 : decode cX0_paintSlope 5 = .ok (.iconst 3, 1) := by decide +kernel
theorem dX0_paintSlope_6 : decode cX0_paintSlope 6 = .ok (.if_icmp .ge 110, 3) := by decide +kernel
theorem dX0_paintSlope_9 : decode cX0_paintSlope 9 = .ok (.iload 4, 2) := by decide +kernel
theorem dX0_paintSlope_11 : decode cX0_paintSlope 11 = .ok (.ifCond .ne 7, 3) := by decide +kernel
theorem dX0_paintSlope_14 : decode cX0_paintSlope 14 = .ok (.iconst 1, 1) := by decide +kernel
theorem dX0_paintSlope_15 : decode cX0_paintSlope 15 = .ok (.goto 4, 3) := by decide +kernel
theorem dX0_paintSlope_18 : decode cX0_paintSlope 18 = .ok (.iconst 2, 1) := by decide +kernel
theorem dX0_paintSlope_19 : decode cX0_paintSlope 19 = .ok (.istore 5, 2) := by decide +kernel
theorem dX0_paintSlope_21 : decode cX0_paintSlope 21 = .ok (.iconst 0, 1) := by decide +kernel
theorem dX0_paintSlope_22 : decode cX0_paintSlope 22 = .ok (.istore 6, 2) := by decide +kernel
theorem dX0_paintSlope_24 : decode cX0_paintSlope 24 = .ok (.iload 6, 2) := by decide +kernel
theorem dX0_paintSlope_26 : decode cX0_paintSlope 26 = .ok (.aload_n 0, 1) := by decide +kernel
theorem dX0_paintSlope_27 : decode cX0_paintSlope 27 = .ok (.iload 4, 2) := by decide +kernel
theorem dX0_paintSlope_29 : decode cX0_paintSlope 29 = .ok (.invokevirtual 176, 3) := by decide +kernel
theorem dX0_paintSlope_32 : decode cX0_paintSlope 32 = .ok (.aload_n 0, 1) := by decide +kernel
theorem dX0_paintSlope_33 : decode cX0_paintSlope 33 = .ok (.iload 4, 2) := by decide +kernel
theorem dX0_paintSlope_35 : decode cX0_paintSlope 35 = .ok (.invokevirtual 180, 3) := by decide +kernel
theorem dX0_paintSlope_38 : decode cX0_paintSlope 38 = .ok (.imul, 1) := by decide +kernel
theorem dX0_paintSlope_39 : decode cX0_paintSlope 39 = .ok (.if_icmp .ge 71, 3) := by decide +kernel
theorem dX0_paintSlope_42 : decode cX0_paintSlope 42 = .ok (.iload 5, 2) := by decide +kernel
theorem dX0_paintSlope_44 : decode cX0_paintSlope 44 = .ok (.iload 6, 2) := by decide +kernel
theorem dX0_paintSlope_46 : decode cX0_paintSlope 46 = .ok (.aload_n 0, 1) := by decide +kernel
theorem dX0_paintSlope_47 : decode cX0_paintSlope 47 = .ok (.iload 4, 2) := by decide +kernel
theorem dX0_paintSlope_49 : decode cX0_paintSlope 49 = .ok (.invokevirtual 176, 3) := by decide +kernel
theorem dX0_paintSlope_52 : decode cX0_paintSlope 52 = .ok (.irem, 1) := by decide +kernel
theorem dX0_paintSlope_53 : decode cX0_paintSlope 53 = .ok (.imul, 1) := by decide +kernel
theorem dX0_paintSlope_54 : decode cX0_paintSlope 54 = .ok (.istore 7, 2) := by decide +kernel
theorem dX0_paintSlope_56 : decode cX0_paintSlope 56 = .ok (.iload 5, 2) := by decide +kernel
theorem dX0_paintSlope_58 : decode cX0_paintSlope 58 = .ok (.iload 6, 2) := by decide +kernel
theorem dX0_paintSlope_60 : decode cX0_paintSlope 60 = .ok (.aload_n 0, 1) := by decide +kernel
theorem dX0_paintSlope_61 : decode cX0_paintSlope 61 = .ok (.iload 4, 2) := by decide +kernel
theorem dX0_paintSlope_63 : decode cX0_paintSlope 63 = .ok (.invokevirtual 176, 3) := by decide +kernel
theorem dX0_paintSlope_66 : decode cX0_paintSlope 66 = .ok (.idiv, 1) := by decide +kernel
theorem dX0_paintSlope_67 : decode cX0_paintSlope 67 = .ok (.imul, 1) := by decide +kernel
theorem dX0_paintSlope_68 : decode cX0_paintSlope 68 = .ok (.istore 8, 2) := by decide +kernel
theorem dX0_paintSlope_70 : decode cX0_paintSlope 70 = .ok (.aload_n 0, 1) := by decide +kernel
theorem dX0_paintSlope_71 : decode cX0_paintSlope 71 = .ok (.getfield 66, 3) := by decide +kernel
theorem dX0_paintSlope_74 : decode cX0_paintSlope 74 = .ok (.bipush 9, 2) := by decide +kernel
theorem dX0_paintSlope_76 : decode cX0_paintSlope 76 = .ok (.iload 4, 2) := by decide +kernel
theorem dX0_paintSlope_78 : decode cX0_paintSlope 78 = .ok (.iadd, 1) := by decide +kernel
theorem dX0_paintSlope_79 : decode cX0_paintSlope 79 = .ok (.aaload, 1) := by decide +kernel
theorem dX0_paintSlope_80 : decode cX0_paintSlope 80 = .ok (.iload 6, 2) := by decide +kernel
theorem dX0_paintSlope_82 : decode cX0_paintSlope 82 = .ok (.iload_n 1, 1) := by decide +kernel
theorem dX0_paintSlope_83 : decode cX0_paintSlope 83 = .ok (.iload 7, 2) := by decide +kernel
theorem dX0_paintSlope_85 : decode cX0_paintSlope 85 = .ok (.imul, 1) := by decide +kernel
theorem dX0_paintSlope_86 : decode cX0_paintSlope 86 = .ok (.iload_n 2, 1) := by decide +kernel
theorem dX0_paintSlope_87 : decode cX0_paintSlope 87 = .ok (.iload 8, 2) := by decide +kernel
theorem dX0_paintSlope_89 : decode cX0_paintSlope 89 = .ok (.imul, 1) := by decide +kernel
theorem dX0_paintSlope_90 : decode cX0_paintSlope 90 = .ok (.iadd, 1) := by decide +kernel
theorem dX0_paintSlope_91 : decode cX0_paintSlope 91 = .ok (.iload_n 3, 1) := by decide +kernel
theorem dX0_paintSlope_92 : decode cX0_paintSlope 92 = .ok (.iadd, 1) := by decide +kernel
theorem dX0_paintSlope_93 : decode cX0_paintSlope 93 = .ok (.bipush 40, 2) := by decide +kernel
theorem dX0_paintSlope_95 : decode cX0_paintSlope 95 = .ok (.iload 4, 2) := by decide +kernel
theorem dX0_paintSlope_97 : decode cX0_paintSlope 97 = .ok (.imul, 1) := by decide +kernel
theorem dX0_paintSlope_98 : decode cX0_paintSlope 98 = .ok (.iadd, 1) := by decide +kernel
theorem dX0_paintSlope_99 : decode cX0_paintSlope 99 = .ok (.sipush 255, 3) := by decide +kernel
theorem dX0_paintSlope_102 : decode cX0_paintSlope 102 = .ok (.iand, 1) := by decide +kernel
theorem dX0_paintSlope_103 : decode cX0_paintSlope 103 = .ok (.iastore, 1) := by decide +kernel
theorem dX0_paintSlope_104 : decode cX0_paintSlope 104 = .ok (.iinc 6 1, 3) := by decide +kernel
theorem dX0_paintSlope_107 : decode cX0_paintSlope 107 = .ok (.goto (-83), 3) := by decide +kernel
theorem dX0_paintSlope_110 : decode cX0_paintSlope 110 = .ok (.iinc 4 1, 3) := by decide +kernel
theorem dX0_paintSlope_113 : decode cX0_paintSlope 113 = .ok (.goto (-110), 3) := by decide +kernel
theorem dX0_paintSlope_116 : decode cX0_paintSlope 116 = .ok (.return_, 1) := by decide +kernel
def FX0_paintSlope (G : GG) (M : DD) (a : Nat) (p0 : Int32) (p1 : Int32) (p2 : Int32) : Option (DD) :=
  bnd (itr (fun (s2 : Int32 × DD) => ((if ((3 : Int32)) ≤ s2.1 then (some (.inr (s2.1, s2.2))) else
  (bnd (if s2.1 = ((0 : Int32)) then (some ((1 : Int32))) else
  (some ((2 : Int32)))) fun (y6 : Int32) =>
  bnd (itr (fun (s8 : Int32 × DD) => ((bnd (FX0_wide G s8.2 a s2.1) fun y12 =>
  bnd (FX0_high G y12.1 a s2.1) fun y13 =>
  ltt ((y12.2 * y13.2)) fun x14 =>
  if x14 ≤ s8.1 then (some (.inr (s8.1, y13.1))) else
  (bnd (FX0_wide G y13.1 a s2.1) fun y16 =>
  chk (¬ y16.2 = 0) <|
  ltt (s8.1 - s8.1 / y16.2 * y16.2) fun x17 =>
  ltt ((y6 * x17)) fun x18 =>
  bnd (FX0_wide G y16.1 a s2.1) fun y19 =>
  chk (¬ y19.2 = 0) <|
  ltt (s8.1 / y19.2) fun x20 =>
  ltt ((y6 * x20)) fun x21 =>
  ltt ((((9 : Int32)) + s2.1)) fun x22 =>
  dr G 15 ((y19.1.2 a 8)) fun b23 =>
  chk (¬ (x22 < 0 ∨ G.2.2 b23 ≤ x22.toNatClampNeg)) <|
  ltt ((p0 * x18)) fun x24 =>
  ltt ((p1 * x21)) fun x25 =>
  ltt ((x24 + x25)) fun x26 =>
  ltt ((x26 + p2)) fun x27 =>
  ltt ((((40 : Int32)) * s2.1)) fun x28 =>
  ltt ((x27 + x28)) fun x29 =>
  ltt ((x29 &&& ((255 : Int32)))) fun x30 =>
  dr G 13 ((y19.1.2 b23 x22.toNatClampNeg)) fun b31 =>
  chk (¬ (s8.1 < 0 ∨ G.2.2 b31 ≤ s8.1.toNatClampNeg)) <|
  ltt (uI y19.1 b31 s8.1.toNatClampNeg x30) fun M32 =>
  ltt (s8.1 + (1 : Int32)) fun x33 =>
  some (.inl (x33, M32)))) : Option ((Int32 × DD) ⊕ (Int32 × DD)))) 1000000 ((0 : Int32), s2.2)) fun (y7 : Int32 × DD) =>
  ltt (s2.1 + (1 : Int32)) fun x10 =>
  some (.inl (x10, y7.2)))) : Option ((Int32 × DD) ⊕ (Int32 × DD)))) 1000000 ((0 : Int32), M)) fun (y1 : Int32 × DD) =>
  some y1.2
set_option maxHeartbeats 4000000 in
set_option maxRecDepth 100000 in
theorem kX0_paintSlope (l : Launch) (D : va_G) (ct : CT) (ad : Nat → Nat) (Z : Nat → Nat) (G : GG) (M : DD) (sz : Nat) (a : Nat) (p0 : Int32) (p1 : Int32) (p2 : Int32) (y : DD) (hc : a < G.1) (hk : G.2.1 a = 0) (hF : FX0_paintSlope G M a p0 p1 p2 = some y) : Met l yX0_paintSlope wsX0_paintSlope ({ frames := 1, cells := 0, slots := 0, locals := 21 }) (va_Pc [.ref (ad a), .int p0, .int p1, .int p2] (kB D ct ad Z G M sz)) (va_Qv (fun (_ : Unit) => True) (fun _ t => kE D ct ad G (wA ad G sz) y t) (wA ad G sz)) 0 0 (wA ad G sz) := by
  refine Met.ofW (cc := cX0_paintSlope) (maxL := 9) (ret := none) (by decide) rfl ?_
  intro p e s m args below meth c s₁ B hml hv
  obtain ⟨rfl, hsz, hP, hK, hD0, hZ, hN⟩ := hv
  have hx := B.exec
  have hb := B.bytes
  have hr := B.returns
  have hts := atoms_spec (ws := wsX0_paintSlope) B.pre
  have hown : s.vm.findClass RX0 = some m.cls := findClass_of_methodNamed B.named
  have hlocks := B.notSynchronized
  subst hsz
  have hD := wD_self (sz := s.heap.size) hD0
  have hA9 : ∀ q, s.heap.size ≤ q → wA ad G s.heap.size q := fun q h => Or.inr h
  generalize hAe : wA ad G s.heap.size = A at hD hA9 hZ ⊢
  have hS : va_S A s.heap s.heap [] := va_S.rf
  have hl := lv_entry ([.ref (ad a), .int p0, .int p1, .int p2]) (n := 9) (Nat.le_of_ble_eq_true rfl)
  rw [lg_entry_eq]
  generalize (lg_sl ([.ref (ad a), .int p0, .int p1, .int p2]) ++ List.replicate (9 - (lg_sl ([.ref (ad a), .int p0, .int p1, .int p2])).length) Slot.unset).toArray = ls at hl ⊢
  have hl : lv_has ls 9 [(0, .ref (ad a)), (1, .int p0), (2, .int p1), (3, .int p2)] := hl
  unfold FX0_paintSlope at hF
  refine lv_iconst (v := (0 : Int32)) hx hb dX0_paintSlope_0 (by decide) ?_
  refine lv_istore (lv' := [(4, .int (0 : Int32)), (0, .ref (ad a)), (1, .int p0), (2, .int p1), (3, .int p2)]) hx hb dX0_paintSlope_1 hl (by decide) rfl (fun ls hl => ?_)
  obtain ⟨y1, hy1, hF⟩ := bnd_some hF
  have K1 : ∀ (H : Heap) (locs : List Loc) (ls : Array Slot), va_P D classes (wld ct ad G y1.2) H → va_D A (wld ct ad G y1.2) → va_S A s.heap H locs → lv_has ls 9 [(4, .int y1.1), (0, .ref (ad a)), (1, .int p0), (2, .int p1), (3, .int p2)] → W p l e (headSpec wsX0_paintSlope ({ frames := 1, cells := 0, slots := 0, locals := 21 })).room s m ([.ref (ad a), .int p0, .int p1, .int p2] : List Value).toArray below meth c H locs 0 0 (MQ below (va_Qv (fun (_ : Unit) => True) (fun _ t => kE D ct ad G A y t) A) ([.ref (ad a), .int p0, .int p1, .int p2] : List Value).toArray s 0 0 A) (F0 m 116 ls []) := by
    intro H locs ls hP hD hS hl
    obtain rfl := Option.some.inj hF
    exact W.vret hx hb hr (fun t ht hW => ⟨⟨(), rfl, trivial, ⟨by rw [ht]; exact hP, va_K.moved hW.alike hK, hD⟩⟩, hS.F ht⟩) hS.2.2 dX0_paintSlope_116
  clear hF
  refine itr_rule (fun (s2 : Int32 × DD) => ∀ (H : Heap) (locs : List Loc) (ls : Array Slot), va_P D classes (wld ct ad G s2.2) H → va_D A (wld ct ad G s2.2) → va_S A s.heap H locs → lv_has ls 9 [(4, .int s2.1), (0, .ref (ad a)), (1, .int p0), (2, .int p1), (3, .int p2)] → W p l e (headSpec wsX0_paintSlope ({ frames := 1, cells := 0, slots := 0, locals := 21 })).room s m ([.ref (ad a), .int p0, .int p1, .int p2] : List Value).toArray below meth c H locs 0 0 (MQ below (va_Qv (fun (_ : Unit) => True) (fun _ t => kE D ct ad G A y t) A) ([.ref (ad a), .int p0, .int p1, .int p2] : List Value).toArray s 0 0 A) (F0 m 3 ls [])) ?_ _ _ hy1 _ _ _ hP hD hS (lv_sub hl [0, 1, 2, 3, 4] rfl)
  rintro s2 ⟨z4, hF, hwz4⟩ H locs ls hP hD hS hl
  try dsimp only at hF
  refine lv_iload hx hb dX0_paintSlope_3 (lv_at hl 0 rfl) ?_
  refine lv_iconst (v := (3 : Int32)) hx hb dX0_paintSlope_5 (by decide) ?_
  refine lv_icmp_ge (tgt := 116) hx hb dX0_paintSlope_6 (by decide) (fun c5 => ?_) (fun c5 => ?_)
  · rw [if_pos c5] at hF
    obtain rfl := Option.some.inj hF
    subst hwz4
    exact K1 _ _ _ hP hD hS (lv_sub hl [0, 1, 2, 3, 4] rfl)
  · rw [if_neg c5] at hF
    refine lv_iload hx hb dX0_paintSlope_9 (lv_at hl 0 rfl) ?_
    obtain ⟨y6, hy6, hF⟩ := bnd_some hF
    have J6 : ∀ (H : Heap) (locs : List Loc) (ls : Array Slot), va_P D classes (wld ct ad G s2.2) H → va_D A (wld ct ad G s2.2) → va_S A s.heap H locs → lv_has ls 9 [(4, .int s2.1), (0, .ref (ad a)), (1, .int p0), (2, .int p1), (3, .int p2)] → W p l e (headSpec wsX0_paintSlope ({ frames := 1, cells := 0, slots := 0, locals := 21 })).room s m ([.ref (ad a), .int p0, .int p1, .int p2] : List Value).toArray below meth c H locs 0 0 (MQ below (va_Qv (fun (_ : Unit) => True) (fun _ t => kE D ct ad G A y t) A) ([.ref (ad a), .int p0, .int p1, .int p2] : List Value).toArray s 0 0 A) (F0 m 19 ls [.int y6]) := by
      intro H locs ls hP hD hS hl
      refine lv_istore (lv' := [(5, .int y6), (4, .int s2.1), (0, .ref (ad a)), (1, .int p0), (2, .int p1), (3, .int p2)]) hx hb dX0_paintSlope_19 hl (by decide) rfl (fun ls hl => ?_)
      refine lv_iconst (v := (0 : Int32)) hx hb dX0_paintSlope_21 (by decide) ?_
      refine lv_istore (lv' := [(6, .int (0 : Int32)), (5, .int y6), (4, .int s2.1), (0, .ref (ad a)), (1, .int p0), (2, .int p1), (3, .int p2)]) hx hb dX0_paintSlope_22 hl (by decide) rfl (fun ls hl => ?_)
      obtain ⟨y7, hy7, hF⟩ := bnd_some hF
      have K7 : ∀ (H : Heap) (locs : List Loc) (ls : Array Slot), va_P D classes (wld ct ad G y7.2) H → va_D A (wld ct ad G y7.2) → va_S A s.heap H locs → lv_has ls 9 [(6, .int y7.1), (5, .int y6), (4, .int s2.1), (0, .ref (ad a)), (1, .int p0), (2, .int p1), (3, .int p2)] → W p l e (headSpec wsX0_paintSlope ({ frames := 1, cells := 0, slots := 0, locals := 21 })).room s m ([.ref (ad a), .int p0, .int p1, .int p2] : List Value).toArray below meth c H locs 0 0 (MQ below (va_Qv (fun (_ : Unit) => True) (fun _ t => kE D ct ad G A y t) A) ([.ref (ad a), .int p0, .int p1, .int p2] : List Value).toArray s 0 0 A) (F0 m 110 ls []) := by
        intro H locs ls hP hD hS hl
        obtain ⟨x10, ex10, hF⟩ := ltt_some hF
        refine lv_iinc (v := x10) (lv' := [(4, .int x10), (6, .int y7.1), (5, .int y6), (0, .ref (ad a)), (1, .int p0), (2, .int p1), (3, .int p2)]) hx hb dX0_paintSlope_110 hl (k := 2) rfl (by rw [ex10]; rfl) (by decide) rfl (fun ls hl => ?_)
        refine lv_goto (tgt := 3) hx hb dX0_paintSlope_113 (by decide) ?_
        obtain rfl := Option.some.inj hF
        exact hwz4 _ _ _ hP hD hS (lv_sub hl [0, 3, 4, 5, 6] rfl)
      clear hF
      refine itr_rule (fun (s8 : Int32 × DD) => ∀ (H : Heap) (locs : List Loc) (ls : Array Slot), va_P D classes (wld ct ad G s8.2) H → va_D A (wld ct ad G s8.2) → va_S A s.heap H locs → lv_has ls 9 [(6, .int s8.1), (5, .int y6), (4, .int s2.1), (0, .ref (ad a)), (1, .int p0), (2, .int p1), (3, .int p2)] → W p l e (headSpec wsX0_paintSlope ({ frames := 1, cells := 0, slots := 0, locals := 21 })).room s m ([.ref (ad a), .int p0, .int p1, .int p2] : List Value).toArray below meth c H locs 0 0 (MQ below (va_Qv (fun (_ : Unit) => True) (fun _ t => kE D ct ad G A y t) A) ([.ref (ad a), .int p0, .int p1, .int p2] : List Value).toArray s 0 0 A) (F0 m 24 ls [])) ?_ _ _ hy7 _ _ _ hP hD hS (lv_sub hl [0, 1, 2, 3, 4, 5, 6] rfl)
      rintro s8 ⟨z11, hF, hwz11⟩ H locs ls hP hD hS hl
      try dsimp only at hF
      refine lv_iload hx hb dX0_paintSlope_24 (lv_at hl 0 rfl) ?_
      refine lv_aload_n hx hb dX0_paintSlope_26 rfl (lv_at hl 3 rfl) ?_
      refine lv_iload hx hb dX0_paintSlope_27 (lv_at hl 2 rfl) ?_
      obtain ⟨y12, hy12, hF⟩ := bnd_some hF
      have hf9 := wA_in hD hA9 hS
      refine va_calli (va_runV (As := [.int s2.1]) (rest := [.int s8.1]) ⟨hx, hb, hml, hown, hts⟩ (kX0_wide l D ct ad Z G s8.2 H.size a s2.1 y12 hc hk hy12) (cwV 1 hts gX0_paintSlope_X0_wide rfl rfl rfl (by decide +kernel) ⟨Nat.le_of_ble_eq_true rfl, Nat.le_of_ble_eq_true rfl⟩) ⟨fun a U g mk q => by obtain ⟨q0, q1, qP, qK, qD, qZ, qN⟩ := q; exact ⟨q0, q1, qP, va_K.moved (u := U) (U := U.calling g mk a) (Vm.Alike.refl U.vm) qK, qD, sF.moved (u := U) (U := U.calling g mk a) (Vm.Alike.refl U.vm) qZ, nF.same rfl qN⟩, va_recv hK hP (ci := 0) (q0 := a) rfl (wld_o ct ad G s8.2 hc hk (by decide)), fun U hU hW => ⟨rfl, by rw [hU], by rw [hU]; exact hP, va_K.moved hW.alike hK, hD.weaken (fun _ _ _ _ => trivial), by rw [hU]; exact ((hZ.kept hS.2.1).narrow hf9).moved hW.alike, hN.warm hW⟩⟩ rfl rfl hl.1 rfl (lv_room (Nat.le_of_ble_eq_true rfl)) dX0_paintSlope_29 ⟨(Nat.zero_le _), (Nat.zero_le _)⟩) hS (fun q _ h => hf9 q h) hf9 (fun r u t H locs ht hvm hw hB hz1 hk1 hS => ?_)
      obtain ⟨hP, hK9, hD9⟩ := hB
      rw [ht] at hP
      try dsimp only at hw
      subst hw
      have hD := hD9.weaken (fun _ q _ h => hf9 q.1 h)
      refine lv_aload_n hx hb dX0_paintSlope_32 rfl (lv_at hl 3 rfl) ?_
      refine lv_iload hx hb dX0_paintSlope_33 (lv_at hl 2 rfl) ?_
      obtain ⟨y13, hy13, hF⟩ := bnd_some hF
      have hf9 := wA_in hD hA9 hS
      refine va_calli (va_runV (As := [.int s2.1]) (rest := [.int y12.2, .int s8.1]) ⟨hx, hb, hml, hown, hts⟩ (kX0_high l D ct ad Z G y12.1 H.size a s2.1 y13 hc hk hy13) (cwV 1 hts gX0_paintSlope_X0_high rfl rfl rfl (by decide +kernel) ⟨Nat.le_of_ble_eq_true rfl, Nat.le_of_ble_eq_true rfl⟩) ⟨fun a U g mk q => by obtain ⟨q0, q1, qP, qK, qD, qZ, qN⟩ := q; exact ⟨q0, q1, qP, va_K.moved (u := U) (U := U.calling g mk a) (Vm.Alike.refl U.vm) qK, qD, sF.moved (u := U) (U := U.calling g mk a) (Vm.Alike.refl U.vm) qZ, nF.same rfl qN⟩, va_recv hK hP (ci := 0) (q0 := a) rfl (wld_o ct ad G y12.1 hc hk (by decide)), fun U hU hW => ⟨rfl, by rw [hU], by rw [hU]; exact hP, va_K.moved hW.alike hK, hD.weaken (fun _ _ _ _ => trivial), by rw [hU]; exact ((hZ.kept hS.2.1).narrow hf9).moved hW.alike, hN.warm hW⟩⟩ rfl rfl hl.1 rfl (lv_room (Nat.le_of_ble_eq_true rfl)) dX0_paintSlope_35 ⟨(Nat.zero_le _), (Nat.zero_le _)⟩) hS (fun q _ h => hf9 q h) hf9 (fun r u t H locs ht hvm hw hB hz1 hk1 hS => ?_)
      obtain ⟨hP, hK9, hD9⟩ := hB
      rw [ht] at hP
      try dsimp only at hw
      subst hw
      have hD := hD9.weaken (fun _ q _ h => hf9 q.1 h)
      refine lv_imul hx hb dX0_paintSlope_38 ?_
      obtain ⟨x14, ex14, hF⟩ := ltt_some hF
      refine lv_topi (fun zx14 ezx14 => ?_)
      obtain rfl : x14 = zx14 := ex14.trans ezx14.symm
      refine lv_icmp_ge (tgt := 110) hx hb dX0_paintSlope_39 (by decide) (fun c15 => ?_) (fun c15 => ?_)
      · rw [if_pos c15] at hF
        obtain rfl := Option.some.inj hF
        subst hwz11
        exact K7 _ _ _ hP hD hS (lv_sub hl [0, 1, 2, 3, 4, 5, 6] rfl)
      · rw [if_neg c15] at hF
        refine lv_iload hx hb dX0_paintSlope_42 (lv_at hl 1 rfl) ?_
        refine lv_iload hx hb dX0_paintSlope_44 (lv_at hl 0 rfl) ?_
        refine lv_aload_n hx hb dX0_paintSlope_46 rfl (lv_at hl 3 rfl) ?_
        refine lv_iload hx hb dX0_paintSlope_47 (lv_at hl 2 rfl) ?_
        obtain ⟨y16, hy16, hF⟩ := bnd_some hF
        have hf9 := wA_in hD hA9 hS
        refine va_calli (va_runV (As := [.int s2.1]) (rest := [.int s8.1, .int y6]) ⟨hx, hb, hml, hown, hts⟩ (kX0_wide l D ct ad Z G y13.1 H.size a s2.1 y16 hc hk hy16) (cwV 1 hts gX0_paintSlope_X0_wide rfl rfl rfl (by decide +kernel) ⟨Nat.le_of_ble_eq_true rfl, Nat.le_of_ble_eq_true rfl⟩) ⟨fun a U g mk q => by obtain ⟨q0, q1, qP, qK, qD, qZ, qN⟩ := q; exact ⟨q0, q1, qP, va_K.moved (u := U) (U := U.calling g mk a) (Vm.Alike.refl U.vm) qK, qD, sF.moved (u := U) (U := U.calling g mk a) (Vm.Alike.refl U.vm) qZ, nF.same rfl qN⟩, va_recv hK hP (ci := 0) (q0 := a) rfl (wld_o ct ad G y13.1 hc hk (by decide)), fun U hU hW => ⟨rfl, by rw [hU], by rw [hU]; exact hP, va_K.moved hW.alike hK, hD.weaken (fun _ _ _ _ => trivial), by rw [hU]; exact ((hZ.kept hS.2.1).narrow hf9).moved hW.alike, hN.warm hW⟩⟩ rfl rfl hl.1 rfl (lv_room (Nat.le_of_ble_eq_true rfl)) dX0_paintSlope_49 ⟨(Nat.zero_le _), (Nat.zero_le _)⟩) hS (fun q _ h => hf9 q h) hf9 (fun r u t H locs ht hvm hw hB hz1 hk1 hS => ?_)
        obtain ⟨hP, hK9, hD9⟩ := hB
        rw [ht] at hP
        try dsimp only at hw
        subst hw
        have hD := hD9.weaken (fun _ q _ h => hf9 q.1 h)
        obtain ⟨hne, hF⟩ := chk_some hF
        refine lv_irem hx hb dX0_paintSlope_52 hne ?_
        obtain ⟨x17, ex17, hF⟩ := ltt_some hF
        refine lv_topi (fun zx17 ezx17 => ?_)
        obtain rfl : x17 = zx17 := ex17.trans ezx17.symm
        refine lv_imul hx hb dX0_paintSlope_53 ?_
        obtain ⟨x18, ex18, hF⟩ := ltt_some hF
        refine lv_topi (fun zx18 ezx18 => ?_)
        obtain rfl : x18 = zx18 := ex18.trans ezx18.symm
        refine lv_istore (lv' := [(7, .int x18), (6, .int s8.1), (5, .int y6), (4, .int s2.1), (0, .ref (ad a)), (1, .int p0), (2, .int p1), (3, .int p2)]) hx hb dX0_paintSlope_54 hl (by decide) rfl (fun ls hl => ?_)
        refine lv_iload hx hb dX0_paintSlope_56 (lv_at hl 2 rfl) ?_
        refine lv_iload hx hb dX0_paintSlope_58 (lv_at hl 1 rfl) ?_
        refine lv_aload_n hx hb dX0_paintSlope_60 rfl (lv_at hl 4 rfl) ?_
        refine lv_iload hx hb dX0_paintSlope_61 (lv_at hl 3 rfl) ?_
        obtain ⟨y19, hy19, hF⟩ := bnd_some hF
        have hf9 := wA_in hD hA9 hS
        refine va_calli (va_runV (As := [.int s2.1]) (rest := [.int s8.1, .int y6]) ⟨hx, hb, hml, hown, hts⟩ (kX0_wide l D ct ad Z G y16.1 H.size a s2.1 y19 hc hk hy19) (cwV 1 hts gX0_paintSlope_X0_wide rfl rfl rfl (by decide +kernel) ⟨Nat.le_of_ble_eq_true rfl, Nat.le_of_ble_eq_true rfl⟩) ⟨fun a U g mk q => by obtain ⟨q0, q1, qP, qK, qD, qZ, qN⟩ := q; exact ⟨q0, q1, qP, va_K.moved (u := U) (U := U.calling g mk a) (Vm.Alike.refl U.vm) qK, qD, sF.moved (u := U) (U := U.calling g mk a) (Vm.Alike.refl U.vm) qZ, nF.same rfl qN⟩, va_recv hK hP (ci := 0) (q0 := a) rfl (wld_o ct ad G y16.1 hc hk (by decide)), fun U hU hW => ⟨rfl, by rw [hU], by rw [hU]; exact hP, va_K.moved hW.alike hK, hD.weaken (fun _ _ _ _ => trivial), by rw [hU]; exact ((hZ.kept hS.2.1).narrow hf9).moved hW.alike, hN.warm hW⟩⟩ rfl rfl hl.1 rfl (lv_room (Nat.le_of_ble_eq_true rfl)) dX0_paintSlope_63 ⟨(Nat.zero_le _), (Nat.zero_le _)⟩) hS (fun q _ h => hf9 q h) hf9 (fun r u t H locs ht hvm hw hB hz1 hk1 hS => ?_)
        obtain ⟨hP, hK9, hD9⟩ := hB
        rw [ht] at hP
        try dsimp only at hw
        subst hw
        have hD := hD9.weaken (fun _ q _ h => hf9 q.1 h)
        obtain ⟨hne, hF⟩ := chk_some hF
        refine lv_idiv hx hb dX0_paintSlope_66 hne ?_
        obtain ⟨x20, ex20, hF⟩ := ltt_some hF
        refine lv_topi (fun zx20 ezx20 => ?_)
        obtain rfl : x20 = zx20 := ex20.trans ezx20.symm
        refine lv_imul hx hb dX0_paintSlope_67 ?_
        obtain ⟨x21, ex21, hF⟩ := ltt_some hF
        refine lv_topi (fun zx21 ezx21 => ?_)
        obtain rfl : x21 = zx21 := ex21.trans ezx21.symm
        refine lv_istore (lv' := [(8, .int x21), (7, .int x18), (6, .int s8.1), (5, .int y6), (4, .int s2.1), (0, .ref (ad a)), (1, .int p0), (2, .int p1), (3, .int p2)]) hx hb dX0_paintSlope_68 hl (by decide) rfl (fun ls hl => ?_)
        refine lv_aload_n hx hb dX0_paintSlope_70 rfl (lv_at hl 5 rfl) ?_
        refine va_get (D := D) (ci := 0) (v := va_re ad (y19.1.2 a 8)) (C := RX0) (T := TX0) (N := 21) hx hb hts (by decide +kernel) hown hK hP a (wld_o ct ad G y19.1 hc hk (by decide)) rfl 8 (by decide) (hts (.fieldLink RX0 66 "VideoSuite$Coder" "planes" "[[I") (by decide +kernel)) (fun _ h9 => h9) rfl dX0_paintSlope_71 ?_
        refine lv_bipush (v := (9 : Int32)) hx hb dX0_paintSlope_74 (by decide) ?_
        refine lv_iload hx hb dX0_paintSlope_76 (lv_at hl 4 rfl) ?_
        refine lv_iadd hx hb dX0_paintSlope_78 ?_
        obtain ⟨x22, ex22, hF⟩ := ltt_some hF
        refine lv_topi (fun zx22 ezx22 => ?_)
        obtain rfl : x22 = zx22 := ex22.trans ezx22.symm
        obtain ⟨b23, ho23, hc23, hk23, hF⟩ := dr_some hF
        refine W_st (st' := [.int x22, .ref (ad b23)]) (by rw [va_some ho23]) ?_
        obtain ⟨hvc, hF⟩ := chk_some hF
        refine ld_g hx hb hK hP hc23 hk23 hvc dX0_paintSlope_79 ?_
        refine lv_iload hx hb dX0_paintSlope_80 (lv_at hl 2 rfl) ?_
        refine lv_iload_n hx hb dX0_paintSlope_82 rfl (lv_at hl 6 rfl) ?_
        refine lv_iload hx hb dX0_paintSlope_83 (lv_at hl 1 rfl) ?_
        refine lv_imul hx hb dX0_paintSlope_85 ?_
        obtain ⟨x24, ex24, hF⟩ := ltt_some hF
        refine lv_topi (fun zx24 ezx24 => ?_)
        obtain rfl : x24 = zx24 := ex24.trans ezx24.symm
        refine lv_iload_n hx hb dX0_paintSlope_86 rfl (lv_at hl 7 rfl) ?_
        refine lv_iload hx hb dX0_paintSlope_87 (lv_at hl 0 rfl) ?_
        refine lv_imul hx hb dX0_paintSlope_89 ?_
        obtain ⟨x25, ex25, hF⟩ := ltt_some hF
        refine lv_topi (fun zx25 ezx25 => ?_)
        obtain rfl : x25 = zx25 := ex25.trans ezx25.symm
        refine lv_iadd hx hb dX0_paintSlope_90 ?_
        obtain ⟨x26, ex26, hF⟩ := ltt_some hF
        refine lv_topi (fun zx26 ezx26 => ?_)
        obtain rfl : x26 = zx26 := ex26.trans ezx26.symm
        refine lv_iload_n hx hb dX0_paintSlope_91 rfl (lv_at hl 8 rfl) ?_
        refine lv_iadd hx hb dX0_paintSlope_92 ?_
        obtain ⟨x27, ex27, hF⟩ := ltt_some hF
        refine lv_topi (fun zx27 ezx27 => ?_)
        obtain rfl : x27 = zx27 := ex27.trans ezx27.symm
        refine lv_bipush (v := (40 : Int32)) hx hb dX0_paintSlope_93 (by decide) ?_
        refine lv_iload hx hb dX0_paintSlope_95 (lv_at hl 4 rfl) ?_
        refine lv_imul hx hb dX0_paintSlope_97 ?_
        obtain ⟨x28, ex28, hF⟩ := ltt_some hF
        refine lv_topi (fun zx28 ezx28 => ?_)
        obtain rfl : x28 = zx28 := ex28.trans ezx28.symm
        refine lv_iadd hx hb dX0_paintSlope_98 ?_
        obtain ⟨x29, ex29, hF⟩ := ltt_some hF
        refine lv_topi (fun zx29 ezx29 => ?_)
        obtain rfl : x29 = zx29 := ex29.trans ezx29.symm
        refine lv_sipush (v := (255 : Int32)) hx hb dX0_paintSlope_99 (by decide) ?_
        refine lv_iand hx hb dX0_paintSlope_102 ?_
        obtain ⟨x30, ex30, hF⟩ := ltt_some hF
        refine lv_topi (fun zx30 ezx30 => ?_)
        obtain rfl : x30 = zx30 := ex30.trans ezx30.symm
        obtain ⟨b31, ho31, hc31, hk31, hF⟩ := dr_some hF
        refine W_st (st' := [.int x30, .int s8.1, .ref (ad b31)]) (by rw [va_some ho31]) ?_
        obtain ⟨hvc, hF⟩ := chk_some hF
        refine va_iast hx hb hK hP hD hS b31 1 (wld_i ct ad G y19.1 hc31 hk31) rfl hvc dX0_paintSlope_103 (fun H locs hP hD hS => ?_)
        obtain ⟨M32, eM32, hF⟩ := ltt_some hF
        rw [set_i ct ad G y19.1 hc31 hk31, ← eM32] at hP hD
        obtain ⟨x33, ex33, hF⟩ := ltt_some hF
        refine lv_iinc (v := x33) (lv' := [(6, .int x33), (8, .int x21), (7, .int x18), (5, .int y6), (4, .int s2.1), (0, .ref (ad a)), (1, .int p0), (2, .int p1), (3, .int p2)]) hx hb dX0_paintSlope_104 hl (k := 2) rfl (by rw [ex33]; rfl) (by decide) rfl (fun ls hl => ?_)
        refine lv_goto (tgt := 24) hx hb dX0_paintSlope_107 (by decide) ?_
        obtain rfl := Option.some.inj hF
        exact hwz11 _ _ _ hP hD hS (lv_sub hl [0, 3, 4, 5, 6, 7, 8] rfl)
    clear hF
    have hF := hy6
    clear hy6
    refine lv_if_ne (tgt := 18) hx hb dX0_paintSlope_11 (by decide) (fun c34 => ?_) (fun c34 => ?_)
    · rw [if_neg c34] at hF
      refine lv_iconst (v := (2 : Int32)) hx hb dX0_paintSlope_18 (by decide) ?_
      obtain rfl := Option.some.inj hF
      exact J6 _ _ _ hP hD hS (lv_sub hl [0, 1, 2, 3, 4] rfl)
    · rw [if_pos c34] at hF
      refine lv_iconst (v := (1 : Int32)) hx hb dX0_paintSlope_14 (by decide) ?_
      refine lv_goto (tgt := 19) hx hb dX0_paintSlope_15 (by decide) ?_
      obtain rfl := Option.some.inj hF
      exact J6 _ _ _ hP hD hS (lv_sub hl [0, 1, 2, 3, 4] rfl)
theorem ggX0_paintSquare_X0_high : GoodIn wsX0_paintSquare wsX0_high := goodIn_r _ [6, 7, 12, 13, 14, 15, 16, 17, 18, 19, 20, 21, 22, 23, 24, 25, 26, 27, 28, 29, 30, 31, 32] (by decide +kernel) (by decide +kernel)
set_option maxRecDepth 20000 in
theorem gX0_paintSquare_X0_high : GoodIn wsX0_paintSquare (wsV RX0 180 RX0 yX0_high wsX0_high) := goodIn_app (goodIn_of _ (by decide +kernel)) ggX0_paintSquare_X0_high
set_option maxRecDepth 20000 in
theorem ggX0_paintSquare_X0_wide : GoodIn wsX0_paintSquare wsX0_wide := goodIn_r _ [11, 7, 12, 13, 14, 15, 16, 17, 18, 19, 20, 21, 22, 23, 24, 25, 26, 27, 28, 29, 30, 31, 32] (by decide +kernel) (by decide +kernel)
set_option maxRecDepth 20000 in
theorem gX0_paintSquare_X0_wide : GoodIn wsX0_paintSquare (wsV RX0 176 RX0 yX0_wide wsX0_wide) := goodIn_app (goodIn_of _ (by decide +kernel)) ggX0_paintSquare_X0_wide
theorem dX0_paintSquare_0 : decode cX0_paintSquare 0 = .ok (.iload_n 2, 1) := by decide +kernel
theorem dX0_paintSquare_1 : decode cX0_paintSquare 1 = .ok (.istore 4, 2) := by decide +kernel
theorem dX0_paintSquare_3 : decode cX0_paintSquare 3 = .ok (.iload 4, 2) := by decide +kernel
theorem dX0_paintSquare_5 : decode cX0_paintSquare 5 = .ok (.iload_n 2, 1) := by decide +kernel
theorem dX0_paintSquare_6 : decode cX0_paintSquare 6 = .ok (.bipush 8, 2) := by decide +kernel
theorem dX0_paintSquare_8 : decode cX0_paintSquare 8 = .ok (.iadd, 1) := by decide +kernel
theorem dX0_paintSquare_9 : decode cX0_paintSquare 9 = .ok (.if_icmp .ge 67, 3) := by decide +kernel
theorem dX0_paintSquare_12 : decode cX0_paintSquare 12 = .ok (.iload 4, 2) := by decide +kernel
theorem dX0_paintSquare_14 : decode cX0_paintSquare 14 = .ok (.aload_n 0, 1) := by decide +kernel
theorem dX0_paintSquare_15 : decode cX0_paintSquare 15 = .ok (.iconst 0, 1) := by decide +kernel
theorem dX0_paintSquare_16 : decode cX0_paintSquare 16 = .ok (.invokevirtual 180, 3) := by decide +kernel
theorem dX0_paintSquare_19 : decode cX0_paintSquare 19 = .ok (.if_icmp .ge 57, 3) := by decide +kernel
theorem dX0_paintSquare_22 : decode cX0_paintSquare 22 = .ok (.iload_n 1, 1) := by decide +kernel
theorem dX0_paintSquare_23 : decode cX0_paintSquare 23 = .ok (.istore 5, 2) := by decide +kernel
theorem dX0_paintSquare_25 : decode cX0_paintSquare 25 = .ok (.iload 5, 2) := by decide +kernel
theorem dX0_paintSquare_27 : decode cX0_paintSquare 27 = .ok (.iload_n 1, 1) := by decide +kernel
theorem dX0_paintSquare_28 : decode cX0_paintSquare 28 = .ok (.bipush 8, 2) := by decide +kernel
theorem dX0_paintSquare_30 : decode cX0_paintSquare 30 = .ok (.iadd, 1) := by decide +kernel
theorem dX0_paintSquare_31 : decode cX0_paintSquare 31 = .ok (.if_icmp .ge 39, 3) := by decide +kernel
theorem dX0_paintSquare_34 : decode cX0_paintSquare 34 = .ok (.iload 5, 2) := by decide +kernel
theorem dX0_paintSquare_36 : decode cX0_paintSquare 36 = .ok (.aload_n 0, 1) := by decide +kernel
theorem dX0_paintSquare_37 : decode cX0_paintSquare 37 = .ok (.iconst 0, 1) := by decide +kernel
theorem dX0_paintSquare_38 : decode cX0_paintSquare 38 = .ok (.invokevirtual 176, 3) := by decide +kernel
theorem dX0_paintSquare_41 : decode cX0_paintSquare 41 = .ok (.if_icmp .ge 29, 3) := by decide +kernel
theorem dX0_paintSquare_44 : decode cX0_paintSquare 44 = .ok (.aload_n 0, 1) := by decide +kernel
theorem dX0_paintSquare_45 : decode cX0_paintSquare 45 = .ok (.getfield 66, 3) := by decide +kernel
theorem dX0_paintSquare_48 : decode cX0_paintSquare 48 = .ok (.bipush 9, 2) := by decide +kernel
theorem dX0_paintSquare_50 : decode cX0_paintSquare 50 = .ok (.aaload, 1) := by decide +kernel
theorem dX0_paintSquare_51 : decode cX0_paintSquare 51 = .ok (.iload 4, 2) := by decide +kernel
theorem dX0_paintSquare_53 : decode cX0_paintSquare 53 = .ok (.aload_n 0, 1) := by decide +kernel
theorem dX0_paintSquare_54 : decode cX0_paintSquare 54 = .ok (.iconst 0, 1) := by decide +kernel
theorem dX0_paintSquare_55 : decode cX0_paintSquare 55 = .ok (.invokevirtual 176, 3) := by decide +kernel
theorem dX0_paintSquare_58 : decode cX0_paintSquare 58 = .ok (.imul, 1) := by decide +kernel
theorem dX0_paintSquare_59 : decode cX0_paintSquare 59 = .ok (.iload 5, 2) := by decide +kernel
theorem dX0_paintSquare_61 : decode cX0_paintSquare 61 = .ok (.iadd, 1) := by decide +kernel
theorem dX0_paintSquare_62 : decode cX0_paintSquare 62 = .ok (.iload_n 3, 1) := by decide +kernel
theorem dX0_paintSquare_63 : decode cX0_paintSquare 63 = .ok (.iastore, 1) := by decide +kernel
theorem dX0_paintSquare_64 : decode cX0_paintSquare 64 = .ok (.iinc 5 1, 3) := by decide +kernel
theorem dX0_paintSquare_67 : decode cX0_paintSquare 67 = .ok (.goto (-42), 3) := by decide +kernel
theorem dX0_paintSquare_70 : decode cX0_paintSquare 70 = .ok (.iinc 4 1, 3) := by decide +kernel
theorem dX0_paintSquare_73 : decode cX0_paintSquare 73 = .ok (.goto (-70), 3) := by decide +kernel
theorem dX0_paintSquare_76 : decode cX0_paintSquare 76 = .ok (.return_, 1) := by decide +kernel
def FX0_paintSquare (G : GG) (M : DD) (a : Nat) (p0 : Int32) (p1 : Int32) (p2 : Int32) : Option (DD) :=
  bnd (itr (fun (s2 : Int32 × DD) => ((ltt ((p1 + ((8 : Int32)))) fun x5 =>
  if x5 ≤ s2.1 then (some (.inr (s2.1, s2.2))) else
  (bnd (FX0_high G s2.2 a ((0 : Int32))) fun y7 =>
  if y7.2 ≤ s2.1 then (some (.inr (s2.1, y7.1))) else
  (bnd (itr (fun (s10 : Int32 × DD) => ((ltt ((p0 + ((8 : Int32)))) fun x14 =>
  if x14 ≤ s10.1 then (some (.inr (s10.1, s10.2))) else
  (bnd (FX0_wide G s10.2 a ((0 : Int32))) fun y16 =>
  if y16.2 ≤ s10.1 then (some (.inr (s10.1, y16.1))) else
  (dr G 15 ((y16.1.2 a 8)) fun b18 =>
  chk (¬ (((9 : Int32)) < 0 ∨ G.2.2 b18 ≤ ((9 : Int32)).toNatClampNeg)) <|
  bnd (FX0_wide G y16.1 a ((0 : Int32))) fun y19 =>
  ltt ((s2.1 * y19.2)) fun x20 =>
  ltt ((x20 + s10.1)) fun x21 =>
  dr G 13 ((y16.1.2 b18 ((9 : Int32)).toNatClampNeg)) fun b22 =>
  chk (¬ (x21 < 0 ∨ G.2.2 b22 ≤ x21.toNatClampNeg)) <|
  ltt (uI y19.1 b22 x21.toNatClampNeg p2) fun M23 =>
  ltt (s10.1 + (1 : Int32)) fun x24 =>
  some (.inl (x24, M23))))) : Option ((Int32 × DD) ⊕ (Int32 × DD)))) 1000000 (p0, y7.1)) fun (y9 : Int32 × DD) =>
  ltt (s2.1 + (1 : Int32)) fun x12 =>
  some (.inl (x12, y9.2))))) : Option ((Int32 × DD) ⊕ (Int32 × DD)))) 1000000 (p1, M)) fun (y1 : Int32 × DD) =>
  some y1.2
set_option maxHeartbeats 4000000 in
set_option maxRecDepth 100000 in
theorem kX0_paintSquare (l : Launch) (D : va_G) (ct : CT) (ad : Nat → Nat) (Z : Nat → Nat) (G : GG) (M : DD) (sz : Nat) (a : Nat) (p0 : Int32) (p1 : Int32) (p2 : Int32) (y : DD) (hc : a < G.1) (hk : G.2.1 a = 0) (hF : FX0_paintSquare G M a p0 p1 p2 = some y) : Met l yX0_paintSquare wsX0_paintSquare ({ frames := 1, cells := 0, slots := 0, locals := 21 }) (va_Pc [.ref (ad a), .int p0, .int p1, .int p2] (kB D ct ad Z G M sz)) (va_Qv (fun (_ : Unit) => True) (fun _ t => kE D ct ad G (wA ad G sz) y t) (wA ad G sz)) 0 0 (wA ad G sz) := by
  refine Met.ofW (cc := cX0_paintSquare) (maxL := 6) (ret := none) (by decide) rfl ?_
  intro p e s m args below meth c s₁ B hml hv
  obtain ⟨rfl, hsz, hP, hK, hD0, hZ, hN⟩ := hv
  have hx := B.exec
  have hb := B.bytes
  have hr := B.returns
  have hts := atoms_spec (ws := wsX0_paintSquare) B.pre
  have hown : s.vm.findClass RX0 = some m.cls := findClass_of_methodNamed B.named
  have hlocks := B.notSynchronized
  subst hsz
  have hD := wD_self (sz := s.heap.size) hD0
  have hA9 : ∀ q, s.heap.size ≤ q → wA ad G s.heap.size q := fun q h => Or.inr h
  generalize hAe : wA ad G s.heap.size = A at hD hA9 hZ ⊢
  have hS : va_S A s.heap s.heap [] := va_S.rf
  have hl := lv_entry ([.ref (ad a), .int p0, .int p1, .int p2]) (n := 6) (Nat.le_of_ble_eq_true rfl)
  rw [lg_entry_eq]
  generalize (lg_sl ([.ref (ad a), .int p0, .int p1, .int p2]) ++ List.replicate (6 - (lg_sl ([.ref (ad a), .int p0, .int p1, .int p2])).length) Slot.unset).toArray = ls at hl ⊢
  have hl : lv_has ls 6 [(0, .ref (ad a)), (1, .int p0), (2, .int p1), (3, .int p2)] := hl
  unfold FX0_paintSquare at hF
  refine lv_iload_n hx hb dX0_paintSquare_0 rfl (lv_at hl 2 rfl) ?_
  refine lv_istore (lv' := [(4, .int p1), (0, .ref (ad a)), (1, .int p0), (2, .int p1), (3, .int p2)]) hx hb dX0_paintSquare_1 hl (by decide) rfl (fun ls hl => ?_)
  obtain ⟨y1, hy1, hF⟩ := bnd_some hF
  have K1 : ∀ (H : Heap) (locs : List Loc) (ls : Array Slot), va_P D classes (wld ct ad G y1.2) H → va_D A (wld ct ad G y1.2) → va_S A s.heap H locs → lv_has ls 6 [(4, .int y1.1), (0, .ref (ad a)), (1, .int p0), (2, .int p1), (3, .int p2)] → W p l e (headSpec wsX0_paintSquare ({ frames := 1, cells := 0, slots := 0, locals := 21 })).room s m ([.ref (ad a), .int p0, .int p1, .int p2] : List Value).toArray below meth c H locs 0 0 (MQ below (va_Qv (fun (_ : Unit) => True) (fun _ t => kE D ct ad G A y t) A) ([.ref (ad a), .int p0, .int p1, .int p2] : List Value).toArray s 0 0 A) (F0 m 76 ls []) := by
    intro H locs ls hP hD hS hl
    obtain rfl := Option.some.inj hF
    exact W.vret hx hb hr (fun t ht hW => ⟨⟨(), rfl, trivial, ⟨by rw [ht]; exact hP, va_K.moved hW.alike hK, hD⟩⟩, hS.F ht⟩) hS.2.2 dX0_paintSquare_76
  clear hF
  refine itr_rule (fun (s2 : Int32 × DD) => ∀ (H : Heap) (locs : List Loc) (ls : Array Slot), va_P D classes (wld ct ad G s2.2) H → va_D A (wld ct ad G s2.2) → va_S A s.heap H locs → lv_has ls 6 [(4, .int s2.1), (0, .ref (ad a)), (1, .int p0), (2, .int p1), (3, .int p2)] → W p l e (headSpec wsX0_paintSquare ({ frames := 1, cells := 0, slots := 0, locals := 21 })).room s m ([.ref (ad a), .int p0, .int p1, .int p2] : List Value).toArray below meth c H locs 0 0 (MQ below (va_Qv (fun (_ : Unit) => True) (fun _ t => kE D ct ad G A y t) A) ([.ref (ad a), .int p0, .int p1, .int p2] : List Value).toArray s 0 0 A) (F0 m 3 ls [])) ?_ _ _ hy1 _ _ _ hP hD hS (lv_sub hl [0, 1, 2, 3, 4] rfl)
  rintro s2 ⟨z4, hF, hwz4⟩ H locs ls hP hD hS hl
  try dsimp only at hF
  refine lv_iload hx hb dX0_paintSquare_3 (lv_at hl 0 rfl) ?_
  refine lv_iload_n hx hb dX0_paintSquare_5 rfl (lv_at hl 3 rfl) ?_
  refine lv_bipush (v := (8 : Int32)) hx hb dX0_paintSquare_6 (by decide) ?_
  refine lv_iadd hx hb dX0_paintSquare_8 ?_
  obtain ⟨x5, ex5, hF⟩ := ltt_some hF
  refine lv_topi (fun zx5 ezx5 => ?_)
  obtain rfl : x5 = zx5 := ex5.trans ezx5.symm
  refine lv_icmp_ge (tgt := 76) hx hb dX0_paintSquare_9 (by decide) (fun c6 => ?_) (fun c6 => ?_)
  · rw [if_pos c6] at hF
    obtain rfl := Option.some.inj hF
    subst hwz4
    exact K1 _ _ _ hP hD hS (lv_sub hl [0, 1, 2, 3, 4] rfl)
  · rw [if_neg c6] at hF
    refine lv_iload hx hb dX0_paintSquare_12 (lv_at hl 0 rfl) ?_
    refine lv_aload_n hx hb dX0_paintSquare_14 rfl (lv_at hl 1 rfl) ?_
    refine lv_iconst (v := (0 : Int32)) hx hb dX0_paintSquare_15 (by decide) ?_
    obtain ⟨y7, hy7, hF⟩ := bnd_some hF
    have hf9 := wA_in hD hA9 hS
    refine va_calli (va_runV (As := [.int (0 : Int32)]) (rest := [.int s2.1]) ⟨hx, hb, hml, hown, hts⟩ (kX0_high l D ct ad Z G s2.2 H.size a ((0 : Int32)) y7 hc hk hy7) (cwV 1 hts gX0_paintSquare_X0_high rfl rfl rfl (by decide +kernel) ⟨Nat.le_of_ble_eq_true rfl, Nat.le_of_ble_eq_true rfl⟩) ⟨fun a U g mk q => by obtain ⟨q0, q1, qP, qK, qD, qZ, qN⟩ := q; exact ⟨q0, q1, qP, va_K.moved (u := U) (U := U.calling g mk a) (Vm.Alike.refl U.vm) qK, qD, sF.moved (u := U) (U := U.calling g mk a) (Vm.Alike.refl U.vm) qZ, nF.same rfl qN⟩, va_recv hK hP (ci := 0) (q0 := a) rfl (wld_o ct ad G s2.2 hc hk (by decide)), fun U hU hW => ⟨rfl, by rw [hU], by rw [hU]; exact hP, va_K.moved hW.alike hK, hD.weaken (fun _ _ _ _ => trivial), by rw [hU]; exact ((hZ.kept hS.2.1).narrow hf9).moved hW.alike, hN.warm hW⟩⟩ rfl rfl hl.1 rfl (lv_room (Nat.le_of_ble_eq_true rfl)) dX0_paintSquare_16 ⟨(Nat.zero_le _), (Nat.zero_le _)⟩) hS (fun q _ h => hf9 q h) hf9 (fun r u t H locs ht hvm hw hB hz1 hk1 hS => ?_)
    obtain ⟨hP, hK9, hD9⟩ := hB
    rw [ht] at hP
    try dsimp only at hw
    subst hw
    have hD := hD9.weaken (fun _ q _ h => hf9 q.1 h)
    refine lv_icmp_ge (tgt := 76) hx hb dX0_paintSquare_19 (by decide) (fun c8 => ?_) (fun c8 => ?_)
    · rw [if_pos c8] at hF
      obtain rfl := Option.some.inj hF
      subst hwz4
      exact K1 _ _ _ hP hD hS (lv_sub hl [0, 1, 2, 3, 4] rfl)
    · rw [if_neg c8] at hF
      refine lv_iload_n hx hb dX0_paintSquare_22 rfl (lv_at hl 2 rfl) ?_
      refine lv_istore (lv' := [(5, .int p0), (4, .int s2.1), (0, .ref (ad a)), (1, .int p0), (2, .int p1), (3, .int p2)]) hx hb dX0_paintSquare_23 hl (by decide) rfl (fun ls hl => ?_)
      obtain ⟨y9, hy9, hF⟩ := bnd_some hF
      have K9 : ∀ (H : Heap) (locs : List Loc) (ls : Array Slot), va_P D classes (wld ct ad G y9.2) H → va_D A (wld ct ad G y9.2) → va_S A s.heap H locs → lv_has ls 6 [(5, .int y9.1), (4, .int s2.1), (0, .ref (ad a)), (1, .int p0), (2, .int p1), (3, .int p2)] → W p l e (headSpec wsX0_paintSquare ({ frames := 1, cells := 0, slots := 0, locals := 21 })).room s m ([.ref (ad a), .int p0, .int p1, .int p2] : List Value).toArray below meth c H locs 0 0 (MQ below (va_Qv (fun (_ : Unit) => True) (fun _ t => kE D ct ad G A y t) A) ([.ref (ad a), .int p0, .int p1, .int p2] : List Value).toArray s 0 0 A) (F0 m 70 ls []) := by
        intro H locs ls hP hD hS hl
        obtain ⟨x12, ex12, hF⟩ := ltt_some hF
        refine lv_iinc (v := x12) (lv' := [(4, .int x12), (5, .int y9.1), (0, .ref (ad a)), (1, .int p0), (2, .int p1), (3, .int p2)]) hx hb dX0_paintSquare_70 hl (k := 1) rfl (by rw [ex12]; rfl) (by decide) rfl (fun ls hl => ?_)
        refine lv_goto (tgt := 3) hx hb dX0_paintSquare_73 (by decide) ?_
        obtain rfl := Option.some.inj hF
        exact hwz4 _ _ _ hP hD hS (lv_sub hl [0, 2, 3, 4, 5] rfl)
      clear hF
      refine itr_rule (fun (s10 : Int32 × DD) => ∀ (H : Heap) (locs : List Loc) (ls : Array Slot), va_P D classes (wld ct ad G s10.2) H → va_D A (wld ct ad G s10.2) → va_S A s.heap H locs → lv_has ls 6 [(5, .int s10.1), (4, .int s2.1), (0, .ref (ad a)), (1, .int p0), (2, .int p1), (3, .int p2)] → W p l e (headSpec wsX0_paintSquare ({ frames := 1, cells := 0, slots := 0, locals := 21 })).room s m ([.ref (ad a), .int p0, .int p1, .int p2] : List Value).toArray below meth c H locs 0 0 (MQ below (va_Qv (fun (_ : Unit) => True) (fun _ t => kE D ct ad G A y t) A) ([.ref (ad a), .int p0, .int p1, .int p2] : List Value).toArray s 0 0 A) (F0 m 25 ls [])) ?_ _ _ hy9 _ _ _ hP hD hS (lv_sub hl [0, 1, 2, 3, 4, 5] rfl)
      rintro s10 ⟨z13, hF, hwz13⟩ H locs ls hP hD hS hl
      try dsimp only at hF
      refine lv_iload hx hb dX0_paintSquare_25 (lv_at hl 0 rfl) ?_
      refine lv_iload_n hx hb dX0_paintSquare_27 rfl (lv_at hl 3 rfl) ?_
      refine lv_bipush (v := (8 : Int32)) hx hb dX0_paintSquare_28 (by decide) ?_
      refine lv_iadd hx hb dX0_paintSquare_30 ?_
      obtain ⟨x14, ex14, hF⟩ := ltt_some hF
      refine lv_topi (fun zx14 ezx14 => ?_)
      obtain rfl : x14 = zx14 := ex14.trans ezx14.symm
      refine lv_icmp_ge (tgt := 70) hx hb dX0_paintSquare_31 (by decide) (fun c15 => ?_) (fun c15 => ?_)
      · rw [if_pos c15] at hF
        obtain rfl := Option.some.inj hF
        subst hwz13
        exact K9 _ _ _ hP hD hS (lv_sub hl [0, 1, 2, 3, 4, 5] rfl)
      · rw [if_neg c15] at hF
        refine lv_iload hx hb dX0_paintSquare_34 (lv_at hl 0 rfl) ?_
        refine lv_aload_n hx hb dX0_paintSquare_36 rfl (lv_at hl 2 rfl) ?_
        refine lv_iconst (v := (0 : Int32)) hx hb dX0_paintSquare_37 (by decide) ?_
        obtain ⟨y16, hy16, hF⟩ := bnd_some hF
        have hf9 := wA_in hD hA9 hS
        refine va_calli (va_runV (As := [.int (0 : Int32)]) (rest := [.int s10.1]) ⟨hx, hb, hml, hown, hts⟩ (kX0_wide l D ct ad Z G s10.2 H.size a ((0 : Int32)) y16 hc hk hy16) (cwV 1 hts gX0_paintSquare_X0_wide rfl rfl rfl (by decide +kernel) ⟨Nat.le_of_ble_eq_true rfl, Nat.le_of_ble_eq_true rfl⟩) ⟨fun a U g mk q => by obtain ⟨q0, q1, qP, qK, qD, qZ, qN⟩ := q; exact ⟨q0, q1, qP, va_K.moved (u := U) (U := U.calling g mk a) (Vm.Alike.refl U.vm) qK, qD, sF.moved (u := U) (U := U.calling g mk a) (Vm.Alike.refl U.vm) qZ, nF.same rfl qN⟩, va_recv hK hP (ci := 0) (q0 := a) rfl (wld_o ct ad G s10.2 hc hk (by decide)), fun U hU hW => ⟨rfl, by rw [hU], by rw [hU]; exact hP, va_K.moved hW.alike hK, hD.weaken (fun _ _ _ _ => trivial), by rw [hU]; exact ((hZ.kept hS.2.1).narrow hf9).moved hW.alike, hN.warm hW⟩⟩ rfl rfl hl.1 rfl (lv_room (Nat.le_of_ble_eq_true rfl)) dX0_paintSquare_38 ⟨(Nat.zero_le _), (Nat.zero_le _)⟩) hS (fun q _ h => hf9 q h) hf9 (fun r u t H locs ht hvm hw hB hz1 hk1 hS => ?_)
        obtain ⟨hP, hK9, hD9⟩ := hB
        rw [ht] at hP
        try dsimp only at hw
        subst hw
        have hD := hD9.weaken (fun _ q _ h => hf9 q.1 h)
        refine lv_icmp_ge (tgt := 70) hx hb dX0_paintSquare_41 (by decide) (fun c17 => ?_) (fun c17 => ?_)
        · rw [if_pos c17] at hF
          obtain rfl := Option.some.inj hF
          subst hwz13
          exact K9 _ _ _ hP hD hS (lv_sub hl [0, 1, 2, 3, 4, 5] rfl)
        · rw [if_neg c17] at hF
          refine lv_aload_n hx hb dX0_paintSquare_44 rfl (lv_at hl 2 rfl) ?_
          refine va_get (D := D) (ci := 0) (v := va_re ad (y16.1.2 a 8)) (C := RX0) (T := TX0) (N := 21) hx hb hts (by decide +kernel) hown hK hP a (wld_o ct ad G y16.1 hc hk (by decide)) rfl 8 (by decide) (hts (.fieldLink RX0 66 "VideoSuite$Coder" "planes" "[[I") (by decide +kernel)) (fun _ h9 => h9) rfl dX0_paintSquare_45 ?_
          refine lv_bipush (v := (9 : Int32)) hx hb dX0_paintSquare_48 (by decide) ?_
          obtain ⟨b18, ho18, hc18, hk18, hF⟩ := dr_some hF
          refine W_st (st' := [.int (9 : Int32), .ref (ad b18)]) (by rw [va_some ho18]) ?_
          obtain ⟨hvc, hF⟩ := chk_some hF
          refine ld_g hx hb hK hP hc18 hk18 hvc dX0_paintSquare_50 ?_
          refine lv_iload hx hb dX0_paintSquare_51 (lv_at hl 1 rfl) ?_
          refine lv_aload_n hx hb dX0_paintSquare_53 rfl (lv_at hl 2 rfl) ?_
          refine lv_iconst (v := (0 : Int32)) hx hb dX0_paintSquare_54 (by decide) ?_
          obtain ⟨y19, hy19, hF⟩ := bnd_some hF
          have hf9 := wA_in hD hA9 hS
          refine va_calli (va_runV (As := [.int (0 : Int32)]) (rest := [.int s2.1, va_re ad (y16.1.2 b18 ((9 : Int32)).toNatClampNeg)]) ⟨hx, hb, hml, hown, hts⟩ (kX0_wide l D ct ad Z G y16.1 H.size a ((0 : Int32)) y19 hc hk hy19) (cwV 1 hts gX0_paintSquare_X0_wide rfl rfl rfl (by decide +kernel) ⟨Nat.le_of_ble_eq_true rfl, Nat.le_of_ble_eq_true rfl⟩) ⟨fun a U g mk q => by obtain ⟨q0, q1, qP, qK, qD, qZ, qN⟩ := q; exact ⟨q0, q1, qP, va_K.moved (u := U) (U := U.calling g mk a) (Vm.Alike.refl U.vm) qK, qD, sF.moved (u := U) (U := U.calling g mk a) (Vm.Alike.refl U.vm) qZ, nF.same rfl qN⟩, va_recv hK hP (ci := 0) (q0 := a) rfl (wld_o ct ad G y16.1 hc hk (by decide)), fun U hU hW => ⟨rfl, by rw [hU], by rw [hU]; exact hP, va_K.moved hW.alike hK, hD.weaken (fun _ _ _ _ => trivial), by rw [hU]; exact ((hZ.kept hS.2.1).narrow hf9).moved hW.alike, hN.warm hW⟩⟩ rfl rfl hl.1 rfl (lv_room (by simp only [List.map, va_re_cat]; exact Nat.le_of_ble_eq_true rfl)) dX0_paintSquare_55 ⟨(Nat.zero_le _), (Nat.zero_le _)⟩) hS (fun q _ h => hf9 q h) hf9 (fun r u t H locs ht hvm hw hB hz1 hk1 hS => ?_)
          obtain ⟨hP, hK9, hD9⟩ := hB
          rw [ht] at hP
          try dsimp only at hw
          subst hw
          have hD := hD9.weaken (fun _ q _ h => hf9 q.1 h)
          refine lv_imul hx hb dX0_paintSquare_58 ?_
          obtain ⟨x20, ex20, hF⟩ := ltt_some hF
          refine lv_topi (fun zx20 ezx20 => ?_)
          obtain rfl : x20 = zx20 := ex20.trans ezx20.symm
          refine lv_iload hx hb dX0_paintSquare_59 (lv_at hl 0 rfl) ?_
          refine lv_iadd hx hb dX0_paintSquare_61 ?_
          obtain ⟨x21, ex21, hF⟩ := ltt_some hF
          refine lv_topi (fun zx21 ezx21 => ?_)
          obtain rfl : x21 = zx21 := ex21.trans ezx21.symm
          refine lv_iload_n hx hb dX0_paintSquare_62 rfl (lv_at hl 5 rfl) ?_
          obtain ⟨b22, ho22, hc22, hk22, hF⟩ := dr_some hF
          refine W_st (st' := [.int p2, .int x21, .ref (ad b22)]) (by rw [va_some ho22]) ?_
          obtain ⟨hvc, hF⟩ := chk_some hF
          refine va_iast hx hb hK hP hD hS b22 1 (wld_i ct ad G y19.1 hc22 hk22) rfl hvc dX0_paintSquare_63 (fun H locs hP hD hS => ?_)
          obtain ⟨M23, eM23, hF⟩ := ltt_some hF
          rw [set_i ct ad G y19.1 hc22 hk22, ← eM23] at hP hD
          obtain ⟨x24, ex24, hF⟩ := ltt_some hF
          refine lv_iinc (v := x24) (lv' := [(5, .int x24), (4, .int s2.1), (0, .ref (ad a)), (1, .int p0), (2, .int p1), (3, .int p2)]) hx hb dX0_paintSquare_64 hl (k := 0) rfl (by rw [ex24]; rfl) (by decide) rfl (fun ls hl => ?_)
          refine lv_goto (tgt := 25) hx hb dX0_paintSquare_67 (by decide) ?_
          obtain rfl := Option.some.inj hF
          exact hwz13 _ _ _ hP hD hS (lv_sub hl [0, 1, 2, 3, 4, 5] rfl)
theorem ggX0_setVector_X9_setMove : GoodIn wsX0_setVector wsX9_setMove := goodIn_r _ [9, 10, 11, 12, 13, 14, 8, 15, 16, 17, 18, 19, 20, 21, 22, 44, 45, 46, 47, 48, 49, 50, 51, 52, 53, 54, 55, 56, 57, 58, 59, 60, 61, 62, 63, 64, 65, 66, 67, 68, 69, 70, 71, 72, 73, 74, 75, 76, 77, 78, 79, 80, 81] (by decide +kernel) (by decide +kernel)
set_option maxRecDepth 20000 in
theorem gX0_setVector_X9_setMove : GoodIn wsX0_setVector (wsV RX0 432 RX9 yX9_setMove wsX9_setMove) := goodIn_app (goodIn_of _ (by decide +kernel)) ggX0_setVector_X9_setMove
theorem dX0_setVector_0 : decode cX0_setVector 0 = .ok (.aload_n 0, 1) := by decide +kernel
theorem dX0_setVector_1 : decode cX0_setVector 1 = .ok (.getfield 36, 3) := by decide +kernel
theorem dX0_setVector_4 : decode cX0_setVector 4 = .ok (.getfield 429, 3) := by decide +kernel
theorem dX0_setVector_7 : decode cX0_setVector 7 = .ok (.iconst 2, 1) := by decide +kernel
theorem dX0_setVector_8 : decode cX0_setVector 8 = .ok (.bipush 16, 2) := by decide +kernel
theorem dX0_setVector_10 : decode cX0_setVector 10 = .ok (.iload_n 2, 1) := by decide +kernel
theorem dX0_setVector_11 : decode cX0_setVector 11 = .ok (.imul, 1) := by decide +kernel
theorem dX0_setVector_12 : decode cX0_setVector 12 = .ok (.iload_n 3, 1) := by decide +kernel
theorem dX0_setVector_13 : decode cX0_setVector 13 = .ok (.iadd, 1) := by decide +kernel
theorem dX0_setVector_14 : decode cX0_setVector 14 = .ok (.imul, 1) := by decide +kernel
theorem dX0_setVector_15 : decode cX0_setVector 15 = .ok (.iload 4, 2) := by decide +kernel
theorem dX0_setVector_17 : decode cX0_setVector 17 = .ok (.aload_n 0, 1) := by decide +kernel
theorem dX0_setVector_18 : decode cX0_setVector 18 = .ok (.getfield 36, 3) := by decide +kernel
theorem dX0_setVector_21 : decode cX0_setVector 21 = .ok (.getfield 419, 3) := by decide +kernel
theorem dX0_setVector_24 : decode cX0_setVector 24 = .ok (.isub, 1) := by decide +kernel
theorem dX0_setVector_25 : decode cX0_setVector 25 = .ok (.iastore, 1) := by decide +kernel
theorem dX0_setVector_26 : decode cX0_setVector 26 = .ok (.aload_n 0, 1) := by decide +kernel
theorem dX0_setVector_27 : decode cX0_setVector 27 = .ok (.getfield 36, 3) := by decide +kernel
theorem dX0_setVector_30 : decode cX0_setVector 30 = .ok (.getfield 429, 3) := by decide +kernel
theorem dX0_setVector_33 : decode cX0_setVector 33 = .ok (.iconst 2, 1) := by decide +kernel
theorem dX0_setVector_34 : decode cX0_setVector 34 = .ok (.bipush 16, 2) := by decide +kernel
theorem dX0_setVector_36 : decode cX0_setVector 36 = .ok (.iload_n 2, 1) := by decide +kernel
theorem dX0_setVector_37 : decode cX0_setVector 37 = .ok (.imul, 1) := by decide +kernel
theorem dX0_setVector_38 : decode cX0_setVector 38 = .ok (.iload_n 3, 1) := by decide +kernel
theorem dX0_setVector_39 : decode cX0_setVector 39 = .ok (.iadd, 1) := by decide +kernel
theorem dX0_setVector_40 : decode cX0_setVector 40 = .ok (.imul, 1) := by decide +kernel
theorem dX0_setVector_41 : decode cX0_setVector 41 = .ok (.iconst 1, 1) := by decide +kernel
theorem dX0_setVector_42 : decode cX0_setVector 42 = .ok (.iadd, 1) := by decide +kernel
theorem dX0_setVector_43 : decode cX0_setVector 43 = .ok (.iload 5, 2) := by decide +kernel
theorem dX0_setVector_45 : decode cX0_setVector 45 = .ok (.aload_n 0, 1) := by decide +kernel
theorem dX0_setVector_46 : decode cX0_setVector 46 = .ok (.getfield 36, 3) := by decide +kernel
theorem dX0_setVector_49 : decode cX0_setVector 49 = .ok (.getfield 422, 3) := by decide +kernel
theorem dX0_setVector_52 : decode cX0_setVector 52 = .ok (.isub, 1) := by decide +kernel
theorem dX0_setVector_53 : decode cX0_setVector 53 = .ok (.iastore, 1) := by decide +kernel
theorem dX0_setVector_54 : decode cX0_setVector 54 = .ok (.aload_n 0, 1) := by decide +kernel
theorem dX0_setVector_55 : decode cX0_setVector 55 = .ok (.getfield 36, 3) := by decide +kernel
theorem dX0_setVector_58 : decode cX0_setVector 58 = .ok (.iload_n 1, 1) := by decide +kernel
theorem dX0_setVector_59 : decode cX0_setVector 59 = .ok (.iload_n 2, 1) := by decide +kernel
theorem dX0_setVector_60 : decode cX0_setVector 60 = .ok (.iload_n 3, 1) := by decide +kernel
theorem dX0_setVector_61 : decode cX0_setVector 61 = .ok (.iload 4, 2) := by decide +kernel
theorem dX0_setVector_63 : decode cX0_setVector 63 = .ok (.iload 5, 2) := by decide +kernel
theorem dX0_setVector_65 : decode cX0_setVector 65 = .ok (.invokevirtual 432, 3) := by decide +kernel
theorem dX0_setVector_68 : decode cX0_setVector 68 = .ok (.return_, 1) := by decide +kernel
def FX0_setVector (G : GG) (M : DD) (a : Nat) (p0 : Int32) (p1 : Int32) (p2 : Int32) (p3 : Int32) (p4 : Int32) : Option (DD) :=
  dr G 9 ((M.2 a 3)) fun b2 =>
  ltt ((((16 : Int32)) * p1)) fun x3 =>
  ltt ((x3 + p2)) fun x4 =>
  ltt ((((2 : Int32)) * x4)) fun x5 =>
  ltt (M.1 b2 18) fun x6 =>
  ltt ((p3 - x6)) fun x7 =>
  dr G 13 ((M.2 b2 17)) fun b8 =>
  chk (¬ (x5 < 0 ∨ G.2.2 b8 ≤ x5.toNatClampNeg)) <|
  ltt (uI M b8 x5.toNatClampNeg x7) fun M9 =>
  dr G 9 ((M9.2 a 3)) fun b10 =>
  ltt ((((16 : Int32)) * p1)) fun x11 =>
  ltt ((x11 + p2)) fun x12 =>
  ltt ((((2 : Int32)) * x12)) fun x13 =>
  ltt ((x13 + ((1 : Int32)))) fun x14 =>
  ltt (M9.1 b10 19) fun x15 =>
  ltt ((p4 - x15)) fun x16 =>
  dr G 13 ((M9.2 b10 17)) fun b17 =>
  chk (¬ (x14 < 0 ∨ G.2.2 b17 ≤ x14.toNatClampNeg)) <|
  ltt (uI M9 b17 x14.toNatClampNeg x16) fun M18 =>
  dr G 9 ((M18.2 a 3)) fun b19 =>
  bnd (FX9_setMove G M18 b19 p0 p1 p2 p3 p4) fun y20 =>
  some y20
set_option maxHeartbeats 4000000 in
set_option maxRecDepth 100000 in
theorem kX0_setVector (l : Launch) (D : va_G) (ct : CT) (ad : Nat → Nat) (Z : Nat → Nat) (G : GG) (M : DD) (sz : Nat) (a : Nat) (p0 : Int32) (p1 : Int32) (p2 : Int32) (p3 : Int32) (p4 : Int32) (y : DD) (hc : a < G.1) (hk : G.2.1 a = 0) (hF : FX0_setVector G M a p0 p1 p2 p3 p4 = some y) : Met l yX0_setVector wsX0_setVector ({ frames := 2, cells := 0, slots := 0, locals := 52 }) (va_Pc [.ref (ad a), .int p0, .int p1, .int p2, .int p3, .int p4] (kB D ct ad Z G M sz)) (va_Qv (fun (_ : Unit) => True) (fun _ t => kE D ct ad G (wA ad G sz) y t) (wA ad G sz)) 0 0 (wA ad G sz) := by
  refine Met.ofW (cc := cX0_setVector) (maxL := 6) (ret := none) (by decide) rfl ?_
  intro p e s m args below meth c s₁ B hml hv
  obtain ⟨rfl, hsz, hP, hK, hD0, hZ, hN⟩ := hv
  have hx := B.exec
  have hb := B.bytes
  have hr := B.returns
  have hts := atoms_spec (ws := wsX0_setVector) B.pre
  have hown : s.vm.findClass RX0 = some m.cls := findClass_of_methodNamed B.named
  have hlocks := B.notSynchronized
  subst hsz
  have hD := wD_self (sz := s.heap.size) hD0
  have hA9 : ∀ q, s.heap.size ≤ q → wA ad G s.heap.size q := fun q h => Or.inr h
  generalize hAe : wA ad G s.heap.size = A at hD hA9 hZ ⊢
  have hS : va_S A s.heap s.heap [] := va_S.rf
  have hl := lv_entry ([.ref (ad a), .int p0, .int p1, .int p2, .int p3, .int p4]) (n := 6) (Nat.le_of_ble_eq_true rfl)
  rw [lg_entry_eq]
  generalize (lg_sl ([.ref (ad a), .int p0, .int p1, .int p2, .int p3, .int p4]) ++ List.replicate (6 - (lg_sl ([.ref (ad a), .int p0, .int p1, .int p2, .int p3, .int p4])).length) Slot.unset).toArray = ls at hl ⊢
  have hl : lv_has ls 6 [(0, .ref (ad a)), (1, .int p0), (2, .int p1), (3, .int p2), (4, .int p3), (5, .int p4)] := hl
  unfold FX0_setVector at hF
  refine lv_aload_n hx hb dX0_setVector_0 rfl (lv_at hl 0 rfl) ?_
  refine va_get (D := D) (ci := 0) (v := va_re ad (M.2 a 3)) (C := RX0) (T := TX0) (N := 21) hx hb hts (by decide +kernel) hown hK hP a (wld_o ct ad G M hc hk (by decide)) rfl 3 (by decide) (hts (.fieldLink RX0 36 "VideoSuite$Coder" "work" "LVideoSuite$Work;") (by decide +kernel)) (fun _ h9 => h9) rfl dX0_setVector_1 ?_
  obtain ⟨b2, ho2, hc2, hk2, hF⟩ := dr_some hF
  refine W_st (st' := [.ref (ad b2)]) (by rw [va_some ho2]) ?_
  refine va_get (D := D) (ci := 9) (v := va_re ad (M.2 b2 17)) (C := RX9) (T := TX9) (N := 20) hx hb hts (by decide +kernel) hown hK hP b2 (wld_o ct ad G M hc2 hk2 (by decide)) rfl 17 (by decide) (hts (.fieldLink RX0 429 "VideoSuite$Work" "difference" "[I") (by decide +kernel)) (fun _ h9 => h9) rfl dX0_setVector_4 ?_
  refine lv_iconst (v := (2 : Int32)) hx hb dX0_setVector_7 (by decide) ?_
  refine lv_bipush (v := (16 : Int32)) hx hb dX0_setVector_8 (by decide) ?_
  refine lv_iload_n hx hb dX0_setVector_10 rfl (lv_at hl 2 rfl) ?_
  refine lv_imul hx hb dX0_setVector_11 ?_
  obtain ⟨x3, ex3, hF⟩ := ltt_some hF
  refine lv_topi (fun zx3 ezx3 => ?_)
  obtain rfl : x3 = zx3 := ex3.trans ezx3.symm
  refine lv_iload_n hx hb dX0_setVector_12 rfl (lv_at hl 3 rfl) ?_
  refine lv_iadd hx hb dX0_setVector_13 ?_
  obtain ⟨x4, ex4, hF⟩ := ltt_some hF
  refine lv_topi (fun zx4 ezx4 => ?_)
  obtain rfl : x4 = zx4 := ex4.trans ezx4.symm
  refine lv_imul hx hb dX0_setVector_14 ?_
  obtain ⟨x5, ex5, hF⟩ := ltt_some hF
  refine lv_topi (fun zx5 ezx5 => ?_)
  obtain rfl : x5 = zx5 := ex5.trans ezx5.symm
  refine lv_iload hx hb dX0_setVector_15 (lv_at hl 4 rfl) ?_
  refine lv_aload_n hx hb dX0_setVector_17 rfl (lv_at hl 0 rfl) ?_
  refine va_get (D := D) (ci := 0) (v := va_re ad (M.2 a 3)) (C := RX0) (T := TX0) (N := 21) hx hb hts (by decide +kernel) hown hK hP a (wld_o ct ad G M hc hk (by decide)) rfl 3 (by decide) (hts (.fieldLink RX0 36 "VideoSuite$Coder" "work" "LVideoSuite$Work;") (by decide +kernel)) (fun _ h9 => h9) rfl dX0_setVector_18 ?_
  refine W_st (st' := [.ref (ad b2), .int p3, .int x5, va_re ad (M.2 b2 17)]) (by rw [va_some ho2]) ?_
  refine va_get (D := D) (ci := 9) (v := .int (M.1 b2 18)) (C := RX9) (T := TX9) (N := 20) hx hb hts (by decide +kernel) hown hK hP b2 (wld_o ct ad G M hc2 hk2 (by decide)) rfl 18 (by decide) (hts (.fieldLink RX0 419 "VideoSuite$Work" "guessX" "I") (by decide +kernel)) (fun _ h9 => h9) rfl dX0_setVector_21 ?_
  obtain ⟨x6, ex6, hF⟩ := ltt_some hF
  refine lv_topi (fun zx6 ezx6 => ?_)
  obtain rfl : x6 = zx6 := ex6.trans ezx6.symm
  refine lv_isub hx hb dX0_setVector_24 ?_
  obtain ⟨x7, ex7, hF⟩ := ltt_some hF
  refine lv_topi (fun zx7 ezx7 => ?_)
  obtain rfl : x7 = zx7 := ex7.trans ezx7.symm
  obtain ⟨b8, ho8, hc8, hk8, hF⟩ := dr_some hF
  refine W_st (st' := [.int x7, .int x5, .ref (ad b8)]) (by rw [va_some ho8]) ?_
  obtain ⟨hvc, hF⟩ := chk_some hF
  refine va_iast hx hb hK hP hD hS b8 1 (wld_i ct ad G M hc8 hk8) rfl hvc dX0_setVector_25 (fun H locs hP hD hS => ?_)
  obtain ⟨M9, eM9, hF⟩ := ltt_some hF
  rw [set_i ct ad G M hc8 hk8, ← eM9] at hP hD
  refine lv_aload_n hx hb dX0_setVector_26 rfl (lv_at hl 0 rfl) ?_
  refine va_get (D := D) (ci := 0) (v := va_re ad (M9.2 a 3)) (C := RX0) (T := TX0) (N := 21) hx hb hts (by decide +kernel) hown hK hP a (wld_o ct ad G M9 hc hk (by decide)) rfl 3 (by decide) (hts (.fieldLink RX0 36 "VideoSuite$Coder" "work" "LVideoSuite$Work;") (by decide +kernel)) (fun _ h9 => h9) rfl dX0_setVector_27 ?_
  obtain ⟨b10, ho10, hc10, hk10, hF⟩ := dr_some hF
  refine W_st (st' := [.ref (ad b10)]) (by rw [va_some ho10]) ?_
  refine va_get (D := D) (ci := 9) (v := va_re ad (M9.2 b10 17)) (C := RX9) (T := TX9) (N := 20) hx hb hts (by decide +kernel) hown hK hP b10 (wld_o ct ad G M9 hc10 hk10 (by decide)) rfl 17 (by decide) (hts (.fieldLink RX0 429 "VideoSuite$Work" "difference" "[I") (by decide +kernel)) (fun _ h9 => h9) rfl dX0_setVector_30 ?_
  refine lv_iconst (v := (2 : Int32)) hx hb dX0_setVector_33 (by decide) ?_
  refine lv_bipush (v := (16 : Int32)) hx hb dX0_setVector_34 (by decide) ?_
  refine lv_iload_n hx hb dX0_setVector_36 rfl (lv_at hl 2 rfl) ?_
  refine lv_imul hx hb dX0_setVector_37 ?_
  obtain ⟨x11, ex11, hF⟩ := ltt_some hF
  refine lv_topi (fun zx11 ezx11 => ?_)
  obtain rfl : x11 = zx11 := ex11.trans ezx11.symm
  refine lv_iload_n hx hb dX0_setVector_38 rfl (lv_at hl 3 rfl) ?_
  refine lv_iadd hx hb dX0_setVector_39 ?_
  obtain ⟨x12, ex12, hF⟩ := ltt_some hF
  refine lv_topi (fun zx12 ezx12 => ?_)
  obtain rfl : x12 = zx12 := ex12.trans ezx12.symm
  refine lv_imul hx hb dX0_setVector_40 ?_
  obtain ⟨x13, ex13, hF⟩ := ltt_some hF
  refine lv_topi (fun zx13 ezx13 => ?_)
  obtain rfl : x13 = zx13 := ex13.trans ezx13.symm
  refine lv_iconst (v := (1 : Int32)) hx hb dX0_setVector_41 (by decide) ?_
  refine lv_iadd hx hb dX0_setVector_42 ?_
  obtain ⟨x14, ex14, hF⟩ := ltt_some hF
  refine lv_topi (fun zx14 ezx14 => ?_)
  obtain rfl : x14 = zx14 := ex14.trans ezx14.symm
  refine lv_iload hx hb dX0_setVector_43 (lv_at hl 5 rfl) ?_
  refine lv_aload_n hx hb dX0_setVector_45 rfl (lv_at hl 0 rfl) ?_
  refine va_get (D := D) (ci := 0) (v := va_re ad (M9.2 a 3)) (C := RX0) (T := TX0) (N := 21) hx hb hts (by decide +kernel) hown hK hP a (wld_o ct ad G M9 hc hk (by decide)) rfl 3 (by decide) (hts (.fieldLink RX0 36 "VideoSuite$Coder" "work" "LVideoSuite$Work;") (by decide +kernel)) (fun _ h9 => h9) rfl dX0_setVector_46 ?_
  refine W_st (st' := [.ref (ad b10), .int p4, .int x14, va_re ad (M9.2 b10 17)]) (by rw [va_some ho10]) ?_
  refine va_get (D := D) (ci := 9) (v := .int (M9.1 b10 19)) (C := RX9) (T := TX9) (N := 20) hx hb hts (by decide +kernel) hown hK hP b10 (wld_o ct ad G M9 hc10 hk10 (by decide)) rfl 19 (by decide) (hts (.fieldLink RX0 422 "VideoSuite$Work" "guessY" "I") (by decide +kernel)) (fun _ h9 => h9) rfl dX0_setVector_49 ?_
  obtain ⟨x15, ex15, hF⟩ := ltt_some hF
  refine lv_topi (fun zx15 ezx15 => ?_)
  obtain rfl : x15 = zx15 := ex15.trans ezx15.symm
  refine lv_isub hx hb dX0_setVector_52 ?_
  obtain ⟨x16, ex16, hF⟩ := ltt_some hF
  refine lv_topi (fun zx16 ezx16 => ?_)
  obtain rfl : x16 = zx16 := ex16.trans ezx16.symm
  obtain ⟨b17, ho17, hc17, hk17, hF⟩ := dr_some hF
  refine W_st (st' := [.int x16, .int x14, .ref (ad b17)]) (by rw [va_some ho17]) ?_
  obtain ⟨hvc, hF⟩ := chk_some hF
  refine va_iast hx hb hK hP hD hS b17 1 (wld_i ct ad G M9 hc17 hk17) rfl hvc dX0_setVector_53 (fun H locs hP hD hS => ?_)
  obtain ⟨M18, eM18, hF⟩ := ltt_some hF
  rw [set_i ct ad G M9 hc17 hk17, ← eM18] at hP hD
  refine lv_aload_n hx hb dX0_setVector_54 rfl (lv_at hl 0 rfl) ?_
  refine va_get (D := D) (ci := 0) (v := va_re ad (M18.2 a 3)) (C := RX0) (T := TX0) (N := 21) hx hb hts (by decide +kernel) hown hK hP a (wld_o ct ad G M18 hc hk (by decide)) rfl 3 (by decide) (hts (.fieldLink RX0 36 "VideoSuite$Coder" "work" "LVideoSuite$Work;") (by decide +kernel)) (fun _ h9 => h9) rfl dX0_setVector_55 ?_
  refine lv_iload_n hx hb dX0_setVector_58 rfl (lv_at hl 1 rfl) ?_
  refine lv_iload_n hx hb dX0_setVector_59 rfl (lv_at hl 2 rfl) ?_
  refine lv_iload_n hx hb dX0_setVector_60 rfl (lv_at hl 3 rfl) ?_
  refine lv_iload hx hb dX0_setVector_61 (lv_at hl 4 rfl) ?_
  refine lv_iload hx hb dX0_setVector_63 (lv_at hl 5 rfl) ?_
  obtain ⟨b19, ho19, hc19, hk19, hF⟩ := dr_some hF
  refine W_st (st' := [.int p4, .int p3, .int p2, .int p1, .int p0, .ref (ad b19)]) (by rw [va_some ho19]) ?_
  obtain ⟨y20, hy20, hF⟩ := bnd_some hF
  have hf9 := wA_in hD hA9 hS
  refine va_callv (va_runV (As := [.int p0, .int p1, .int p2, .int p3, .int p4]) (rest := []) ⟨hx, hb, hml, hown, hts⟩ (kX9_setMove l D ct ad Z G M18 H.size b19 p0 p1 p2 p3 p4 y20 hc19 hk19 hy20) (cwV 5 hts gX0_setVector_X9_setMove rfl rfl rfl (by decide +kernel) ⟨Nat.le_of_ble_eq_true rfl, Nat.le_of_ble_eq_true rfl⟩) ⟨fun a U g mk q => by obtain ⟨q0, q1, qP, qK, qD, qZ, qN⟩ := q; exact ⟨q0, q1, qP, va_K.moved (u := U) (U := U.calling g mk a) (Vm.Alike.refl U.vm) qK, qD, sF.moved (u := U) (U := U.calling g mk a) (Vm.Alike.refl U.vm) qZ, nF.same rfl qN⟩, va_recv hK hP (ci := 9) (q0 := b19) rfl (wld_o ct ad G M18 hc19 hk19 (by decide)), fun U hU hW => ⟨rfl, by rw [hU], by rw [hU]; exact hP, va_K.moved hW.alike hK, hD.weaken (fun _ _ _ _ => trivial), by rw [hU]; exact ((hZ.kept hS.2.1).narrow hf9).moved hW.alike, hN.warm hW⟩⟩ rfl rfl hl.1 rfl (lv_room (Nat.le_of_ble_eq_true rfl)) dX0_setVector_65 ⟨(Nat.zero_le _), (Nat.zero_le _)⟩) hS (fun q _ h => hf9 q h) hf9 (fun u t H locs ht hvm hw hB hz1 hk1 hS => ?_)
  obtain ⟨hP, hK9, hD9⟩ := hB
  rw [ht] at hP
  have hD := hD9.weaken (fun _ q _ h => hf9 q.1 h)
  obtain rfl := Option.some.inj hF
  exact W.vret hx hb hr (fun t ht hW => ⟨⟨(), rfl, trivial, ⟨by rw [ht]; exact hP, va_K.moved hW.alike hK, hD⟩⟩, hS.F ht⟩) hS.2.2 dX0_setVector_68
theorem ggX10_bitsOfTe_X10_bitsOfUe : GoodIn wsX10_bitsOfTe wsX10_bitsOfUe := goodIn_r _ [4] (by decide +kernel) (by decide +kernel)
set_option maxRecDepth 20000 in
theorem gX10_bitsOfTe_X10_bitsOfUe : GoodIn wsX10_bitsOfTe (va_wsS RX10 101 yX10_bitsOfUe wsX10_bitsOfUe) := goodIn_app (goodIn_of _ (by decide +kernel)) ggX10_bitsOfTe_X10_bitsOfUe
theorem dX10_bitsOfTe_0 : decode cX10_bitsOfTe 0 = .ok (.iload_n 0, 1) := by decide +kernel
theorem dX10_bitsOfTe_1 : decode cX10_bitsOfTe 1 = .ok (.iconst 1, 1) := by decide +kernel
theorem dX10_bitsOfTe_2 : decode cX10_bitsOfTe 2 = .ok (.if_icmp .ne 7, 3) := by decide +kernel
theorem dX10_bitsOfTe_5 : decode cX10_bitsOfTe 5 = .ok (.iconst 1, 1) := by decide +kernel
theorem dX10_bitsOfTe_6 : decode cX10_bitsOfTe 6 = .ok (.goto 7, 3) := by decide +kernel
theorem dX10_bitsOfTe_9 : decode cX10_bitsOfTe 9 = .ok (.iload_n 1, 1) := by decide +kernel
theorem dX10_bitsOfTe_10 : decode cX10_bitsOfTe 10 = .ok (.invokestatic 101, 3) := by decide +kernel
theorem dX10_bitsOfTe_13 : decode cX10_bitsOfTe 13 = .ok (.ireturn, 1) := by decide +kernel
def FX10_bitsOfTe (G : GG) (M : DD) (p0 : Int32) (p1 : Int32) : Option (DD × Int32) :=
  bnd (if p0 = ((1 : Int32)) then (some ((1 : Int32), M)) else
  (bnd (FX10_bitsOfUe G M p1) fun y3 =>
  some (y3.2, y3.1))) fun (y1 : Int32 × DD) =>
  some (y1.2, y1.1)
set_option maxHeartbeats 4000000 in
set_option maxRecDepth 100000 in
theorem kX10_bitsOfTe (l : Launch) (D : va_G) (ct : CT) (ad : Nat → Nat) (Z : Nat → Nat) (G : GG) (M : DD) (sz : Nat) (p0 : Int32) (p1 : Int32) (y : DD × Int32) (hF : FX10_bitsOfTe G M p0 p1 = some y) : Met l yX10_bitsOfTe wsX10_bitsOfTe ({ frames := 1, cells := 0, slots := 0, locals := 21 }) (va_Pc [.int p0, .int p1] (kB D ct ad Z G M sz)) (va_Qi (fun (q : Int32) (_ : Unit) => q = y.2) (fun _ t => kE D ct ad G (wA ad G sz) y.1 t) (wA ad G sz)) 0 0 (wA ad G sz) := by
  refine Met.ofW (cc := cX10_bitsOfTe) (maxL := 2) (ret := (some .int)) (by decide) rfl ?_
  intro p e s m args below meth c s₁ B hml hv
  obtain ⟨rfl, hsz, hP, hK, hD0, hZ, hN⟩ := hv
  have hx := B.exec
  have hb := B.bytes
  have hr := B.returns
  have hts := atoms_spec (ws := wsX10_bitsOfTe) B.pre
  have hown : s.vm.findClass RX10 = some m.cls := findClass_of_methodNamed B.named
  have hlocks := B.notSynchronized
  subst hsz
  have hD := wD_self (sz := s.heap.size) hD0
  have hA9 : ∀ q, s.heap.size ≤ q → wA ad G s.heap.size q := fun q h => Or.inr h
  generalize hAe : wA ad G s.heap.size = A at hD hA9 hZ ⊢
  have hS : va_S A s.heap s.heap [] := va_S.rf
  have hl := lv_entry ([.int p0, .int p1]) (n := 2) (Nat.le_of_ble_eq_true rfl)
  rw [lg_entry_eq]
  generalize (lg_sl ([.int p0, .int p1]) ++ List.replicate (2 - (lg_sl ([.int p0, .int p1])).length) Slot.unset).toArray = ls at hl ⊢
  have hl : lv_has ls 2 [(0, .int p0), (1, .int p1)] := hl
  unfold FX10_bitsOfTe at hF
  refine lv_iload_n hx hb dX10_bitsOfTe_0 rfl (lv_at hl 0 rfl) ?_
  refine lv_iconst (v := (1 : Int32)) hx hb dX10_bitsOfTe_1 (by decide) ?_
  obtain ⟨y1, hy1, hF⟩ := bnd_some hF
  have J1 : ∀ (H : Heap) (locs : List Loc) (ls : Array Slot), va_P D classes (wld ct ad G y1.2) H → va_D A (wld ct ad G y1.2) → va_S A s.heap H locs → lv_has ls 2 [(0, .int p0), (1, .int p1)] → W p l e (headSpec wsX10_bitsOfTe ({ frames := 1, cells := 0, slots := 0, locals := 21 })).room s m ([.int p0, .int p1] : List Value).toArray below meth c H locs 0 0 (MQ below (va_Qi (fun (q : Int32) (_ : Unit) => q = y.2) (fun _ t => kE D ct ad G A y.1 t) A) ([.int p0, .int p1] : List Value).toArray s 0 0 A) (F0 m 13 ls [.int y1.1]) := by
    intro H locs ls hP hD hS hl
    obtain rfl := Option.some.inj hF
    exact W.iret (v := y1.1) hx hb hr (fun t ht hW => ⟨⟨_, (), rfl, rfl, ⟨by rw [ht]; exact hP, va_K.moved hW.alike hK, hD⟩⟩, hS.F ht⟩) hS.2.2 dX10_bitsOfTe_13
  clear hF
  have hF := hy1
  clear hy1
  refine lv_icmp_ne (tgt := 9) hx hb dX10_bitsOfTe_2 (by decide) (fun c2 => ?_) (fun c2 => ?_)
  · rw [if_neg c2] at hF
    refine lv_iload_n hx hb dX10_bitsOfTe_9 rfl (lv_at hl 1 rfl) ?_
    obtain ⟨y3, hy3, hF⟩ := bnd_some hF
    have hf9 := wA_in hD hA9 hS
    refine va_calli (va_runS (As := [.int p1]) (rest := []) ⟨hx, hb, hml, hown, hts⟩ (kX10_bitsOfUe l D ct ad Z G M s.heap.size p1 y3 hy3) (va_cwS 1 hts gX10_bitsOfTe_X10_bitsOfUe rfl rfl rfl (by decide +kernel) ⟨Nat.le_of_ble_eq_true rfl, Nat.le_of_ble_eq_true rfl⟩) ⟨fun a U g mk q => by obtain ⟨q0, q1, qP, qK, qD, qZ, qN⟩ := q; exact ⟨q0, q1, qP, va_K.moved (u := U) (U := U.calling g mk a) (Vm.Alike.refl U.vm) qK, qD, sF.moved (u := U) (U := U.calling g mk a) (Vm.Alike.refl U.vm) qZ, nF.same rfl qN⟩, fun U hU hW => ⟨rfl, by rw [hU], by rw [hU]; exact hP, va_K.moved hW.alike hK, hD.weaken (fun _ _ _ _ => trivial), by rw [hU]; exact ((hZ.kept hS.2.1).narrow hf9).moved hW.alike, hN.warm hW⟩⟩ rfl rfl hl.1 rfl (lv_room (Nat.le_of_ble_eq_true rfl)) dX10_bitsOfTe_10 ⟨(Nat.zero_le _), (Nat.zero_le _)⟩) hS (fun q _ h => hf9 q h) hf9 (fun r u t H locs ht hvm hw hB hz1 hk1 hS => ?_)
    obtain ⟨hP, hK9, hD9⟩ := hB
    rw [ht] at hP
    try dsimp only at hw
    subst hw
    have hD := hD9.weaken (fun _ q _ h => hf9 q.1 h)
    obtain rfl := Option.some.inj hF
    exact J1 _ _ _ hP hD hS (lv_sub hl [0, 1] rfl)
  · rw [if_pos c2] at hF
    refine lv_iconst (v := (1 : Int32)) hx hb dX10_bitsOfTe_5 (by decide) ?_
    refine lv_goto (tgt := 13) hx hb dX10_bitsOfTe_6 (by decide) ?_
    obtain rfl := Option.some.inj hF
    exact J1 _ _ _ hP hD hS (lv_sub hl [0, 1] rfl)
