set_option maxRecDepth 20000 in
theorem gX1_readColours_X5_number : GoodIn wuX1_readColours (wsV RX1 179 RX5 yX5_number wuX5_number) := gu_V mw_1327 mw_1328 mw_1329 mw_169 mw_1330
set_option maxRecDepth 20000 in
set_option maxRecDepth 20000 in
theorem gX1_readColours_X9_mayBeColours : GoodIn wuX1_readColours (va_wsS RX1 440 yX9_mayBeColours wuX9_mayBeColours) := gu_S mw_2177 mw_2178 mw_171 mw_2179
set_option maxRecDepth 20000 in
theorem dX1_readColours_0 : decode cX1_readColours 0 = .ok (.aload_n 0, 1) := by decide +kernel
theorem dX1_readColours_1 : decode cX1_readColours 1 = .ok (.getfield 12, 3) := by decide +kernel
theorem dX1_readColours_4 : decode cX1_readColours 4 = .ok (.iconst 4, 1) := by decide +kernel
theorem dX1_readColours_5 : decode cX1_readColours 5 = .ok (.iconst 0, 1) := by decide +kernel
theorem dX1_readColours_6 : decode cX1_readColours 6 = .ok (.lconst 0, 1) := by decide +kernel
theorem dX1_readColours_7 : decode cX1_readColours 7 = .ok (.ldc2_w 414, 3) := by decide +kernel
theorem dX1_readColours_10 : decode cX1_readColours 10 = .ok (.invokevirtual 179, 3) := by decide +kernel
theorem dX1_readColours_13 : decode cX1_readColours 13 = .ok (.istore_n 3, 1) := by decide +kernel
theorem dX1_readColours_14 : decode cX1_readColours 14 = .ok (.iload_n 3, 1) := by decide +kernel
theorem dX1_readColours_15 : decode cX1_readColours 15 = .ok (.iload_n 2, 1) := by decide +kernel
theorem dX1_readColours_16 : decode cX1_readColours 16 = .ok (.invokestatic 440, 3) := by decide +kernel
theorem dX1_readColours_19 : decode cX1_readColours 19 = .ok (.ifCond .ne 11, 3) := by decide +kernel
theorem dX1_readColours_22 : decode cX1_readColours 22 = .ok (.aload_n 0, 1) := by decide +kernel
theorem dX1_readColours_23 : decode cX1_readColours 23 = .ok (.getfield 12, 3) := by decide +kernel
theorem dX1_readColours_26 : decode cX1_readColours 26 = .ok (.iconst 4, 1) := by decide +kernel
theorem dX1_readColours_27 : decode cX1_readColours 27 = .ok (.invokevirtual 325, 3) := by decide +kernel
theorem dX1_readColours_30 : decode cX1_readColours 30 = .ok (.aload_n 0, 1) := by decide +kernel
theorem dX1_readColours_31 : decode cX1_readColours 31 = .ok (.getfield 28, 3) := by decide +kernel
theorem dX1_readColours_34 : decode cX1_readColours 34 = .ok (.getfield 355, 3) := by decide +kernel
theorem dX1_readColours_37 : decode cX1_readColours 37 = .ok (.bipush 8, 2) := by decide +kernel
theorem dX1_readColours_39 : decode cX1_readColours 39 = .ok (.iload_n 1, 1) := by decide +kernel
theorem dX1_readColours_40 : decode cX1_readColours 40 = .ok (.imul, 1) := by decide +kernel
theorem dX1_readColours_41 : decode cX1_readColours 41 = .ok (.iconst 5, 1) := by decide +kernel
theorem dX1_readColours_42 : decode cX1_readColours 42 = .ok (.iadd, 1) := by decide +kernel
theorem dX1_readColours_43 : decode cX1_readColours 43 = .ok (.iload_n 3, 1) := by decide +kernel
theorem dX1_readColours_44 : decode cX1_readColours 44 = .ok (.iastore, 1) := by decide +kernel
theorem dX1_readColours_45 : decode cX1_readColours 45 = .ok (.return_, 1) := by decide +kernel
def FX1_readColours (G : GG) (M : DD) (a : Nat) (p0 : Int32) (p1 : Int32) : Option (DD) :=
  dr G 5 ((M.2 a 0)) fun b2 =>
  bnd (FX5_number G M b2 ((4 : Int32)) ((0 : Int32)) ((0 : Int64)) ((3 : Int64))) fun y3 =>
  bnd (FX9_mayBeColours G y3.1 y3.2 p1) fun y4 =>
  bnd (if y4.2 = ((0 : Int32)) then (none) else
  (some (y4.1))) fun (y5 : DD) =>
  dr G 9 ((y5.2 a 2)) fun b6 =>
  ltt ((((8 : Int32)) * p0)) fun x7 =>
  ltt ((x7 + ((5 : Int32)))) fun x8 =>
  dr G 13 ((y5.2 b6 6)) fun b9 =>
  chk (¬ (x8 < 0 ∨ G.2.2 b9 ≤ x8.toNatClampNeg)) <|
  ltt (uI y5 b9 x8.toNatClampNeg y3.2) fun M10 =>
  some M10
set_option maxHeartbeats 4000000 in
set_option maxRecDepth 100000 in
theorem kX1_readColours (l : Launch) (D : va_G) (ct : CT) (ad : Nat → Nat) (Z : Nat → Nat) (G : GG) (M : DD) (sz : Nat) (a : Nat) (p0 : Int32) (p1 : Int32) (y : DD) (hc : a < G.1) (hk : G.2.1 a = 1) (hF : FX1_readColours G M a p0 p1 = some y) : Met l yX1_readColours wuX1_readColours ({ frames := 2, cells := 0, slots := 0, locals := 59 }) (va_Pc [.ref (ad a), .int p0, .int p1] (kB D ct ad Z G M sz)) (va_Qv (fun (_ : Unit) => True) (fun _ t => kE D ct ad G (wA ad G sz) y t) (wA ad G sz)) 0 0 (wA ad G sz) := by
  refine Met.ofW (cc := cX1_readColours) (maxL := 4) (ret := none) (by decide) rfl ?_
  intro p e s m args below meth c s₁ B hml hv
  obtain ⟨rfl, hsz, hP, hK, hD0, hZ, hN⟩ := hv
  have hx := B.exec
  have hb := B.bytes
  have hr := B.returns
  have hts := atoms_spec (ws := wuX1_readColours) B.pre
  have hown : s.vm.findClass RX1 = some m.cls := findClass_of_methodNamed B.named
  have hlocks := B.notSynchronized
  subst hsz
  have hD := wD_self (sz := s.heap.size) hD0
  have hA9 : ∀ q, s.heap.size ≤ q → wA ad G s.heap.size q := fun q h => Or.inr h
  generalize hAe : wA ad G s.heap.size = A at hD hA9 hZ ⊢
  have hS : va_S A s.heap s.heap [] := va_S.rf
  have hl := lv_entry ([.ref (ad a), .int p0, .int p1]) (n := 4) (Nat.le_of_ble_eq_true rfl)
  rw [lg_entry_eq]
  generalize (lg_sl ([.ref (ad a), .int p0, .int p1]) ++ List.replicate (4 - (lg_sl ([.ref (ad a), .int p0, .int p1])).length) Slot.unset).toArray = ls at hl ⊢
  have hl : lv_has ls 4 [(0, .ref (ad a)), (1, .int p0), (2, .int p1)] := hl
  unfold FX1_readColours at hF
  refine lv_aload_n hx hb dX1_readColours_0 rfl (lv_at hl 0 rfl) ?_
  refine va_get (D := D) (ci := 1) (v := va_re ad (M.2 a 0)) (C := RX1) (T := TX1) (N := 22) hx hb hts (mus hf_X1) hown hK hP a (wld_o ct ad G M hc hk (by decide)) rfl 0 (by decide) (hts (.fieldLink RX1 12 "VideoSuite$Decoder" "reader" "LVideoSuite$Reader;") (mu mw_640)) (fun _ h9 => h9) rfl dX1_readColours_1 ?_
  refine lv_iconst (v := (4 : Int32)) hx hb dX1_readColours_4 (by decide) ?_
  refine lv_iconst (v := (0 : Int32)) hx hb dX1_readColours_5 (by decide) ?_
  refine lv_lconst (v := (0 : Int64)) hx hb dX1_readColours_6 rfl ?_
  refine lv_ldc2 (v := (3 : Int64)) hx hb hown (hts (.constantLong RX1 414 (3 : Int64)) (mu mw_2176)) dX1_readColours_7 ?_
  obtain ⟨b2, ho2, hc2, hk2, hF⟩ := dr_some hF
  refine W_st (st' := [.long (3 : Int64), .long (0 : Int64), .int (0 : Int32), .int (4 : Int32), .ref (ad b2)]) (by rw [va_some ho2]) ?_
  obtain ⟨y3, hy3, hF⟩ := bnd_some hF
  have hf9 := wA_in hD hA9 hS
  refine va_calli (va_runV (As := [.int (4 : Int32), .int (0 : Int32), .long (0 : Int64), .long (3 : Int64)]) (rest := []) ⟨hx, hb, hml, hown, hts⟩ (kX5_number l D ct ad Z G M s.heap.size b2 ((4 : Int32)) ((0 : Int32)) ((0 : Int64)) ((3 : Int64)) y3 hc2 hk2 hy3) (cwV 4 hts gX1_readColours_X5_number rfl rfl rfl (by decide +kernel) ⟨Nat.le_of_ble_eq_true rfl, Nat.le_of_ble_eq_true rfl⟩) ⟨fun a U g mk q => by obtain ⟨q0, q1, qP, qK, qD, qZ, qN⟩ := q; exact ⟨q0, q1, qP, va_K.moved (u := U) (U := U.calling g mk a) (Vm.Alike.refl U.vm) qK, qD, sF.moved (u := U) (U := U.calling g mk a) (Vm.Alike.refl U.vm) qZ, nF.same rfl qN⟩, va_recv hK hP (ci := 5) (q0 := b2) rfl (wld_o ct ad G M hc2 hk2 (by decide)), fun U hU hW => ⟨rfl, by rw [hU], by rw [hU]; exact hP, va_K.moved hW.alike hK, hD.weaken (fun _ _ _ _ => trivial), by rw [hU]; exact ((hZ.kept hS.2.1).narrow hf9).moved hW.alike, hN.warm hW⟩⟩ rfl rfl hl.1 rfl (lv_room (Nat.le_of_ble_eq_true rfl)) dX1_readColours_10 ⟨(Nat.zero_le _), (Nat.zero_le _)⟩) hS (fun q _ h => hf9 q h) hf9 (fun r u t H locs ht hvm hw hB hz1 hk1 hS => ?_)
  obtain ⟨hP, hK9, hD9⟩ := hB
  rw [ht] at hP
  try dsimp only at hw
  subst hw
  have hD := hD9.weaken (fun _ q _ h => hf9 q.1 h)
  refine lv_istore_n (lv' := [(3, .int y3.2), (0, .ref (ad a)), (1, .int p0), (2, .int p1)]) hx hb dX1_readColours_13 rfl hl (by decide) rfl (fun ls hl => ?_)
  refine lv_iload_n hx hb dX1_readColours_14 rfl (lv_at hl 0 rfl) ?_
  refine lv_iload_n hx hb dX1_readColours_15 rfl (lv_at hl 3 rfl) ?_
  obtain ⟨y4, hy4, hF⟩ := bnd_some hF
  have hf9 := wA_in hD hA9 hS
  refine va_calli (va_runS (As := [.int y3.2, .int p1]) (rest := []) ⟨hx, hb, hml, hown, hts⟩ (kX9_mayBeColours l D ct ad Z G y3.1 H.size y3.2 p1 y4 hy4) (va_cwS 2 hts gX1_readColours_X9_mayBeColours rfl rfl rfl (by decide +kernel) ⟨Nat.le_of_ble_eq_true rfl, Nat.le_of_ble_eq_true rfl⟩) ⟨fun a U g mk q => by obtain ⟨q0, q1, qP, qK, qD, qZ, qN⟩ := q; exact ⟨q0, q1, qP, va_K.moved (u := U) (U := U.calling g mk a) (Vm.Alike.refl U.vm) qK, qD, sF.moved (u := U) (U := U.calling g mk a) (Vm.Alike.refl U.vm) qZ, nF.same rfl qN⟩, fun U hU hW => ⟨rfl, by rw [hU], by rw [hU]; exact hP, va_K.moved hW.alike hK, hD.weaken (fun _ _ _ _ => trivial), by rw [hU]; exact ((hZ.kept hS.2.1).narrow hf9).moved hW.alike, hN.warm hW⟩⟩ rfl rfl hl.1 rfl (lv_room (Nat.le_of_ble_eq_true rfl)) dX1_readColours_16 ⟨(Nat.zero_le _), (Nat.zero_le _)⟩) hS (fun q _ h => hf9 q h) hf9 (fun r u t H locs ht hvm hw hB hz1 hk1 hS => ?_)
  obtain ⟨hP, hK9, hD9⟩ := hB
  rw [ht] at hP
  try dsimp only at hw
  subst hw
  have hD := hD9.weaken (fun _ q _ h => hf9 q.1 h)
  obtain ⟨y5, hy5, hF⟩ := bnd_some hF
  have J5 : ∀ (H : Heap) (locs : List Loc) (ls : Array Slot), va_P D classes (wld ct ad G y5) H → va_D A (wld ct ad G y5) → va_S A s.heap H locs → lv_has ls 4 [(3, .int y3.2), (0, .ref (ad a)), (1, .int p0), (2, .int p1)] → W p l e (headSpec wuX1_readColours ({ frames := 2, cells := 0, slots := 0, locals := 59 })).room s m ([.ref (ad a), .int p0, .int p1] : List Value).toArray below meth c H locs 0 0 (MQ below (va_Qv (fun (_ : Unit) => True) (fun _ t => kE D ct ad G A y t) A) ([.ref (ad a), .int p0, .int p1] : List Value).toArray s 0 0 A) (F0 m 30 ls []) := by
    intro H locs ls hP hD hS hl
    refine lv_aload_n hx hb dX1_readColours_30 rfl (lv_at hl 1 rfl) ?_
    refine va_get (D := D) (ci := 1) (v := va_re ad (y5.2 a 2)) (C := RX1) (T := TX1) (N := 22) hx hb hts (mus hf_X1) hown hK hP a (wld_o ct ad G y5 hc hk (by decide)) rfl 2 (by decide) (hts (.fieldLink RX1 28 "VideoSuite$Decoder" "work" "LVideoSuite$Work;") (mu mw_644)) (fun _ h9 => h9) rfl dX1_readColours_31 ?_
    obtain ⟨b6, ho6, hc6, hk6, hF⟩ := dr_some hF
    refine W_st (st' := [.ref (ad b6)]) (by rw [va_some ho6]) ?_
    refine va_get (D := D) (ci := 9) (v := va_re ad (y5.2 b6 6)) (C := RX9) (T := TX9) (N := 20) hx hb hts (mus hf_X9) hown hK hP b6 (wld_o ct ad G y5 hc6 hk6 (by decide)) rfl 6 (by decide) (hts (.fieldLink RX1 355 "VideoSuite$Work" "info" "[I") (mu mw_444)) (fun _ h9 => h9) rfl dX1_readColours_34 ?_
    refine lv_bipush (v := (8 : Int32)) hx hb dX1_readColours_37 (by decide) ?_
    refine lv_iload_n hx hb dX1_readColours_39 rfl (lv_at hl 2 rfl) ?_
    refine lv_imul hx hb dX1_readColours_40 ?_
    obtain ⟨x7, ex7, hF⟩ := ltt_some hF
    refine lv_topi (fun zx7 ezx7 => ?_)
    obtain rfl : x7 = zx7 := ex7.trans ezx7.symm
    refine lv_iconst (v := (5 : Int32)) hx hb dX1_readColours_41 (by decide) ?_
    refine lv_iadd hx hb dX1_readColours_42 ?_
    obtain ⟨x8, ex8, hF⟩ := ltt_some hF
    refine lv_topi (fun zx8 ezx8 => ?_)
    obtain rfl : x8 = zx8 := ex8.trans ezx8.symm
    refine lv_iload_n hx hb dX1_readColours_43 rfl (lv_at hl 0 rfl) ?_
    obtain ⟨b9, ho9, hc9, hk9, hF⟩ := dr_some hF
    refine W_st (st' := [.int y3.2, .int x8, .ref (ad b9)]) (by rw [va_some ho9]) ?_
    obtain ⟨hvc, hF⟩ := chk_some hF
    refine va_iast hx hb hK hP hD hS b9 1 (wld_i ct ad G y5 hc9 hk9) rfl hvc dX1_readColours_44 (fun H locs hP hD hS => ?_)
    obtain ⟨M10, eM10, hF⟩ := ltt_some hF
    rw [set_i ct ad G y5 hc9 hk9, ← eM10] at hP hD
    obtain rfl := Option.some.inj hF
    exact W.vret hx hb hr (fun t ht hW => ⟨⟨(), rfl, trivial, ⟨by rw [ht]; exact hP, va_K.moved hW.alike hK, hD⟩⟩, hS.F ht⟩) hS.2.2 dX1_readColours_45
  clear hF
  have hF := hy5
  clear hy5
  refine lv_if_ne (tgt := 30) hx hb dX1_readColours_19 (by decide) (fun c11 => ?_) (fun c11 => ?_)
  · rw [if_neg c11] at hF
    obtain rfl := Option.some.inj hF
    exact J5 _ _ _ hP hD hS (lv_sub hl [0, 1, 2, 3] rfl)
  · rw [if_pos c11] at hF
    refine lv_aload_n hx hb dX1_readColours_22 rfl (lv_at hl 1 rfl) ?_
    refine va_get (D := D) (ci := 1) (v := va_re ad (y4.1.2 a 0)) (C := RX1) (T := TX1) (N := 22) hx hb hts (mus hf_X1) hown hK hP a (wld_o ct ad G y4.1 hc hk (by decide)) rfl 0 (by decide) (hts (.fieldLink RX1 12 "VideoSuite$Decoder" "reader" "LVideoSuite$Reader;") (mu mw_640)) (fun _ h9 => h9) rfl dX1_readColours_23 ?_
    refine lv_iconst (v := (4 : Int32)) hx hb dX1_readColours_26 (by decide) ?_
    cases hF
set_option maxRecDepth 20000 in
theorem gX1_readFour_X9_sides : GoodIn wuX1_readFour (wsV RX1 416 RX9 yX9_sides wuX9_sides) := gu_V mw_1988 mw_1989 mw_1990 mw_171 mw_1991
set_option maxRecDepth 20000 in
set_option maxRecDepth 20000 in
theorem gX1_readFour_X1_readColours : GoodIn wuX1_readFour (wsV RX1 428 RX1 yX1_readColours wuX1_readColours) := gu_V mw_2172 mw_2174 mw_94 mw_168 mw_2175
set_option maxRecDepth 20000 in
theorem gX1_readFour_X9_guessMode : GoodIn wuX1_readFour (wsV RX1 431 RX9 yX9_guessMode wuX9_guessMode) := gu_V mw_2184 mw_2185 mw_2186 mw_171 mw_2187
set_option maxRecDepth 20000 in
set_option maxRecDepth 20000 in
theorem gX1_readFour_X5_fixed : GoodIn wuX1_readFour (wsV RX1 183 RX5 yX5_fixed wuX5_fixed) := gu_V mw_1355 mw_1356 mw_1357 mw_169 mw_1358
set_option maxRecDepth 20000 in
set_option maxRecDepth 20000 in
theorem gX1_readFour_X9_sidesOf : GoodIn wuX1_readFour (va_wsS RX1 434 yX9_sidesOf wuX9_sidesOf) := gu_S mw_2107 mw_2108 mw_171 mw_2109
set_option maxRecDepth 20000 in
set_option maxRecDepth 20000 in
theorem gX1_readFour_X9_mayBeFour : GoodIn wuX1_readFour (va_wsS RX1 437 yX9_mayBeFour wuX9_mayBeFour) := gu_S mw_2192 mw_2193 mw_171 mw_2194
set_option maxRecDepth 20000 in
theorem dX1_readFour_0 : decode cX1_readFour 0 = .ok (.aload_n 0, 1) := by decide +kernel
theorem dX1_readFour_1 : decode cX1_readFour 1 = .ok (.getfield 28, 3) := by decide +kernel
theorem dX1_readFour_4 : decode cX1_readFour 4 = .ok (.iload_n 1, 1) := by decide +kernel
theorem dX1_readFour_5 : decode cX1_readFour 5 = .ok (.invokevirtual 416, 3) := by decide +kernel
theorem dX1_readFour_8 : decode cX1_readFour 8 = .ok (.istore_n 2, 1) := by decide +kernel
theorem dX1_readFour_9 : decode cX1_readFour 9 = .ok (.aload_n 0, 1) := by decide +kernel
theorem dX1_readFour_10 : decode cX1_readFour 10 = .ok (.getfield 28, 3) := by decide +kernel
theorem dX1_readFour_13 : decode cX1_readFour 13 = .ok (.getfield 355, 3) := by decide +kernel
theorem dX1_readFour_16 : decode cX1_readFour 16 = .ok (.bipush 8, 2) := by decide +kernel
theorem dX1_readFour_18 : decode cX1_readFour 18 = .ok (.iload_n 1, 1) := by decide +kernel
theorem dX1_readFour_19 : decode cX1_readFour 19 = .ok (.imul, 1) := by decide +kernel
theorem dX1_readFour_20 : decode cX1_readFour 20 = .ok (.iconst 0, 1) := by decide +kernel
theorem dX1_readFour_21 : decode cX1_readFour 21 = .ok (.iadd, 1) := by decide +kernel
theorem dX1_readFour_22 : decode cX1_readFour 22 = .ok (.iconst 0, 1) := by decide +kernel
theorem dX1_readFour_23 : decode cX1_readFour 23 = .ok (.iastore, 1) := by decide +kernel
theorem dX1_readFour_24 : decode cX1_readFour 24 = .ok (.iconst 0, 1) := by decide +kernel
theorem dX1_readFour_25 : decode cX1_readFour 25 = .ok (.istore_n 3, 1) := by decide +kernel
theorem dX1_readFour_26 : decode cX1_readFour 26 = .ok (.iload_n 3, 1) := by decide +kernel
theorem dX1_readFour_27 : decode cX1_readFour 27 = .ok (.bipush 16, 2) := by decide +kernel
theorem dX1_readFour_29 : decode cX1_readFour 29 = .ok (.if_icmp .ge 102, 3) := by decide +kernel
theorem dX1_readFour_32 : decode cX1_readFour 32 = .ok (.aload_n 0, 1) := by decide +kernel
theorem dX1_readFour_33 : decode cX1_readFour 33 = .ok (.getfield 28, 3) := by decide +kernel
theorem dX1_readFour_36 : decode cX1_readFour 36 = .ok (.iload_n 1, 1) := by decide +kernel
theorem dX1_readFour_37 : decode cX1_readFour 37 = .ok (.iload_n 3, 1) := by decide +kernel
theorem dX1_readFour_38 : decode cX1_readFour 38 = .ok (.invokevirtual 431, 3) := by decide +kernel
theorem dX1_readFour_41 : decode cX1_readFour 41 = .ok (.istore 4, 2) := by decide +kernel
theorem dX1_readFour_43 : decode cX1_readFour 43 = .ok (.iload 4, 2) := by decide +kernel
theorem dX1_readFour_45 : decode cX1_readFour 45 = .ok (.istore 5, 2) := by decide +kernel
theorem dX1_readFour_47 : decode cX1_readFour 47 = .ok (.aload_n 0, 1) := by decide +kernel
theorem dX1_readFour_48 : decode cX1_readFour 48 = .ok (.getfield 12, 3) := by decide +kernel
theorem dX1_readFour_51 : decode cX1_readFour 51 = .ok (.iconst 2, 1) := by decide +kernel
theorem dX1_readFour_52 : decode cX1_readFour 52 = .ok (.iconst 1, 1) := by decide +kernel
theorem dX1_readFour_53 : decode cX1_readFour 53 = .ok (.invokevirtual 183, 3) := by decide +kernel
theorem dX1_readFour_56 : decode cX1_readFour 56 = .ok (.ifCond .ne 32, 3) := by decide +kernel
theorem dX1_readFour_59 : decode cX1_readFour 59 = .ok (.aload_n 0, 1) := by decide +kernel
theorem dX1_readFour_60 : decode cX1_readFour 60 = .ok (.getfield 12, 3) := by decide +kernel
theorem dX1_readFour_63 : decode cX1_readFour 63 = .ok (.iconst 3, 1) := by decide +kernel
theorem dX1_readFour_64 : decode cX1_readFour 64 = .ok (.iconst 3, 1) := by decide +kernel
theorem dX1_readFour_65 : decode cX1_readFour 65 = .ok (.invokevirtual 183, 3) := by decide +kernel
theorem dX1_readFour_68 : decode cX1_readFour 68 = .ok (.istore 6, 2) := by decide +kernel
theorem dX1_readFour_70 : decode cX1_readFour 70 = .ok (.iload 6, 2) := by decide +kernel
theorem dX1_readFour_72 : decode cX1_readFour 72 = .ok (.iload 4, 2) := by decide +kernel
theorem dX1_readFour_74 : decode cX1_readFour 74 = .ok (.if_icmp .ge 8, 3) := by decide +kernel
theorem dX1_readFour_77 : decode cX1_readFour 77 = .ok (.iload 6, 2) := by decide +kernel
theorem dX1_readFour_79 : decode cX1_readFour 79 = .ok (.goto 7, 3) := by decide +kernel
theorem dX1_readFour_82 : decode cX1_readFour 82 = .ok (.iload 6, 2) := by decide +kernel
theorem dX1_readFour_84 : decode cX1_readFour 84 = .ok (.iconst 1, 1) := by decide +kernel
theorem dX1_readFour_85 : decode cX1_readFour 85 = .ok (.iadd, 1) := by decide +kernel
theorem dX1_readFour_86 : decode cX1_readFour 86 = .ok (.istore 5, 2) := by decide +kernel
theorem dX1_readFour_88 : decode cX1_readFour 88 = .ok (.iload 5, 2) := by decide +kernel
theorem dX1_readFour_90 : decode cX1_readFour 90 = .ok (.iload_n 3, 1) := by decide +kernel
theorem dX1_readFour_91 : decode cX1_readFour 91 = .ok (.iload_n 2, 1) := by decide +kernel
theorem dX1_readFour_92 : decode cX1_readFour 92 = .ok (.invokestatic 434, 3) := by decide +kernel
theorem dX1_readFour_95 : decode cX1_readFour 95 = .ok (.invokestatic 437, 3) := by decide +kernel
theorem dX1_readFour_98 : decode cX1_readFour 98 = .ok (.ifCond .ne 11, 3) := by decide +kernel
theorem dX1_readFour_101 : decode cX1_readFour 101 = .ok (.aload_n 0, 1) := by decide +kernel
theorem dX1_readFour_102 : decode cX1_readFour 102 = .ok (.getfield 12, 3) := by decide +kernel
theorem dX1_readFour_105 : decode cX1_readFour 105 = .ok (.iconst 4, 1) := by decide +kernel
theorem dX1_readFour_106 : decode cX1_readFour 106 = .ok (.invokevirtual 325, 3) := by decide +kernel
theorem dX1_readFour_109 : decode cX1_readFour 109 = .ok (.aload_n 0, 1) := by decide +kernel
theorem dX1_readFour_110 : decode cX1_readFour 110 = .ok (.getfield 28, 3) := by decide +kernel
theorem dX1_readFour_113 : decode cX1_readFour 113 = .ok (.getfield 422, 3) := by decide +kernel
theorem dX1_readFour_116 : decode cX1_readFour 116 = .ok (.bipush 16, 2) := by decide +kernel
theorem dX1_readFour_118 : decode cX1_readFour 118 = .ok (.iload_n 1, 1) := by decide +kernel
theorem dX1_readFour_119 : decode cX1_readFour 119 = .ok (.imul, 1) := by decide +kernel
theorem dX1_readFour_120 : decode cX1_readFour 120 = .ok (.iload_n 3, 1) := by decide +kernel
theorem dX1_readFour_121 : decode cX1_readFour 121 = .ok (.iadd, 1) := by decide +kernel
theorem dX1_readFour_122 : decode cX1_readFour 122 = .ok (.iload 5, 2) := by decide +kernel
theorem dX1_readFour_124 : decode cX1_readFour 124 = .ok (.iastore, 1) := by decide +kernel
theorem dX1_readFour_125 : decode cX1_readFour 125 = .ok (.iinc 3 1, 3) := by decide +kernel
theorem dX1_readFour_128 : decode cX1_readFour 128 = .ok (.goto (-102), 3) := by decide +kernel
theorem dX1_readFour_131 : decode cX1_readFour 131 = .ok (.aload_n 0, 1) := by decide +kernel
theorem dX1_readFour_132 : decode cX1_readFour 132 = .ok (.iload_n 1, 1) := by decide +kernel
theorem dX1_readFour_133 : decode cX1_readFour 133 = .ok (.iload_n 2, 1) := by decide +kernel
theorem dX1_readFour_134 : decode cX1_readFour 134 = .ok (.invokevirtual 428, 3) := by decide +kernel
theorem dX1_readFour_137 : decode cX1_readFour 137 = .ok (.return_, 1) := by decide +kernel
def FX1_readFour (G : GG) (M : DD) (a : Nat) (p0 : Int32) : Option (DD) :=
  dr G 9 ((M.2 a 2)) fun b2 =>
  bnd (FX9_sides G M b2 p0) fun y3 =>
  dr G 9 ((y3.1.2 a 2)) fun b4 =>
  ltt ((((8 : Int32)) * p0)) fun x5 =>
  ltt ((x5 + ((0 : Int32)))) fun x6 =>
  dr G 13 ((y3.1.2 b4 6)) fun b7 =>
  chk (¬ (x6 < 0 ∨ G.2.2 b7 ≤ x6.toNatClampNeg)) <|
  ltt (uI y3.1 b7 x6.toNatClampNeg ((0 : Int32))) fun M8 =>
  bnd (itr (fun (s10 : Int32 × DD) => ((if ((16 : Int32)) ≤ s10.1 then (some (.inr (s10.1, s10.2))) else
  (dr G 9 ((s10.2.2 a 2)) fun b15 =>
  bnd (FX9_guessMode G s10.2 b15 p0 s10.1) fun y16 =>
  dr G 5 ((y16.1.2 a 0)) fun b17 =>
  bnd (FX5_fixed G y16.1 b17 ((2 : Int32)) ((1 : Int32))) fun y18 =>
  bnd (if y18.2 = ((0 : Int32)) then (dr G 5 ((y18.1.2 a 0)) fun b31 =>
  bnd (FX5_fixed G y18.1 b31 ((3 : Int32)) ((3 : Int32))) fun y32 =>
  bnd (if y16.2 ≤ y32.2 then (ltt ((y32.2 + ((1 : Int32)))) fun x35 =>
  some (x35)) else
  (some (y32.2))) fun (y33 : Int32) =>
  some (y33, y32.1)) else
  (some (y16.2, y18.1))) fun (y19 : Int32 × DD) =>
  bnd (FX9_sidesOf G y19.2 s10.1 y3.2) fun y20 =>
  bnd (FX9_mayBeFour G y20.1 y19.1 y20.2) fun y21 =>
  bnd (if y21.2 = ((0 : Int32)) then (none) else
  (some (y21.1))) fun (y22 : DD) =>
  dr G 9 ((y22.2 a 2)) fun b23 =>
  ltt ((((16 : Int32)) * p0)) fun x24 =>
  ltt ((x24 + s10.1)) fun x25 =>
  dr G 13 ((y22.2 b23 7)) fun b26 =>
  chk (¬ (x25 < 0 ∨ G.2.2 b26 ≤ x25.toNatClampNeg)) <|
  ltt (uI y22 b26 x25.toNatClampNeg y19.1) fun M27 =>
  ltt (s10.1 + (1 : Int32)) fun x28 =>
  some (.inl (x28, M27)))) : Option ((Int32 × DD) ⊕ (Int32 × DD)))) 1000000 ((0 : Int32), M8)) fun (y9 : Int32 × DD) =>
  bnd (FX1_readColours G y9.2 a p0 y3.2) fun y12 =>
  some y12
set_option maxHeartbeats 4000000 in
set_option maxRecDepth 100000 in
theorem kX1_readFour (l : Launch) (D : va_G) (ct : CT) (ad : Nat → Nat) (Z : Nat → Nat) (G : GG) (M : DD) (sz : Nat) (a : Nat) (p0 : Int32) (y : DD) (hc : a < G.1) (hk : G.2.1 a = 1) (hF : FX1_readFour G M a p0 = some y) : Met l yX1_readFour wuX1_readFour ({ frames := 3, cells := 0, slots := 0, locals := 82 }) (va_Pc [.ref (ad a), .int p0] (kB D ct ad Z G M sz)) (va_Qv (fun (_ : Unit) => True) (fun _ t => kE D ct ad G (wA ad G sz) y t) (wA ad G sz)) 0 0 (wA ad G sz) := by
  refine Met.ofW (cc := cX1_readFour) (maxL := 7) (ret := none) (by decide) rfl ?_
  intro p e s m args below meth c s₁ B hml hv
  obtain ⟨rfl, hsz, hP, hK, hD0, hZ, hN⟩ := hv
  have hx := B.exec
  have hb := B.bytes
  have hr := B.returns
  have hts := atoms_spec (ws := wuX1_readFour) B.pre
  have hown : s.vm.findClass RX1 = some m.cls := findClass_of_methodNamed B.named
  have hlocks := B.notSynchronized
  subst hsz
  have hD := wD_self (sz := s.heap.size) hD0
  have hA9 : ∀ q, s.heap.size ≤ q → wA ad G s.heap.size q := fun q h => Or.inr h
  generalize hAe : wA ad G s.heap.size = A at hD hA9 hZ ⊢
  have hS : va_S A s.heap s.heap [] := va_S.rf
  have hl := lv_entry ([.ref (ad a), .int p0]) (n := 7) (Nat.le_of_ble_eq_true rfl)
  rw [lg_entry_eq]
  generalize (lg_sl ([.ref (ad a), .int p0]) ++ List.replicate (7 - (lg_sl ([.ref (ad a), .int p0])).length) Slot.unset).toArray = ls at hl ⊢
  have hl : lv_has ls 7 [(0, .ref (ad a)), (1, .int p0)] := hl
  unfold FX1_readFour at hF
  refine lv_aload_n hx hb dX1_readFour_0 rfl (lv_at hl 0 rfl) ?_
  refine va_get (D := D) (ci := 1) (v := va_re ad (M.2 a 2)) (C := RX1) (T := TX1) (N := 22) hx hb hts (mus hf_X1) hown hK hP a (wld_o ct ad G M hc hk (by decide)) rfl 2 (by decide) (hts (.fieldLink RX1 28 "VideoSuite$Decoder" "work" "LVideoSuite$Work;") (mu mw_644)) (fun _ h9 => h9) rfl dX1_readFour_1 ?_
  refine lv_iload_n hx hb dX1_readFour_4 rfl (lv_at hl 1 rfl) ?_
  obtain ⟨b2, ho2, hc2, hk2, hF⟩ := dr_some hF
  refine W_st (st' := [.int p0, .ref (ad b2)]) (by rw [va_some ho2]) ?_
  obtain ⟨y3, hy3, hF⟩ := bnd_some hF
  have hf9 := wA_in hD hA9 hS
  refine va_calli (va_runV (As := [.int p0]) (rest := []) ⟨hx, hb, hml, hown, hts⟩ (kX9_sides l D ct ad Z G M s.heap.size b2 p0 y3 hc2 hk2 hy3) (cwV 1 hts gX1_readFour_X9_sides rfl rfl rfl (by decide +kernel) ⟨Nat.le_of_ble_eq_true rfl, Nat.le_of_ble_eq_true rfl⟩) ⟨fun a U g mk q => by obtain ⟨q0, q1, qP, qK, qD, qZ, qN⟩ := q; exact ⟨q0, q1, qP, va_K.moved (u := U) (U := U.calling g mk a) (Vm.Alike.refl U.vm) qK, qD, sF.moved (u := U) (U := U.calling g mk a) (Vm.Alike.refl U.vm) qZ, nF.same rfl qN⟩, va_recv hK hP (ci := 9) (q0 := b2) rfl (wld_o ct ad G M hc2 hk2 (by decide)), fun U hU hW => ⟨rfl, by rw [hU], by rw [hU]; exact hP, va_K.moved hW.alike hK, hD.weaken (fun _ _ _ _ => trivial), by rw [hU]; exact ((hZ.kept hS.2.1).narrow hf9).moved hW.alike, hN.warm hW⟩⟩ rfl rfl hl.1 rfl (lv_room (Nat.le_of_ble_eq_true rfl)) dX1_readFour_5 ⟨(Nat.zero_le _), (Nat.zero_le _)⟩) hS (fun q _ h => hf9 q h) hf9 (fun r u t H locs ht hvm hw hB hz1 hk1 hS => ?_)
  obtain ⟨hP, hK9, hD9⟩ := hB
  rw [ht] at hP
  try dsimp only at hw
  subst hw
  have hD := hD9.weaken (fun _ q _ h => hf9 q.1 h)
  refine lv_istore_n (lv' := [(2, .int y3.2), (0, .ref (ad a)), (1, .int p0)]) hx hb dX1_readFour_8 rfl hl (by decide) rfl (fun ls hl => ?_)
  refine lv_aload_n hx hb dX1_readFour_9 rfl (lv_at hl 1 rfl) ?_
  refine va_get (D := D) (ci := 1) (v := va_re ad (y3.1.2 a 2)) (C := RX1) (T := TX1) (N := 22) hx hb hts (mus hf_X1) hown hK hP a (wld_o ct ad G y3.1 hc hk (by decide)) rfl 2 (by decide) (hts (.fieldLink RX1 28 "VideoSuite$Decoder" "work" "LVideoSuite$Work;") (mu mw_644)) (fun _ h9 => h9) rfl dX1_readFour_10 ?_
  obtain ⟨b4, ho4, hc4, hk4, hF⟩ := dr_some hF
  refine W_st (st' := [.ref (ad b4)]) (by rw [va_some ho4]) ?_
  refine va_get (D := D) (ci := 9) (v := va_re ad (y3.1.2 b4 6)) (C := RX9) (T := TX9) (N := 20) hx hb hts (mus hf_X9) hown hK hP b4 (wld_o ct ad G y3.1 hc4 hk4 (by decide)) rfl 6 (by decide) (hts (.fieldLink RX1 355 "VideoSuite$Work" "info" "[I") (mu mw_444)) (fun _ h9 => h9) rfl dX1_readFour_13 ?_
  refine lv_bipush (v := (8 : Int32)) hx hb dX1_readFour_16 (by decide) ?_
  refine lv_iload_n hx hb dX1_readFour_18 rfl (lv_at hl 2 rfl) ?_
  refine lv_imul hx hb dX1_readFour_19 ?_
  obtain ⟨x5, ex5, hF⟩ := ltt_some hF
  refine lv_topi (fun zx5 ezx5 => ?_)
  obtain rfl : x5 = zx5 := ex5.trans ezx5.symm
  refine lv_iconst (v := (0 : Int32)) hx hb dX1_readFour_20 (by decide) ?_
  refine lv_iadd hx hb dX1_readFour_21 ?_
  obtain ⟨x6, ex6, hF⟩ := ltt_some hF
  refine lv_topi (fun zx6 ezx6 => ?_)
  obtain rfl : x6 = zx6 := ex6.trans ezx6.symm
  refine lv_iconst (v := (0 : Int32)) hx hb dX1_readFour_22 (by decide) ?_
  obtain ⟨b7, ho7, hc7, hk7, hF⟩ := dr_some hF
  refine W_st (st' := [.int (0 : Int32), .int x6, .ref (ad b7)]) (by rw [va_some ho7]) ?_
  obtain ⟨hvc, hF⟩ := chk_some hF
  refine va_iast hx hb hK hP hD hS b7 1 (wld_i ct ad G y3.1 hc7 hk7) rfl hvc dX1_readFour_23 (fun H locs hP hD hS => ?_)
  obtain ⟨M8, eM8, hF⟩ := ltt_some hF
  rw [set_i ct ad G y3.1 hc7 hk7, ← eM8] at hP hD
  refine lv_iconst (v := (0 : Int32)) hx hb dX1_readFour_24 (by decide) ?_
  refine lv_istore_n (lv' := [(3, .int (0 : Int32)), (2, .int y3.2), (0, .ref (ad a)), (1, .int p0)]) hx hb dX1_readFour_25 rfl hl (by decide) rfl (fun ls hl => ?_)
  obtain ⟨y9, hy9, hF⟩ := bnd_some hF
  have K9 : ∀ (H : Heap) (locs : List Loc) (ls : Array Slot), va_P D classes (wld ct ad G y9.2) H → va_D A (wld ct ad G y9.2) → va_S A s.heap H locs → lv_has ls 7 [(3, .int y9.1), (2, .int y3.2), (0, .ref (ad a)), (1, .int p0)] → W p l e (headSpec wuX1_readFour ({ frames := 3, cells := 0, slots := 0, locals := 82 })).room s m ([.ref (ad a), .int p0] : List Value).toArray below meth c H locs 0 0 (MQ below (va_Qv (fun (_ : Unit) => True) (fun _ t => kE D ct ad G A y t) A) ([.ref (ad a), .int p0] : List Value).toArray s 0 0 A) (F0 m 131 ls []) := by
    intro H locs ls hP hD hS hl
    refine lv_aload_n hx hb dX1_readFour_131 rfl (lv_at hl 2 rfl) ?_
    refine lv_iload_n hx hb dX1_readFour_132 rfl (lv_at hl 3 rfl) ?_
    refine lv_iload_n hx hb dX1_readFour_133 rfl (lv_at hl 1 rfl) ?_
    obtain ⟨y12, hy12, hF⟩ := bnd_some hF
    have hf9 := wA_in hD hA9 hS
    refine va_callv (va_runV (As := [.int p0, .int y3.2]) (rest := []) ⟨hx, hb, hml, hown, hts⟩ (kX1_readColours l D ct ad Z G y9.2 H.size a p0 y3.2 y12 hc hk hy12) (cwV 2 hts gX1_readFour_X1_readColours rfl rfl rfl (by decide +kernel) ⟨Nat.le_of_ble_eq_true rfl, Nat.le_of_ble_eq_true rfl⟩) ⟨fun a U g mk q => by obtain ⟨q0, q1, qP, qK, qD, qZ, qN⟩ := q; exact ⟨q0, q1, qP, va_K.moved (u := U) (U := U.calling g mk a) (Vm.Alike.refl U.vm) qK, qD, sF.moved (u := U) (U := U.calling g mk a) (Vm.Alike.refl U.vm) qZ, nF.same rfl qN⟩, va_recv hK hP (ci := 1) (q0 := a) rfl (wld_o ct ad G y9.2 hc hk (by decide)), fun U hU hW => ⟨rfl, by rw [hU], by rw [hU]; exact hP, va_K.moved hW.alike hK, hD.weaken (fun _ _ _ _ => trivial), by rw [hU]; exact ((hZ.kept hS.2.1).narrow hf9).moved hW.alike, hN.warm hW⟩⟩ rfl rfl hl.1 rfl (lv_room (Nat.le_of_ble_eq_true rfl)) dX1_readFour_134 ⟨(Nat.zero_le _), (Nat.zero_le _)⟩) hS (fun q _ h => hf9 q h) hf9 (fun u t H locs ht hvm hw hB hz1 hk1 hS => ?_)
    obtain ⟨hP, hK9, hD9⟩ := hB
    rw [ht] at hP
    have hD := hD9.weaken (fun _ q _ h => hf9 q.1 h)
    obtain rfl := Option.some.inj hF
    exact W.vret hx hb hr (fun t ht hW => ⟨⟨(), rfl, trivial, ⟨by rw [ht]; exact hP, va_K.moved hW.alike hK, hD⟩⟩, hS.F ht⟩) hS.2.2 dX1_readFour_137
  clear hF
  refine itr_rule (fun (s10 : Int32 × DD) => ∀ (H : Heap) (locs : List Loc) (ls : Array Slot), va_P D classes (wld ct ad G s10.2) H → va_D A (wld ct ad G s10.2) → va_S A s.heap H locs → lv_has ls 7 [(3, .int s10.1), (2, .int y3.2), (0, .ref (ad a)), (1, .int p0)] → W p l e (headSpec wuX1_readFour ({ frames := 3, cells := 0, slots := 0, locals := 82 })).room s m ([.ref (ad a), .int p0] : List Value).toArray below meth c H locs 0 0 (MQ below (va_Qv (fun (_ : Unit) => True) (fun _ t => kE D ct ad G A y t) A) ([.ref (ad a), .int p0] : List Value).toArray s 0 0 A) (F0 m 26 ls [])) ?_ _ _ hy9 _ _ _ hP hD hS (lv_sub hl [0, 1, 2, 3] rfl)
  rintro s10 ⟨z13, hF, hwz13⟩ H locs ls hP hD hS hl
  try dsimp only at hF
  refine lv_iload_n hx hb dX1_readFour_26 rfl (lv_at hl 0 rfl) ?_
  refine lv_bipush (v := (16 : Int32)) hx hb dX1_readFour_27 (by decide) ?_
  refine lv_icmp_ge (tgt := 131) hx hb dX1_readFour_29 (by decide) (fun c14 => ?_) (fun c14 => ?_)
  · rw [if_pos c14] at hF
    obtain rfl := Option.some.inj hF
    subst hwz13
    exact K9 _ _ _ hP hD hS (lv_sub hl [0, 1, 2, 3] rfl)
  · rw [if_neg c14] at hF
    refine lv_aload_n hx hb dX1_readFour_32 rfl (lv_at hl 2 rfl) ?_
    refine va_get (D := D) (ci := 1) (v := va_re ad (s10.2.2 a 2)) (C := RX1) (T := TX1) (N := 22) hx hb hts (mus hf_X1) hown hK hP a (wld_o ct ad G s10.2 hc hk (by decide)) rfl 2 (by decide) (hts (.fieldLink RX1 28 "VideoSuite$Decoder" "work" "LVideoSuite$Work;") (mu mw_644)) (fun _ h9 => h9) rfl dX1_readFour_33 ?_
    refine lv_iload_n hx hb dX1_readFour_36 rfl (lv_at hl 3 rfl) ?_
    refine lv_iload_n hx hb dX1_readFour_37 rfl (lv_at hl 0 rfl) ?_
    obtain ⟨b15, ho15, hc15, hk15, hF⟩ := dr_some hF
    refine W_st (st' := [.int s10.1, .int p0, .ref (ad b15)]) (by rw [va_some ho15]) ?_
    obtain ⟨y16, hy16, hF⟩ := bnd_some hF
    have hf9 := wA_in hD hA9 hS
    refine va_calli (va_runV (As := [.int p0, .int s10.1]) (rest := []) ⟨hx, hb, hml, hown, hts⟩ (kX9_guessMode l D ct ad Z G s10.2 H.size b15 p0 s10.1 y16 hc15 hk15 hy16) (cwV 2 hts gX1_readFour_X9_guessMode rfl rfl rfl (by decide +kernel) ⟨Nat.le_of_ble_eq_true rfl, Nat.le_of_ble_eq_true rfl⟩) ⟨fun a U g mk q => by obtain ⟨q0, q1, qP, qK, qD, qZ, qN⟩ := q; exact ⟨q0, q1, qP, va_K.moved (u := U) (U := U.calling g mk a) (Vm.Alike.refl U.vm) qK, qD, sF.moved (u := U) (U := U.calling g mk a) (Vm.Alike.refl U.vm) qZ, nF.same rfl qN⟩, va_recv hK hP (ci := 9) (q0 := b15) rfl (wld_o ct ad G s10.2 hc15 hk15 (by decide)), fun U hU hW => ⟨rfl, by rw [hU], by rw [hU]; exact hP, va_K.moved hW.alike hK, hD.weaken (fun _ _ _ _ => trivial), by rw [hU]; exact ((hZ.kept hS.2.1).narrow hf9).moved hW.alike, hN.warm hW⟩⟩ rfl rfl hl.1 rfl (lv_room (Nat.le_of_ble_eq_true rfl)) dX1_readFour_38 ⟨(Nat.zero_le _), (Nat.zero_le _)⟩) hS (fun q _ h => hf9 q h) hf9 (fun r u t H locs ht hvm hw hB hz1 hk1 hS => ?_)
    obtain ⟨hP, hK9, hD9⟩ := hB
    rw [ht] at hP
    try dsimp only at hw
    subst hw
    have hD := hD9.weaken (fun _ q _ h => hf9 q.1 h)
    refine lv_istore (lv' := [(4, .int y16.2), (3, .int s10.1), (2, .int y3.2), (0, .ref (ad a)), (1, .int p0)]) hx hb dX1_readFour_41 hl (by decide) rfl (fun ls hl => ?_)
    refine lv_iload hx hb dX1_readFour_43 (lv_at hl 0 rfl) ?_
    refine lv_istore (lv' := [(5, .int y16.2), (4, .int y16.2), (3, .int s10.1), (2, .int y3.2), (0, .ref (ad a)), (1, .int p0)]) hx hb dX1_readFour_45 hl (by decide) rfl (fun ls hl => ?_)
    refine lv_aload_n hx hb dX1_readFour_47 rfl (lv_at hl 4 rfl) ?_
    refine va_get (D := D) (ci := 1) (v := va_re ad (y16.1.2 a 0)) (C := RX1) (T := TX1) (N := 22) hx hb hts (mus hf_X1) hown hK hP a (wld_o ct ad G y16.1 hc hk (by decide)) rfl 0 (by decide) (hts (.fieldLink RX1 12 "VideoSuite$Decoder" "reader" "LVideoSuite$Reader;") (mu mw_640)) (fun _ h9 => h9) rfl dX1_readFour_48 ?_
    refine lv_iconst (v := (2 : Int32)) hx hb dX1_readFour_51 (by decide) ?_
    refine lv_iconst (v := (1 : Int32)) hx hb dX1_readFour_52 (by decide) ?_
    obtain ⟨b17, ho17, hc17, hk17, hF⟩ := dr_some hF
    refine W_st (st' := [.int (1 : Int32), .int (2 : Int32), .ref (ad b17)]) (by rw [va_some ho17]) ?_
    obtain ⟨y18, hy18, hF⟩ := bnd_some hF
    have hf9 := wA_in hD hA9 hS
    refine va_calli (va_runV (As := [.int (2 : Int32), .int (1 : Int32)]) (rest := []) ⟨hx, hb, hml, hown, hts⟩ (kX5_fixed l D ct ad Z G y16.1 H.size b17 ((2 : Int32)) ((1 : Int32)) y18 hc17 hk17 hy18) (cwV 2 hts gX1_readFour_X5_fixed rfl rfl rfl (by decide +kernel) ⟨Nat.le_of_ble_eq_true rfl, Nat.le_of_ble_eq_true rfl⟩) ⟨fun a U g mk q => by obtain ⟨q0, q1, qP, qK, qD, qZ, qN⟩ := q; exact ⟨q0, q1, qP, va_K.moved (u := U) (U := U.calling g mk a) (Vm.Alike.refl U.vm) qK, qD, sF.moved (u := U) (U := U.calling g mk a) (Vm.Alike.refl U.vm) qZ, nF.same rfl qN⟩, va_recv hK hP (ci := 5) (q0 := b17) rfl (wld_o ct ad G y16.1 hc17 hk17 (by decide)), fun U hU hW => ⟨rfl, by rw [hU], by rw [hU]; exact hP, va_K.moved hW.alike hK, hD.weaken (fun _ _ _ _ => trivial), by rw [hU]; exact ((hZ.kept hS.2.1).narrow hf9).moved hW.alike, hN.warm hW⟩⟩ rfl rfl hl.1 rfl (lv_room (Nat.le_of_ble_eq_true rfl)) dX1_readFour_53 ⟨(Nat.zero_le _), (Nat.zero_le _)⟩) hS (fun q _ h => hf9 q h) hf9 (fun r u t H locs ht hvm hw hB hz1 hk1 hS => ?_)
    obtain ⟨hP, hK9, hD9⟩ := hB
    rw [ht] at hP
    try dsimp only at hw
    subst hw
    have hD := hD9.weaken (fun _ q _ h => hf9 q.1 h)
    obtain ⟨y19, hy19, hF⟩ := bnd_some hF
    have J19 : ∀ (H : Heap) (locs : List Loc) (ls : Array Slot), va_P D classes (wld ct ad G y19.2) H → va_D A (wld ct ad G y19.2) → va_S A s.heap H locs → lv_has ls 7 [(5, .int y19.1), (4, .int y16.2), (3, .int s10.1), (2, .int y3.2), (0, .ref (ad a)), (1, .int p0)] → W p l e (headSpec wuX1_readFour ({ frames := 3, cells := 0, slots := 0, locals := 82 })).room s m ([.ref (ad a), .int p0] : List Value).toArray below meth c H locs 0 0 (MQ below (va_Qv (fun (_ : Unit) => True) (fun _ t => kE D ct ad G A y t) A) ([.ref (ad a), .int p0] : List Value).toArray s 0 0 A) (F0 m 88 ls []) := by
      intro H locs ls hP hD hS hl
      refine lv_iload hx hb dX1_readFour_88 (lv_at hl 0 rfl) ?_
      refine lv_iload_n hx hb dX1_readFour_90 rfl (lv_at hl 2 rfl) ?_
      refine lv_iload_n hx hb dX1_readFour_91 rfl (lv_at hl 3 rfl) ?_
      obtain ⟨y20, hy20, hF⟩ := bnd_some hF
      have hf9 := wA_in hD hA9 hS
      refine va_calli (va_runS (As := [.int s10.1, .int y3.2]) (rest := [.int y19.1]) ⟨hx, hb, hml, hown, hts⟩ (kX9_sidesOf l D ct ad Z G y19.2 H.size s10.1 y3.2 y20 hy20) (va_cwS 2 hts gX1_readFour_X9_sidesOf rfl rfl rfl (by decide +kernel) ⟨Nat.le_of_ble_eq_true rfl, Nat.le_of_ble_eq_true rfl⟩) ⟨fun a U g mk q => by obtain ⟨q0, q1, qP, qK, qD, qZ, qN⟩ := q; exact ⟨q0, q1, qP, va_K.moved (u := U) (U := U.calling g mk a) (Vm.Alike.refl U.vm) qK, qD, sF.moved (u := U) (U := U.calling g mk a) (Vm.Alike.refl U.vm) qZ, nF.same rfl qN⟩, fun U hU hW => ⟨rfl, by rw [hU], by rw [hU]; exact hP, va_K.moved hW.alike hK, hD.weaken (fun _ _ _ _ => trivial), by rw [hU]; exact ((hZ.kept hS.2.1).narrow hf9).moved hW.alike, hN.warm hW⟩⟩ rfl rfl hl.1 rfl (lv_room (Nat.le_of_ble_eq_true rfl)) dX1_readFour_92 ⟨(Nat.zero_le _), (Nat.zero_le _)⟩) hS (fun q _ h => hf9 q h) hf9 (fun r u t H locs ht hvm hw hB hz1 hk1 hS => ?_)
      obtain ⟨hP, hK9, hD9⟩ := hB
      rw [ht] at hP
      try dsimp only at hw
      subst hw
      have hD := hD9.weaken (fun _ q _ h => hf9 q.1 h)
      obtain ⟨y21, hy21, hF⟩ := bnd_some hF
      have hf9 := wA_in hD hA9 hS
      refine va_calli (va_runS (As := [.int y19.1, .int y20.2]) (rest := []) ⟨hx, hb, hml, hown, hts⟩ (kX9_mayBeFour l D ct ad Z G y20.1 H.size y19.1 y20.2 y21 hy21) (va_cwS 2 hts gX1_readFour_X9_mayBeFour rfl rfl rfl (by decide +kernel) ⟨Nat.le_of_ble_eq_true rfl, Nat.le_of_ble_eq_true rfl⟩) ⟨fun a U g mk q => by obtain ⟨q0, q1, qP, qK, qD, qZ, qN⟩ := q; exact ⟨q0, q1, qP, va_K.moved (u := U) (U := U.calling g mk a) (Vm.Alike.refl U.vm) qK, qD, sF.moved (u := U) (U := U.calling g mk a) (Vm.Alike.refl U.vm) qZ, nF.same rfl qN⟩, fun U hU hW => ⟨rfl, by rw [hU], by rw [hU]; exact hP, va_K.moved hW.alike hK, hD.weaken (fun _ _ _ _ => trivial), by rw [hU]; exact ((hZ.kept hS.2.1).narrow hf9).moved hW.alike, hN.warm hW⟩⟩ rfl rfl hl.1 rfl (lv_room (Nat.le_of_ble_eq_true rfl)) dX1_readFour_95 ⟨(Nat.zero_le _), (Nat.zero_le _)⟩) hS (fun q _ h => hf9 q h) hf9 (fun r u t H locs ht hvm hw hB hz1 hk1 hS => ?_)
      obtain ⟨hP, hK9, hD9⟩ := hB
      rw [ht] at hP
      try dsimp only at hw
      subst hw
      have hD := hD9.weaken (fun _ q _ h => hf9 q.1 h)
      obtain ⟨y22, hy22, hF⟩ := bnd_some hF
      have J22 : ∀ (H : Heap) (locs : List Loc) (ls : Array Slot), va_P D classes (wld ct ad G y22) H → va_D A (wld ct ad G y22) → va_S A s.heap H locs → lv_has ls 7 [(5, .int y19.1), (4, .int y16.2), (3, .int s10.1), (2, .int y3.2), (0, .ref (ad a)), (1, .int p0)] → W p l e (headSpec wuX1_readFour ({ frames := 3, cells := 0, slots := 0, locals := 82 })).room s m ([.ref (ad a), .int p0] : List Value).toArray below meth c H locs 0 0 (MQ below (va_Qv (fun (_ : Unit) => True) (fun _ t => kE D ct ad G A y t) A) ([.ref (ad a), .int p0] : List Value).toArray s 0 0 A) (F0 m 109 ls []) := by
        intro H locs ls hP hD hS hl
        refine lv_aload_n hx hb dX1_readFour_109 rfl (lv_at hl 4 rfl) ?_
        refine va_get (D := D) (ci := 1) (v := va_re ad (y22.2 a 2)) (C := RX1) (T := TX1) (N := 22) hx hb hts (mus hf_X1) hown hK hP a (wld_o ct ad G y22 hc hk (by decide)) rfl 2 (by decide) (hts (.fieldLink RX1 28 "VideoSuite$Decoder" "work" "LVideoSuite$Work;") (mu mw_644)) (fun _ h9 => h9) rfl dX1_readFour_110 ?_
        obtain ⟨b23, ho23, hc23, hk23, hF⟩ := dr_some hF
        refine W_st (st' := [.ref (ad b23)]) (by rw [va_some ho23]) ?_
        refine va_get (D := D) (ci := 9) (v := va_re ad (y22.2 b23 7)) (C := RX9) (T := TX9) (N := 20) hx hb hts (mus hf_X9) hown hK hP b23 (wld_o ct ad G y22 hc23 hk23 (by decide)) rfl 7 (by decide) (hts (.fieldLink RX1 422 "VideoSuite$Work" "mode" "[I") (mu mw_447)) (fun _ h9 => h9) rfl dX1_readFour_113 ?_
        refine lv_bipush (v := (16 : Int32)) hx hb dX1_readFour_116 (by decide) ?_
        refine lv_iload_n hx hb dX1_readFour_118 rfl (lv_at hl 5 rfl) ?_
        refine lv_imul hx hb dX1_readFour_119 ?_
        obtain ⟨x24, ex24, hF⟩ := ltt_some hF
        refine lv_topi (fun zx24 ezx24 => ?_)
        obtain rfl : x24 = zx24 := ex24.trans ezx24.symm
        refine lv_iload_n hx hb dX1_readFour_120 rfl (lv_at hl 2 rfl) ?_
        refine lv_iadd hx hb dX1_readFour_121 ?_
        obtain ⟨x25, ex25, hF⟩ := ltt_some hF
        refine lv_topi (fun zx25 ezx25 => ?_)
        obtain rfl : x25 = zx25 := ex25.trans ezx25.symm
        refine lv_iload hx hb dX1_readFour_122 (lv_at hl 0 rfl) ?_
        obtain ⟨b26, ho26, hc26, hk26, hF⟩ := dr_some hF
        refine W_st (st' := [.int y19.1, .int x25, .ref (ad b26)]) (by rw [va_some ho26]) ?_
        obtain ⟨hvc, hF⟩ := chk_some hF
        refine va_iast hx hb hK hP hD hS b26 1 (wld_i ct ad G y22 hc26 hk26) rfl hvc dX1_readFour_124 (fun H locs hP hD hS => ?_)
        obtain ⟨M27, eM27, hF⟩ := ltt_some hF
        rw [set_i ct ad G y22 hc26 hk26, ← eM27] at hP hD
        obtain ⟨x28, ex28, hF⟩ := ltt_some hF
        refine lv_iinc (v := x28) (lv' := [(3, .int x28), (5, .int y19.1), (4, .int y16.2), (2, .int y3.2), (0, .ref (ad a)), (1, .int p0)]) hx hb dX1_readFour_125 hl (k := 2) rfl (by rw [ex28]; rfl) (by decide) rfl (fun ls hl => ?_)
        refine lv_goto (tgt := 26) hx hb dX1_readFour_128 (by decide) ?_
        obtain rfl := Option.some.inj hF
        exact hwz13 _ _ _ hP hD hS (lv_sub hl [0, 3, 4, 5] rfl)
      clear hF
      have hF := hy22
      clear hy22
      refine lv_if_ne (tgt := 109) hx hb dX1_readFour_98 (by decide) (fun c29 => ?_) (fun c29 => ?_)
      · rw [if_neg c29] at hF
        obtain rfl := Option.some.inj hF
        exact J22 _ _ _ hP hD hS (lv_sub hl [0, 1, 2, 3, 4, 5] rfl)
      · rw [if_pos c29] at hF
        refine lv_aload_n hx hb dX1_readFour_101 rfl (lv_at hl 4 rfl) ?_
        refine va_get (D := D) (ci := 1) (v := va_re ad (y21.1.2 a 0)) (C := RX1) (T := TX1) (N := 22) hx hb hts (mus hf_X1) hown hK hP a (wld_o ct ad G y21.1 hc hk (by decide)) rfl 0 (by decide) (hts (.fieldLink RX1 12 "VideoSuite$Decoder" "reader" "LVideoSuite$Reader;") (mu mw_640)) (fun _ h9 => h9) rfl dX1_readFour_102 ?_
        refine lv_iconst (v := (4 : Int32)) hx hb dX1_readFour_105 (by decide) ?_
        cases hF
    clear hF
    have hF := hy19
    clear hy19
    refine lv_if_ne (tgt := 88) hx hb dX1_readFour_56 (by decide) (fun c30 => ?_) (fun c30 => ?_)
    · rw [if_neg c30] at hF
      obtain rfl := Option.some.inj hF
      exact J19 _ _ _ hP hD hS (lv_sub hl [0, 1, 2, 3, 4, 5] rfl)
    · rw [if_pos c30] at hF
      refine lv_aload_n hx hb dX1_readFour_59 rfl (lv_at hl 4 rfl) ?_
      refine va_get (D := D) (ci := 1) (v := va_re ad (y18.1.2 a 0)) (C := RX1) (T := TX1) (N := 22) hx hb hts (mus hf_X1) hown hK hP a (wld_o ct ad G y18.1 hc hk (by decide)) rfl 0 (by decide) (hts (.fieldLink RX1 12 "VideoSuite$Decoder" "reader" "LVideoSuite$Reader;") (mu mw_640)) (fun _ h9 => h9) rfl dX1_readFour_60 ?_
      refine lv_iconst (v := (3 : Int32)) hx hb dX1_readFour_63 (by decide) ?_
      refine lv_iconst (v := (3 : Int32)) hx hb dX1_readFour_64 (by decide) ?_
      obtain ⟨b31, ho31, hc31, hk31, hF⟩ := dr_some hF
      refine W_st (st' := [.int (3 : Int32), .int (3 : Int32), .ref (ad b31)]) (by rw [va_some ho31]) ?_
      obtain ⟨y32, hy32, hF⟩ := bnd_some hF
      have hf9 := wA_in hD hA9 hS
      refine va_calli (va_runV (As := [.int (3 : Int32), .int (3 : Int32)]) (rest := []) ⟨hx, hb, hml, hown, hts⟩ (kX5_fixed l D ct ad Z G y18.1 H.size b31 ((3 : Int32)) ((3 : Int32)) y32 hc31 hk31 hy32) (cwV 2 hts gX1_readFour_X5_fixed rfl rfl rfl (by decide +kernel) ⟨Nat.le_of_ble_eq_true rfl, Nat.le_of_ble_eq_true rfl⟩) ⟨fun a U g mk q => by obtain ⟨q0, q1, qP, qK, qD, qZ, qN⟩ := q; exact ⟨q0, q1, qP, va_K.moved (u := U) (U := U.calling g mk a) (Vm.Alike.refl U.vm) qK, qD, sF.moved (u := U) (U := U.calling g mk a) (Vm.Alike.refl U.vm) qZ, nF.same rfl qN⟩, va_recv hK hP (ci := 5) (q0 := b31) rfl (wld_o ct ad G y18.1 hc31 hk31 (by decide)), fun U hU hW => ⟨rfl, by rw [hU], by rw [hU]; exact hP, va_K.moved hW.alike hK, hD.weaken (fun _ _ _ _ => trivial), by rw [hU]; exact ((hZ.kept hS.2.1).narrow hf9).moved hW.alike, hN.warm hW⟩⟩ rfl rfl hl.1 rfl (lv_room (Nat.le_of_ble_eq_true rfl)) dX1_readFour_65 ⟨(Nat.zero_le _), (Nat.zero_le _)⟩) hS (fun q _ h => hf9 q h) hf9 (fun r u t H locs ht hvm hw hB hz1 hk1 hS => ?_)
      obtain ⟨hP, hK9, hD9⟩ := hB
      rw [ht] at hP
      try dsimp only at hw
      subst hw
      have hD := hD9.weaken (fun _ q _ h => hf9 q.1 h)
      refine lv_istore (lv' := [(6, .int y32.2), (5, .int y16.2), (4, .int y16.2), (3, .int s10.1), (2, .int y3.2), (0, .ref (ad a)), (1, .int p0)]) hx hb dX1_readFour_68 hl (by decide) rfl (fun ls hl => ?_)
      refine lv_iload hx hb dX1_readFour_70 (lv_at hl 0 rfl) ?_
      refine lv_iload hx hb dX1_readFour_72 (lv_at hl 2 rfl) ?_
      obtain ⟨y33, hy33, hF⟩ := bnd_some hF
      have J33 : ∀ (H : Heap) (locs : List Loc) (ls : Array Slot), va_P D classes (wld ct ad G y32.1) H → va_D A (wld ct ad G y32.1) → va_S A s.heap H locs → lv_has ls 7 [(6, .int y32.2), (5, .int y16.2), (4, .int y16.2), (3, .int s10.1), (2, .int y3.2), (0, .ref (ad a)), (1, .int p0)] → W p l e (headSpec wuX1_readFour ({ frames := 3, cells := 0, slots := 0, locals := 82 })).room s m ([.ref (ad a), .int p0] : List Value).toArray below meth c H locs 0 0 (MQ below (va_Qv (fun (_ : Unit) => True) (fun _ t => kE D ct ad G A y t) A) ([.ref (ad a), .int p0] : List Value).toArray s 0 0 A) (F0 m 86 ls [.int y33]) := by
        intro H locs ls hP hD hS hl
        refine lv_istore (lv' := [(5, .int y33), (6, .int y32.2), (4, .int y16.2), (3, .int s10.1), (2, .int y3.2), (0, .ref (ad a)), (1, .int p0)]) hx hb dX1_readFour_86 hl (by decide) rfl (fun ls hl => ?_)
        obtain rfl := Option.some.inj hF
        exact J19 _ _ _ hP hD hS (lv_sub hl [0, 2, 3, 4, 5, 6] rfl)
      clear hF
      have hF := hy33
      clear hy33
      refine lv_icmp_ge (tgt := 82) hx hb dX1_readFour_74 (by decide) (fun c34 => ?_) (fun c34 => ?_)
      · rw [if_pos c34] at hF
        refine lv_iload hx hb dX1_readFour_82 (lv_at hl 0 rfl) ?_
        refine lv_iconst (v := (1 : Int32)) hx hb dX1_readFour_84 (by decide) ?_
        refine lv_iadd hx hb dX1_readFour_85 ?_
        obtain ⟨x35, ex35, hF⟩ := ltt_some hF
        refine lv_topi (fun zx35 ezx35 => ?_)
        obtain rfl : x35 = zx35 := ex35.trans ezx35.symm
        obtain rfl := Option.some.inj hF
        exact J33 _ _ _ hP hD hS (lv_sub hl [0, 1, 2, 3, 4, 5, 6] rfl)
      · rw [if_neg c34] at hF
        refine lv_iload hx hb dX1_readFour_77 (lv_at hl 0 rfl) ?_
        refine lv_goto (tgt := 86) hx hb dX1_readFour_79 (by decide) ?_
        obtain rfl := Option.some.inj hF
        exact J33 _ _ _ hP hD hS (lv_sub hl [0, 1, 2, 3, 4, 5, 6] rfl)
set_option maxRecDepth 20000 in
theorem gX1_readPattern_X5_number : GoodIn wuX1_readPattern (wsV RX1 179 RX5 yX5_number wuX5_number) := gu_V mw_1327 mw_1328 mw_1329 mw_169 mw_1330
set_option maxRecDepth 20000 in
theorem gX1_readPattern_J7_fill_fda19 : GoodIn wuX1_readPattern (va_wsS RX1 425 yJ7_fill_fda19 wuJ7_fill_fda19) := gu_S mw_2171 mw_1556 mw_182 mw_1557
set_option maxRecDepth 20000 in
theorem dX1_readPattern_0 : decode cX1_readPattern 0 = .ok (.bipush 8, 2) := by decide +kernel
theorem dX1_readPattern_2 : decode cX1_readPattern 2 = .ok (.iload_n 1, 1) := by decide +kernel
theorem dX1_readPattern_3 : decode cX1_readPattern 3 = .ok (.imul, 1) := by decide +kernel
theorem dX1_readPattern_4 : decode cX1_readPattern 4 = .ok (.istore_n 2, 1) := by decide +kernel
theorem dX1_readPattern_5 : decode cX1_readPattern 5 = .ok (.aload_n 0, 1) := by decide +kernel
theorem dX1_readPattern_6 : decode cX1_readPattern 6 = .ok (.getfield 28, 3) := by decide +kernel
theorem dX1_readPattern_9 : decode cX1_readPattern 9 = .ok (.getfield 355, 3) := by decide +kernel
theorem dX1_readPattern_12 : decode cX1_readPattern 12 = .ok (.iload_n 2, 1) := by decide +kernel
theorem dX1_readPattern_13 : decode cX1_readPattern 13 = .ok (.iconst 0, 1) := by decide +kernel
theorem dX1_readPattern_14 : decode cX1_readPattern 14 = .ok (.iadd, 1) := by decide +kernel
theorem dX1_readPattern_15 : decode cX1_readPattern 15 = .ok (.iaload, 1) := by decide +kernel
theorem dX1_readPattern_16 : decode cX1_readPattern 16 = .ok (.istore_n 3, 1) := by decide +kernel
theorem dX1_readPattern_17 : decode cX1_readPattern 17 = .ok (.iload_n 3, 1) := by decide +kernel
theorem dX1_readPattern_18 : decode cX1_readPattern 18 = .ok (.iconst 2, 1) := by decide +kernel
theorem dX1_readPattern_19 : decode cX1_readPattern 19 = .ok (.if_icmp .ne 27, 3) := by decide +kernel
theorem dX1_readPattern_22 : decode cX1_readPattern 22 = .ok (.aload_n 0, 1) := by decide +kernel
theorem dX1_readPattern_23 : decode cX1_readPattern 23 = .ok (.getfield 28, 3) := by decide +kernel
theorem dX1_readPattern_26 : decode cX1_readPattern 26 = .ok (.getfield 476, 3) := by decide +kernel
theorem dX1_readPattern_29 : decode cX1_readPattern 29 = .ok (.bipush 24, 2) := by decide +kernel
theorem dX1_readPattern_31 : decode cX1_readPattern 31 = .ok (.iload_n 1, 1) := by decide +kernel
theorem dX1_readPattern_32 : decode cX1_readPattern 32 = .ok (.imul, 1) := by decide +kernel
theorem dX1_readPattern_33 : decode cX1_readPattern 33 = .ok (.bipush 24, 2) := by decide +kernel
theorem dX1_readPattern_35 : decode cX1_readPattern 35 = .ok (.iload_n 1, 1) := by decide +kernel
theorem dX1_readPattern_36 : decode cX1_readPattern 36 = .ok (.imul, 1) := by decide +kernel
theorem dX1_readPattern_37 : decode cX1_readPattern 37 = .ok (.bipush 24, 2) := by decide +kernel
theorem dX1_readPattern_39 : decode cX1_readPattern 39 = .ok (.iadd, 1) := by decide +kernel
theorem dX1_readPattern_40 : decode cX1_readPattern 40 = .ok (.bipush 16, 2) := by decide +kernel
theorem dX1_readPattern_42 : decode cX1_readPattern 42 = .ok (.invokestatic 425, 3) := by decide +kernel
theorem dX1_readPattern_45 : decode cX1_readPattern 45 = .ok (.return_, 1) := by decide +kernel
theorem dX1_readPattern_46 : decode cX1_readPattern 46 = .ok (.iload_n 3, 1) := by decide +kernel
theorem dX1_readPattern_47 : decode cX1_readPattern 47 = .ok (.iconst 1, 1) := by decide +kernel
theorem dX1_readPattern_48 : decode cX1_readPattern 48 = .ok (.if_icmp .eq 71, 3) := by decide +kernel
theorem dX1_readPattern_51 : decode cX1_readPattern 51 = .ok (.aload_n 0, 1) := by decide +kernel
theorem dX1_readPattern_52 : decode cX1_readPattern 52 = .ok (.getfield 12, 3) := by decide +kernel
theorem dX1_readPattern_55 : decode cX1_readPattern 55 = .ok (.bipush 9, 2) := by decide +kernel
theorem dX1_readPattern_57 : decode cX1_readPattern 57 = .ok (.iconst 0, 1) := by decide +kernel
theorem dX1_readPattern_58 : decode cX1_readPattern 58 = .ok (.lconst 0, 1) := by decide +kernel
theorem dX1_readPattern_59 : decode cX1_readPattern 59 = .ok (.ldc2_w 479, 3) := by decide +kernel
theorem dX1_readPattern_62 : decode cX1_readPattern 62 = .ok (.invokevirtual 179, 3) := by decide +kernel
theorem dX1_readPattern_65 : decode cX1_readPattern 65 = .ok (.istore 4, 2) := by decide +kernel
theorem dX1_readPattern_67 : decode cX1_readPattern 67 = .ok (.getstatic 481, 3) := by decide +kernel
theorem dX1_readPattern_70 : decode cX1_readPattern 70 = .ok (.iload_n 3, 1) := by decide +kernel
theorem dX1_readPattern_71 : decode cX1_readPattern 71 = .ok (.ifCond .ne 8, 3) := by decide +kernel
theorem dX1_readPattern_74 : decode cX1_readPattern 74 = .ok (.iload 4, 2) := by decide +kernel
theorem dX1_readPattern_76 : decode cX1_readPattern 76 = .ok (.goto 8, 3) := by decide +kernel
theorem dX1_readPattern_79 : decode cX1_readPattern 79 = .ok (.bipush 48, 2) := by decide +kernel
theorem dX1_readPattern_81 : decode cX1_readPattern 81 = .ok (.iload 4, 2) := by decide +kernel
theorem dX1_readPattern_83 : decode cX1_readPattern 83 = .ok (.iadd, 1) := by decide +kernel
theorem dX1_readPattern_84 : decode cX1_readPattern 84 = .ok (.iaload, 1) := by decide +kernel
theorem dX1_readPattern_85 : decode cX1_readPattern 85 = .ok (.istore 5, 2) := by decide +kernel
theorem dX1_readPattern_87 : decode cX1_readPattern 87 = .ok (.aload_n 0, 1) := by decide +kernel
theorem dX1_readPattern_88 : decode cX1_readPattern 88 = .ok (.getfield 28, 3) := by decide +kernel
theorem dX1_readPattern_91 : decode cX1_readPattern 91 = .ok (.getfield 355, 3) := by decide +kernel
theorem dX1_readPattern_94 : decode cX1_readPattern 94 = .ok (.iload_n 2, 1) := by decide +kernel
theorem dX1_readPattern_95 : decode cX1_readPattern 95 = .ok (.iconst 3, 1) := by decide +kernel
theorem dX1_readPattern_96 : decode cX1_readPattern 96 = .ok (.iadd, 1) := by decide +kernel
theorem dX1_readPattern_97 : decode cX1_readPattern 97 = .ok (.iload 5, 2) := by decide +kernel
theorem dX1_readPattern_99 : decode cX1_readPattern 99 = .ok (.bipush 15, 2) := by decide +kernel
theorem dX1_readPattern_101 : decode cX1_readPattern 101 = .ok (.iand, 1) := by decide +kernel
theorem dX1_readPattern_102 : decode cX1_readPattern 102 = .ok (.iastore, 1) := by decide +kernel
theorem dX1_readPattern_103 : decode cX1_readPattern 103 = .ok (.aload_n 0, 1) := by decide +kernel
theorem dX1_readPattern_104 : decode cX1_readPattern 104 = .ok (.getfield 28, 3) := by decide +kernel
theorem dX1_readPattern_107 : decode cX1_readPattern 107 = .ok (.getfield 355, 3) := by decide +kernel
theorem dX1_readPattern_110 : decode cX1_readPattern 110 = .ok (.iload_n 2, 1) := by decide +kernel
theorem dX1_readPattern_111 : decode cX1_readPattern 111 = .ok (.iconst 4, 1) := by decide +kernel
theorem dX1_readPattern_112 : decode cX1_readPattern 112 = .ok (.iadd, 1) := by decide +kernel
theorem dX1_readPattern_113 : decode cX1_readPattern 113 = .ok (.iload 5, 2) := by decide +kernel
theorem dX1_readPattern_115 : decode cX1_readPattern 115 = .ok (.bipush 16, 2) := by decide +kernel
theorem dX1_readPattern_117 : decode cX1_readPattern 117 = .ok (.idiv, 1) := by decide +kernel
theorem dX1_readPattern_118 : decode cX1_readPattern 118 = .ok (.iastore, 1) := by decide +kernel
theorem dX1_readPattern_119 : decode cX1_readPattern 119 = .ok (.iload_n 3, 1) := by decide +kernel
theorem dX1_readPattern_120 : decode cX1_readPattern 120 = .ok (.iconst 1, 1) := by decide +kernel
theorem dX1_readPattern_121 : decode cX1_readPattern 121 = .ok (.if_icmp .eq 29, 3) := by decide +kernel
theorem dX1_readPattern_124 : decode cX1_readPattern 124 = .ok (.aload_n 0, 1) := by decide +kernel
theorem dX1_readPattern_125 : decode cX1_readPattern 125 = .ok (.getfield 28, 3) := by decide +kernel
theorem dX1_readPattern_128 : decode cX1_readPattern 128 = .ok (.getfield 355, 3) := by decide +kernel
theorem dX1_readPattern_131 : decode cX1_readPattern 131 = .ok (.iload_n 2, 1) := by decide +kernel
theorem dX1_readPattern_132 : decode cX1_readPattern 132 = .ok (.iconst 3, 1) := by decide +kernel
theorem dX1_readPattern_133 : decode cX1_readPattern 133 = .ok (.iadd, 1) := by decide +kernel
theorem dX1_readPattern_134 : decode cX1_readPattern 134 = .ok (.iaload, 1) := by decide +kernel
theorem dX1_readPattern_135 : decode cX1_readPattern 135 = .ok (.aload_n 0, 1) := by decide +kernel
theorem dX1_readPattern_136 : decode cX1_readPattern 136 = .ok (.getfield 28, 3) := by decide +kernel
theorem dX1_readPattern_139 : decode cX1_readPattern 139 = .ok (.getfield 355, 3) := by decide +kernel
theorem dX1_readPattern_142 : decode cX1_readPattern 142 = .ok (.iload_n 2, 1) := by decide +kernel
theorem dX1_readPattern_143 : decode cX1_readPattern 143 = .ok (.iconst 4, 1) := by decide +kernel
theorem dX1_readPattern_144 : decode cX1_readPattern 144 = .ok (.iadd, 1) := by decide +kernel
theorem dX1_readPattern_145 : decode cX1_readPattern 145 = .ok (.iaload, 1) := by decide +kernel
theorem dX1_readPattern_146 : decode cX1_readPattern 146 = .ok (.iadd, 1) := by decide +kernel
theorem dX1_readPattern_147 : decode cX1_readPattern 147 = .ok (.ifCond .le 34, 3) := by decide +kernel
theorem dX1_readPattern_150 : decode cX1_readPattern 150 = .ok (.aload_n 0, 1) := by decide +kernel
theorem dX1_readPattern_151 : decode cX1_readPattern 151 = .ok (.aload_n 0, 1) := by decide +kernel
theorem dX1_readPattern_152 : decode cX1_readPattern 152 = .ok (.getfield 328, 3) := by decide +kernel
theorem dX1_readPattern_155 : decode cX1_readPattern 155 = .ok (.aload_n 0, 1) := by decide +kernel
theorem dX1_readPattern_156 : decode cX1_readPattern 156 = .ok (.getfield 12, 3) := by decide +kernel
theorem dX1_readPattern_159 : decode cX1_readPattern 159 = .ok (.bipush 10, 2) := by decide +kernel
theorem dX1_readPattern_161 : decode cX1_readPattern 161 = .ok (.iconst 1, 1) := by decide +kernel
theorem dX1_readPattern_162 : decode cX1_readPattern 162 = .ok (.ldc2_w 484, 3) := by decide +kernel
theorem dX1_readPattern_165 : decode cX1_readPattern 165 = .ok (.ldc2_w 486, 3) := by decide +kernel
theorem dX1_readPattern_168 : decode cX1_readPattern 168 = .ok (.invokevirtual 179, 3) := by decide +kernel
theorem dX1_readPattern_171 : decode cX1_readPattern 171 = .ok (.iadd, 1) := by decide +kernel
theorem dX1_readPattern_172 : decode cX1_readPattern 172 = .ok (.bipush 52, 2) := by decide +kernel
theorem dX1_readPattern_174 : decode cX1_readPattern 174 = .ok (.iadd, 1) := by decide +kernel
theorem dX1_readPattern_175 : decode cX1_readPattern 175 = .ok (.bipush 52, 2) := by decide +kernel
theorem dX1_readPattern_177 : decode cX1_readPattern 177 = .ok (.irem, 1) := by decide +kernel
theorem dX1_readPattern_178 : decode cX1_readPattern 178 = .ok (.putfield 328, 3) := by decide +kernel
theorem dX1_readPattern_181 : decode cX1_readPattern 181 = .ok (.aload_n 0, 1) := by decide +kernel
theorem dX1_readPattern_182 : decode cX1_readPattern 182 = .ok (.getfield 28, 3) := by decide +kernel
theorem dX1_readPattern_185 : decode cX1_readPattern 185 = .ok (.getfield 355, 3) := by decide +kernel
theorem dX1_readPattern_188 : decode cX1_readPattern 188 = .ok (.iload_n 2, 1) := by decide +kernel
theorem dX1_readPattern_189 : decode cX1_readPattern 189 = .ok (.iconst 2, 1) := by decide +kernel
theorem dX1_readPattern_190 : decode cX1_readPattern 190 = .ok (.iadd, 1) := by decide +kernel
theorem dX1_readPattern_191 : decode cX1_readPattern 191 = .ok (.aload_n 0, 1) := by decide +kernel
theorem dX1_readPattern_192 : decode cX1_readPattern 192 = .ok (.getfield 328, 3) := by decide +kernel
theorem dX1_readPattern_195 : decode cX1_readPattern 195 = .ok (.iastore, 1) := by decide +kernel
theorem dX1_readPattern_196 : decode cX1_readPattern 196 = .ok (.return_, 1) := by decide +kernel
def FX1_readPattern (G : GG) (M : DD) (a : Nat) (p0 : Int32) : Option (DD) :=
  ltt ((((8 : Int32)) * p0)) fun x1 =>
  dr G 9 ((M.2 a 2)) fun b2 =>
  ltt ((x1 + ((0 : Int32)))) fun x3 =>
  dr G 13 ((M.2 b2 6)) fun b4 =>
  chk (¬ (x3 < 0 ∨ G.2.2 b4 ≤ x3.toNatClampNeg)) <|
  ltt (M.1 b4 x3.toNatClampNeg) fun x5 =>
  if x5 = ((2 : Int32)) then (ltt ((((24 : Int32)) * p0)) fun x55 =>
  ltt ((((24 : Int32)) * p0)) fun x56 =>
  ltt ((x56 + ((24 : Int32)))) fun x57 =>
  bnd (FJ7_fill_fda19 G M ((M.2 b2 8)) x55 x57 ((16 : Int32))) fun y58 =>
  some y58) else
  (bnd (if x5 = ((1 : Int32)) then (some (M)) else
  (dr G 5 ((M.2 a 0)) fun b39 =>
  bnd (FX5_number G M b39 ((9 : Int32)) ((0 : Int32)) ((0 : Int64)) ((47 : Int64))) fun y40 =>
  bnd (if x5 = ((0 : Int32)) then (some (y40.2)) else
  (ltt ((((48 : Int32)) + y40.2)) fun x54 =>
  some (x54))) fun (y41 : Int32) =>
  chk (¬ (y41 < 0 ∨ 96 ≤ y41.toNatClampNeg)) <|
  ltt ((sT 9).getD y41.toNatClampNeg 0) fun x42 =>
  dr G 9 ((y40.1.2 a 2)) fun b43 =>
  ltt ((x1 + ((3 : Int32)))) fun x44 =>
  ltt ((x42 &&& ((15 : Int32)))) fun x45 =>
  dr G 13 ((y40.1.2 b43 6)) fun b46 =>
  chk (¬ (x44 < 0 ∨ G.2.2 b46 ≤ x44.toNatClampNeg)) <|
  ltt (uI y40.1 b46 x44.toNatClampNeg x45) fun M47 =>
  dr G 9 ((M47.2 a 2)) fun b48 =>
  ltt ((x1 + ((4 : Int32)))) fun x49 =>
  ltt (x42 / ((16 : Int32))) fun x50 =>
  dr G 13 ((M47.2 b48 6)) fun b51 =>
  chk (¬ (x49 < 0 ∨ G.2.2 b51 ≤ x49.toNatClampNeg)) <|
  ltt (uI M47 b51 x49.toNatClampNeg x50) fun M52 =>
  some (M52))) fun (y7 : DD) =>
  bnd (if x5 = ((1 : Int32)) then (ltt (y7.1 a 20) fun x15 =>
  dr G 5 ((y7.2 a 0)) fun b16 =>
  bnd (FX5_number G y7 b16 ((10 : Int32)) ((1 : Int32)) ((-26 : Int64)) ((25 : Int64))) fun y17 =>
  ltt ((x15 + y17.2)) fun x18 =>
  ltt ((x18 + ((52 : Int32)))) fun x19 =>
  ltt (x19 - x19 / ((52 : Int32)) * ((52 : Int32))) fun x20 =>
  ltt (uI y17.1 a 20 x20) fun M21 =>
  some (M21)) else
  (dr G 9 ((y7.2 a 2)) fun b22 =>
  ltt ((x1 + ((3 : Int32)))) fun x23 =>
  dr G 13 ((y7.2 b22 6)) fun b24 =>
  chk (¬ (x23 < 0 ∨ G.2.2 b24 ≤ x23.toNatClampNeg)) <|
  ltt (y7.1 b24 x23.toNatClampNeg) fun x25 =>
  ltt ((x1 + ((4 : Int32)))) fun x26 =>
  chk (¬ (x26 < 0 ∨ G.2.2 b24 ≤ x26.toNatClampNeg)) <|
  ltt (y7.1 b24 x26.toNatClampNeg) fun x27 =>
  ltt ((x25 + x27)) fun x28 =>
  bnd (if x28 ≤ ((0 : Int32)) then (some (y7)) else
  (ltt (y7.1 a 20) fun x31 =>
  dr G 5 ((y7.2 a 0)) fun b32 =>
  bnd (FX5_number G y7 b32 ((10 : Int32)) ((1 : Int32)) ((-26 : Int64)) ((25 : Int64))) fun y33 =>
  ltt ((x31 + y33.2)) fun x34 =>
  ltt ((x34 + ((52 : Int32)))) fun x35 =>
  ltt (x35 - x35 / ((52 : Int32)) * ((52 : Int32))) fun x36 =>
  ltt (uI y33.1 a 20 x36) fun M37 =>
  some (M37))) fun (y29 : DD) =>
  some (y29))) fun (y8 : DD) =>
  dr G 9 ((y8.2 a 2)) fun b9 =>
  ltt ((x1 + ((2 : Int32)))) fun x10 =>
  ltt (y8.1 a 20) fun x11 =>
  dr G 13 ((y8.2 b9 6)) fun b12 =>
  chk (¬ (x10 < 0 ∨ G.2.2 b12 ≤ x10.toNatClampNeg)) <|
  ltt (uI y8 b12 x10.toNatClampNeg x11) fun M13 =>
  some M13)
set_option maxHeartbeats 4000000 in
set_option maxRecDepth 100000 in
theorem kX1_readPattern (l : Launch) (D : va_G) (ct : CT) (ad : Nat → Nat) (Z : Nat → Nat) (G : GG) (M : DD) (sz : Nat) (a : Nat) (p0 : Int32) (y : DD) (hc : a < G.1) (hk : G.2.1 a = 1) (hF : FX1_readPattern G M a p0 = some y) : Met l yX1_readPattern wuX1_readPattern ({ frames := 2, cells := 0, slots := 0, locals := 59 }) (va_Pc [.ref (ad a), .int p0] (kB D ct ad Z G M sz)) (va_Qv (fun (_ : Unit) => True) (fun _ t => kE D ct ad G (wA ad G sz) y t) (wA ad G sz)) 0 0 (wA ad G sz) := by
  refine Met.ofW (cc := cX1_readPattern) (maxL := 6) (ret := none) (by decide) rfl ?_
  intro p e s m args below meth c s₁ B hml hv
  obtain ⟨rfl, hsz, hP, hK, hD0, hZ, hN⟩ := hv
  have hx := B.exec
  have hb := B.bytes
  have hr := B.returns
  have hts := atoms_spec (ws := wuX1_readPattern) B.pre
  have hown : s.vm.findClass RX1 = some m.cls := findClass_of_methodNamed B.named
  have hlocks := B.notSynchronized
  subst hsz
  have hD := wD_self (sz := s.heap.size) hD0
  have hA9 : ∀ q, s.heap.size ≤ q → wA ad G s.heap.size q := fun q h => Or.inr h
  generalize hAe : wA ad G s.heap.size = A at hD hA9 hZ ⊢
  have hS : va_S A s.heap s.heap [] := va_S.rf
  have hl := lv_entry ([.ref (ad a), .int p0]) (n := 6) (Nat.le_of_ble_eq_true rfl)
  rw [lg_entry_eq]
  generalize (lg_sl ([.ref (ad a), .int p0]) ++ List.replicate (6 - (lg_sl ([.ref (ad a), .int p0])).length) Slot.unset).toArray = ls at hl ⊢
  have hl : lv_has ls 6 [(0, .ref (ad a)), (1, .int p0)] := hl
  unfold FX1_readPattern at hF
  refine lv_bipush (v := (8 : Int32)) hx hb dX1_readPattern_0 (by decide) ?_
  refine lv_iload_n hx hb dX1_readPattern_2 rfl (lv_at hl 1 rfl) ?_
  refine lv_imul hx hb dX1_readPattern_3 ?_
  obtain ⟨x1, ex1, hF⟩ := ltt_some hF
  refine lv_topi (fun zx1 ezx1 => ?_)
  obtain rfl : x1 = zx1 := ex1.trans ezx1.symm
  refine lv_istore_n (lv' := [(2, .int x1), (0, .ref (ad a)), (1, .int p0)]) hx hb dX1_readPattern_4 rfl hl (by decide) rfl (fun ls hl => ?_)
  refine lv_aload_n hx hb dX1_readPattern_5 rfl (lv_at hl 1 rfl) ?_
  refine va_get (D := D) (ci := 1) (v := va_re ad (M.2 a 2)) (C := RX1) (T := TX1) (N := 22) hx hb hts (mus hf_X1) hown hK hP a (wld_o ct ad G M hc hk (by decide)) rfl 2 (by decide) (hts (.fieldLink RX1 28 "VideoSuite$Decoder" "work" "LVideoSuite$Work;") (mu mw_644)) (fun _ h9 => h9) rfl dX1_readPattern_6 ?_
  obtain ⟨b2, ho2, hc2, hk2, hF⟩ := dr_some hF
  refine W_st (st' := [.ref (ad b2)]) (by rw [va_some ho2]) ?_
  refine va_get (D := D) (ci := 9) (v := va_re ad (M.2 b2 6)) (C := RX9) (T := TX9) (N := 20) hx hb hts (mus hf_X9) hown hK hP b2 (wld_o ct ad G M hc2 hk2 (by decide)) rfl 6 (by decide) (hts (.fieldLink RX1 355 "VideoSuite$Work" "info" "[I") (mu mw_444)) (fun _ h9 => h9) rfl dX1_readPattern_9 ?_
  refine lv_iload_n hx hb dX1_readPattern_12 rfl (lv_at hl 0 rfl) ?_
  refine lv_iconst (v := (0 : Int32)) hx hb dX1_readPattern_13 (by decide) ?_
  refine lv_iadd hx hb dX1_readPattern_14 ?_
  obtain ⟨x3, ex3, hF⟩ := ltt_some hF
  refine lv_topi (fun zx3 ezx3 => ?_)
  obtain rfl : x3 = zx3 := ex3.trans ezx3.symm
  obtain ⟨b4, ho4, hc4, hk4, hF⟩ := dr_some hF
  refine W_st (st' := [.int x3, .ref (ad b4)]) (by rw [va_some ho4]) ?_
  obtain ⟨hvc, hF⟩ := chk_some hF
  refine va_iald hx hb hK hP b4 1 (wld_i ct ad G M hc4 hk4) rfl hvc dX1_readPattern_15 ?_
  obtain ⟨x5, ex5, hF⟩ := ltt_some hF
  refine lv_topi (fun zx5 ezx5 => ?_)
  obtain rfl : x5 = zx5 := ex5.trans ezx5.symm
  refine lv_istore_n (lv' := [(3, .int x5), (2, .int x1), (0, .ref (ad a)), (1, .int p0)]) hx hb dX1_readPattern_16 rfl hl (by decide) rfl (fun ls hl => ?_)
  refine lv_iload_n hx hb dX1_readPattern_17 rfl (lv_at hl 0 rfl) ?_
  refine lv_iconst (v := (2 : Int32)) hx hb dX1_readPattern_18 (by decide) ?_
  refine lv_icmp_ne (tgt := 46) hx hb dX1_readPattern_19 (by decide) (fun c6 => ?_) (fun c6 => ?_)
  · rw [if_neg c6] at hF
    refine lv_iload_n hx hb dX1_readPattern_46 rfl (lv_at hl 0 rfl) ?_
    refine lv_iconst (v := (1 : Int32)) hx hb dX1_readPattern_47 (by decide) ?_
    obtain ⟨y7, hy7, hF⟩ := bnd_some hF
    have J7 : ∀ (H : Heap) (locs : List Loc) (ls : Array Slot), va_P D classes (wld ct ad G y7) H → va_D A (wld ct ad G y7) → va_S A s.heap H locs → lv_has ls 6 [(3, .int x5), (2, .int x1), (0, .ref (ad a)), (1, .int p0)] → W p l e (headSpec wuX1_readPattern ({ frames := 2, cells := 0, slots := 0, locals := 59 })).room s m ([.ref (ad a), .int p0] : List Value).toArray below meth c H locs 0 0 (MQ below (va_Qv (fun (_ : Unit) => True) (fun _ t => kE D ct ad G A y t) A) ([.ref (ad a), .int p0] : List Value).toArray s 0 0 A) (F0 m 119 ls []) := by
      intro H locs ls hP hD hS hl
      refine lv_iload_n hx hb dX1_readPattern_119 rfl (lv_at hl 0 rfl) ?_
      refine lv_iconst (v := (1 : Int32)) hx hb dX1_readPattern_120 (by decide) ?_
      obtain ⟨y8, hy8, hF⟩ := bnd_some hF
      have J8 : ∀ (H : Heap) (locs : List Loc) (ls : Array Slot), va_P D classes (wld ct ad G y8) H → va_D A (wld ct ad G y8) → va_S A s.heap H locs → lv_has ls 6 [(3, .int x5), (2, .int x1), (0, .ref (ad a)), (1, .int p0)] → W p l e (headSpec wuX1_readPattern ({ frames := 2, cells := 0, slots := 0, locals := 59 })).room s m ([.ref (ad a), .int p0] : List Value).toArray below meth c H locs 0 0 (MQ below (va_Qv (fun (_ : Unit) => True) (fun _ t => kE D ct ad G A y t) A) ([.ref (ad a), .int p0] : List Value).toArray s 0 0 A) (F0 m 181 ls []) := by
        intro H locs ls hP hD hS hl
        refine lv_aload_n hx hb dX1_readPattern_181 rfl (lv_at hl 2 rfl) ?_
        refine va_get (D := D) (ci := 1) (v := va_re ad (y8.2 a 2)) (C := RX1) (T := TX1) (N := 22) hx hb hts (mus hf_X1) hown hK hP a (wld_o ct ad G y8 hc hk (by decide)) rfl 2 (by decide) (hts (.fieldLink RX1 28 "VideoSuite$Decoder" "work" "LVideoSuite$Work;") (mu mw_644)) (fun _ h9 => h9) rfl dX1_readPattern_182 ?_
        obtain ⟨b9, ho9, hc9, hk9, hF⟩ := dr_some hF
        refine W_st (st' := [.ref (ad b9)]) (by rw [va_some ho9]) ?_
        refine va_get (D := D) (ci := 9) (v := va_re ad (y8.2 b9 6)) (C := RX9) (T := TX9) (N := 20) hx hb hts (mus hf_X9) hown hK hP b9 (wld_o ct ad G y8 hc9 hk9 (by decide)) rfl 6 (by decide) (hts (.fieldLink RX1 355 "VideoSuite$Work" "info" "[I") (mu mw_444)) (fun _ h9 => h9) rfl dX1_readPattern_185 ?_
        refine lv_iload_n hx hb dX1_readPattern_188 rfl (lv_at hl 1 rfl) ?_
        refine lv_iconst (v := (2 : Int32)) hx hb dX1_readPattern_189 (by decide) ?_
        refine lv_iadd hx hb dX1_readPattern_190 ?_
        obtain ⟨x10, ex10, hF⟩ := ltt_some hF
        refine lv_topi (fun zx10 ezx10 => ?_)
        obtain rfl : x10 = zx10 := ex10.trans ezx10.symm
        refine lv_aload_n hx hb dX1_readPattern_191 rfl (lv_at hl 2 rfl) ?_
        refine va_get (D := D) (ci := 1) (v := .int (y8.1 a 20)) (C := RX1) (T := TX1) (N := 22) hx hb hts (mus hf_X1) hown hK hP a (wld_o ct ad G y8 hc hk (by decide)) rfl 20 (by decide) (hts (.fieldLink RX1 328 "VideoSuite$Decoder" "step" "I") (mu mw_667)) (fun _ h9 => h9) rfl dX1_readPattern_192 ?_
        obtain ⟨x11, ex11, hF⟩ := ltt_some hF
        refine lv_topi (fun zx11 ezx11 => ?_)
        obtain rfl : x11 = zx11 := ex11.trans ezx11.symm
        obtain ⟨b12, ho12, hc12, hk12, hF⟩ := dr_some hF
        refine W_st (st' := [.int x11, .int x10, .ref (ad b12)]) (by rw [va_some ho12]) ?_
        obtain ⟨hvc, hF⟩ := chk_some hF
        refine va_iast hx hb hK hP hD hS b12 1 (wld_i ct ad G y8 hc12 hk12) rfl hvc dX1_readPattern_195 (fun H locs hP hD hS => ?_)
        obtain ⟨M13, eM13, hF⟩ := ltt_some hF
        rw [set_i ct ad G y8 hc12 hk12, ← eM13] at hP hD
        obtain rfl := Option.some.inj hF
        exact W.vret hx hb hr (fun t ht hW => ⟨⟨(), rfl, trivial, ⟨by rw [ht]; exact hP, va_K.moved hW.alike hK, hD⟩⟩, hS.F ht⟩) hS.2.2 dX1_readPattern_196
      clear hF
      have hF := hy8
      clear hy8
      refine lv_icmp_eq (tgt := 150) hx hb dX1_readPattern_121 (by decide) (fun c14 => ?_) (fun c14 => ?_)
      · rw [if_pos c14] at hF
        refine lv_aload_n hx hb dX1_readPattern_150 rfl (lv_at hl 2 rfl) ?_
        refine lv_aload_n hx hb dX1_readPattern_151 rfl (lv_at hl 2 rfl) ?_
        refine va_get (D := D) (ci := 1) (v := .int (y7.1 a 20)) (C := RX1) (T := TX1) (N := 22) hx hb hts (mus hf_X1) hown hK hP a (wld_o ct ad G y7 hc hk (by decide)) rfl 20 (by decide) (hts (.fieldLink RX1 328 "VideoSuite$Decoder" "step" "I") (mu mw_667)) (fun _ h9 => h9) rfl dX1_readPattern_152 ?_
        obtain ⟨x15, ex15, hF⟩ := ltt_some hF
        refine lv_topi (fun zx15 ezx15 => ?_)
        obtain rfl : x15 = zx15 := ex15.trans ezx15.symm
        refine lv_aload_n hx hb dX1_readPattern_155 rfl (lv_at hl 2 rfl) ?_
        refine va_get (D := D) (ci := 1) (v := va_re ad (y7.2 a 0)) (C := RX1) (T := TX1) (N := 22) hx hb hts (mus hf_X1) hown hK hP a (wld_o ct ad G y7 hc hk (by decide)) rfl 0 (by decide) (hts (.fieldLink RX1 12 "VideoSuite$Decoder" "reader" "LVideoSuite$Reader;") (mu mw_640)) (fun _ h9 => h9) rfl dX1_readPattern_156 ?_
        refine lv_bipush (v := (10 : Int32)) hx hb dX1_readPattern_159 (by decide) ?_
        refine lv_iconst (v := (1 : Int32)) hx hb dX1_readPattern_161 (by decide) ?_
        refine lv_ldc2 (v := (-26 : Int64)) hx hb hown (hts (.constantLong RX1 484 (-26 : Int64)) (mu mw_2236)) dX1_readPattern_162 ?_
        refine lv_ldc2 (v := (25 : Int64)) hx hb hown (hts (.constantLong RX1 486 (25 : Int64)) (mu mw_2237)) dX1_readPattern_165 ?_
        obtain ⟨b16, ho16, hc16, hk16, hF⟩ := dr_some hF
        refine W_st (st' := [.long (25 : Int64), .long (-26 : Int64), .int (1 : Int32), .int (10 : Int32), .ref (ad b16), .int x15, .ref (ad a)]) (by rw [va_some ho16]) ?_
        obtain ⟨y17, hy17, hF⟩ := bnd_some hF
        have hf9 := wA_in hD hA9 hS
        refine va_calli (va_runV (As := [.int (10 : Int32), .int (1 : Int32), .long (-26 : Int64), .long (25 : Int64)]) (rest := [.int x15, .ref (ad a)]) ⟨hx, hb, hml, hown, hts⟩ (kX5_number l D ct ad Z G y7 H.size b16 ((10 : Int32)) ((1 : Int32)) ((-26 : Int64)) ((25 : Int64)) y17 hc16 hk16 hy17) (cwV 4 hts gX1_readPattern_X5_number rfl rfl rfl (by decide +kernel) ⟨Nat.le_of_ble_eq_true rfl, Nat.le_of_ble_eq_true rfl⟩) ⟨fun a U g mk q => by obtain ⟨q0, q1, qP, qK, qD, qZ, qN⟩ := q; exact ⟨q0, q1, qP, va_K.moved (u := U) (U := U.calling g mk a) (Vm.Alike.refl U.vm) qK, qD, sF.moved (u := U) (U := U.calling g mk a) (Vm.Alike.refl U.vm) qZ, nF.same rfl qN⟩, va_recv hK hP (ci := 5) (q0 := b16) rfl (wld_o ct ad G y7 hc16 hk16 (by decide)), fun U hU hW => ⟨rfl, by rw [hU], by rw [hU]; exact hP, va_K.moved hW.alike hK, hD.weaken (fun _ _ _ _ => trivial), by rw [hU]; exact ((hZ.kept hS.2.1).narrow hf9).moved hW.alike, hN.warm hW⟩⟩ rfl rfl hl.1 rfl (lv_room (Nat.le_of_ble_eq_true rfl)) dX1_readPattern_168 ⟨(Nat.zero_le _), (Nat.zero_le _)⟩) hS (fun q _ h => hf9 q h) hf9 (fun r u t H locs ht hvm hw hB hz1 hk1 hS => ?_)
        obtain ⟨hP, hK9, hD9⟩ := hB
        rw [ht] at hP
        try dsimp only at hw
        subst hw
        have hD := hD9.weaken (fun _ q _ h => hf9 q.1 h)
        refine lv_iadd hx hb dX1_readPattern_171 ?_
        obtain ⟨x18, ex18, hF⟩ := ltt_some hF
        refine lv_topi (fun zx18 ezx18 => ?_)
        obtain rfl : x18 = zx18 := ex18.trans ezx18.symm
        refine lv_bipush (v := (52 : Int32)) hx hb dX1_readPattern_172 (by decide) ?_
        refine lv_iadd hx hb dX1_readPattern_174 ?_
        obtain ⟨x19, ex19, hF⟩ := ltt_some hF
        refine lv_topi (fun zx19 ezx19 => ?_)
        obtain rfl : x19 = zx19 := ex19.trans ezx19.symm
        refine lv_bipush (v := (52 : Int32)) hx hb dX1_readPattern_175 (by decide) ?_
        refine lv_irem hx hb dX1_readPattern_177 (by decide) ?_
        obtain ⟨x20, ex20, hF⟩ := ltt_some hF
        refine lv_topi (fun zx20 ezx20 => ?_)
        obtain rfl : x20 = zx20 := ex20.trans ezx20.symm
        refine va_put (D := D) (ci := 1) (v := .int x20) (ty := .int) (C := RX1) (T := TX1) (N := 22) hx hb hts (mus hf_X1) tyX1 tyX1_ok nmX1 hown hK hP hD hS a (wld_o ct ad G y17.1 hc hk (by decide)) rfl 20 (by decide) (hts (.fieldLink RX1 328 "VideoSuite$Decoder" "step" "I") (mu mw_667)) (fun _ h9 => h9) rfl (by decide +kernel) rfl rfl (Nat.le_of_ble_eq_true rfl) dX1_readPattern_178 (fun H locs hP hD hS => ?_)
        obtain ⟨M21, eM21, hF⟩ := ltt_some hF
        rw [set_oI ct ad G y17.1 hc hk (by decide) (by rfl), ← eM21] at hP hD
        obtain rfl := Option.some.inj hF
        exact J8 _ _ _ hP hD hS (lv_sub hl [0, 1, 2, 3] rfl)
      · rw [if_neg c14] at hF
        refine lv_aload_n hx hb dX1_readPattern_124 rfl (lv_at hl 2 rfl) ?_
        refine va_get (D := D) (ci := 1) (v := va_re ad (y7.2 a 2)) (C := RX1) (T := TX1) (N := 22) hx hb hts (mus hf_X1) hown hK hP a (wld_o ct ad G y7 hc hk (by decide)) rfl 2 (by decide) (hts (.fieldLink RX1 28 "VideoSuite$Decoder" "work" "LVideoSuite$Work;") (mu mw_644)) (fun _ h9 => h9) rfl dX1_readPattern_125 ?_
        obtain ⟨b22, ho22, hc22, hk22, hF⟩ := dr_some hF
        refine W_st (st' := [.ref (ad b22)]) (by rw [va_some ho22]) ?_
        refine va_get (D := D) (ci := 9) (v := va_re ad (y7.2 b22 6)) (C := RX9) (T := TX9) (N := 20) hx hb hts (mus hf_X9) hown hK hP b22 (wld_o ct ad G y7 hc22 hk22 (by decide)) rfl 6 (by decide) (hts (.fieldLink RX1 355 "VideoSuite$Work" "info" "[I") (mu mw_444)) (fun _ h9 => h9) rfl dX1_readPattern_128 ?_
        refine lv_iload_n hx hb dX1_readPattern_131 rfl (lv_at hl 1 rfl) ?_
        refine lv_iconst (v := (3 : Int32)) hx hb dX1_readPattern_132 (by decide) ?_
        refine lv_iadd hx hb dX1_readPattern_133 ?_
        obtain ⟨x23, ex23, hF⟩ := ltt_some hF
        refine lv_topi (fun zx23 ezx23 => ?_)
        obtain rfl : x23 = zx23 := ex23.trans ezx23.symm
        obtain ⟨b24, ho24, hc24, hk24, hF⟩ := dr_some hF
        refine W_st (st' := [.int x23, .ref (ad b24)]) (by rw [va_some ho24]) ?_
        obtain ⟨hvc, hF⟩ := chk_some hF
        refine va_iald hx hb hK hP b24 1 (wld_i ct ad G y7 hc24 hk24) rfl hvc dX1_readPattern_134 ?_
        obtain ⟨x25, ex25, hF⟩ := ltt_some hF
        refine lv_topi (fun zx25 ezx25 => ?_)
        obtain rfl : x25 = zx25 := ex25.trans ezx25.symm
        refine lv_aload_n hx hb dX1_readPattern_135 rfl (lv_at hl 2 rfl) ?_
        refine va_get (D := D) (ci := 1) (v := va_re ad (y7.2 a 2)) (C := RX1) (T := TX1) (N := 22) hx hb hts (mus hf_X1) hown hK hP a (wld_o ct ad G y7 hc hk (by decide)) rfl 2 (by decide) (hts (.fieldLink RX1 28 "VideoSuite$Decoder" "work" "LVideoSuite$Work;") (mu mw_644)) (fun _ h9 => h9) rfl dX1_readPattern_136 ?_
        refine W_st (st' := [.ref (ad b22), .int x25]) (by rw [va_some ho22]) ?_
        refine va_get (D := D) (ci := 9) (v := va_re ad (y7.2 b22 6)) (C := RX9) (T := TX9) (N := 20) hx hb hts (mus hf_X9) hown hK hP b22 (wld_o ct ad G y7 hc22 hk22 (by decide)) rfl 6 (by decide) (hts (.fieldLink RX1 355 "VideoSuite$Work" "info" "[I") (mu mw_444)) (fun _ h9 => h9) rfl dX1_readPattern_139 ?_
        refine lv_iload_n hx hb dX1_readPattern_142 rfl (lv_at hl 1 rfl) ?_
        refine lv_iconst (v := (4 : Int32)) hx hb dX1_readPattern_143 (by decide) ?_
        refine lv_iadd hx hb dX1_readPattern_144 ?_
        obtain ⟨x26, ex26, hF⟩ := ltt_some hF
        refine lv_topi (fun zx26 ezx26 => ?_)
        obtain rfl : x26 = zx26 := ex26.trans ezx26.symm
        refine W_st (st' := [.int x26, .ref (ad b24), .int x25]) (by rw [va_some ho24]) ?_
        obtain ⟨hvc, hF⟩ := chk_some hF
        refine va_iald hx hb hK hP b24 1 (wld_i ct ad G y7 hc24 hk24) rfl hvc dX1_readPattern_145 ?_
        obtain ⟨x27, ex27, hF⟩ := ltt_some hF
        refine lv_topi (fun zx27 ezx27 => ?_)
        obtain rfl : x27 = zx27 := ex27.trans ezx27.symm
        refine lv_iadd hx hb dX1_readPattern_146 ?_
        obtain ⟨x28, ex28, hF⟩ := ltt_some hF
        refine lv_topi (fun zx28 ezx28 => ?_)
        obtain rfl : x28 = zx28 := ex28.trans ezx28.symm
        obtain ⟨y29, hy29, hF⟩ := bnd_some hF
        have J29 : ∀ (H : Heap) (locs : List Loc) (ls : Array Slot), va_P D classes (wld ct ad G y29) H → va_D A (wld ct ad G y29) → va_S A s.heap H locs → lv_has ls 6 [(3, .int x5), (2, .int x1), (0, .ref (ad a)), (1, .int p0)] → W p l e (headSpec wuX1_readPattern ({ frames := 2, cells := 0, slots := 0, locals := 59 })).room s m ([.ref (ad a), .int p0] : List Value).toArray below meth c H locs 0 0 (MQ below (va_Qv (fun (_ : Unit) => True) (fun _ t => kE D ct ad G A y t) A) ([.ref (ad a), .int p0] : List Value).toArray s 0 0 A) (F0 m 181 ls []) := by
          intro H locs ls hP hD hS hl
          obtain rfl := Option.some.inj hF
          exact J8 _ _ _ hP hD hS (lv_sub hl [0, 1, 2, 3] rfl)
        clear hF
        have hF := hy29
        clear hy29
        refine lv_if_le (tgt := 181) hx hb dX1_readPattern_147 (by decide) (fun c30 => ?_) (fun c30 => ?_)
        · rw [if_pos c30] at hF
          obtain rfl := Option.some.inj hF
          exact J29 _ _ _ hP hD hS (lv_sub hl [0, 1, 2, 3] rfl)
        · rw [if_neg c30] at hF
          refine lv_aload_n hx hb dX1_readPattern_150 rfl (lv_at hl 2 rfl) ?_
          refine lv_aload_n hx hb dX1_readPattern_151 rfl (lv_at hl 2 rfl) ?_
          refine va_get (D := D) (ci := 1) (v := .int (y7.1 a 20)) (C := RX1) (T := TX1) (N := 22) hx hb hts (mus hf_X1) hown hK hP a (wld_o ct ad G y7 hc hk (by decide)) rfl 20 (by decide) (hts (.fieldLink RX1 328 "VideoSuite$Decoder" "step" "I") (mu mw_667)) (fun _ h9 => h9) rfl dX1_readPattern_152 ?_
          obtain ⟨x31, ex31, hF⟩ := ltt_some hF
          refine lv_topi (fun zx31 ezx31 => ?_)
          obtain rfl : x31 = zx31 := ex31.trans ezx31.symm
          refine lv_aload_n hx hb dX1_readPattern_155 rfl (lv_at hl 2 rfl) ?_
          refine va_get (D := D) (ci := 1) (v := va_re ad (y7.2 a 0)) (C := RX1) (T := TX1) (N := 22) hx hb hts (mus hf_X1) hown hK hP a (wld_o ct ad G y7 hc hk (by decide)) rfl 0 (by decide) (hts (.fieldLink RX1 12 "VideoSuite$Decoder" "reader" "LVideoSuite$Reader;") (mu mw_640)) (fun _ h9 => h9) rfl dX1_readPattern_156 ?_
          refine lv_bipush (v := (10 : Int32)) hx hb dX1_readPattern_159 (by decide) ?_
          refine lv_iconst (v := (1 : Int32)) hx hb dX1_readPattern_161 (by decide) ?_
          refine lv_ldc2 (v := (-26 : Int64)) hx hb hown (hts (.constantLong RX1 484 (-26 : Int64)) (mu mw_2236)) dX1_readPattern_162 ?_
          refine lv_ldc2 (v := (25 : Int64)) hx hb hown (hts (.constantLong RX1 486 (25 : Int64)) (mu mw_2237)) dX1_readPattern_165 ?_
          obtain ⟨b32, ho32, hc32, hk32, hF⟩ := dr_some hF
          refine W_st (st' := [.long (25 : Int64), .long (-26 : Int64), .int (1 : Int32), .int (10 : Int32), .ref (ad b32), .int x31, .ref (ad a)]) (by rw [va_some ho32]) ?_
          obtain ⟨y33, hy33, hF⟩ := bnd_some hF
          have hf9 := wA_in hD hA9 hS
          refine va_calli (va_runV (As := [.int (10 : Int32), .int (1 : Int32), .long (-26 : Int64), .long (25 : Int64)]) (rest := [.int x31, .ref (ad a)]) ⟨hx, hb, hml, hown, hts⟩ (kX5_number l D ct ad Z G y7 H.size b32 ((10 : Int32)) ((1 : Int32)) ((-26 : Int64)) ((25 : Int64)) y33 hc32 hk32 hy33) (cwV 4 hts gX1_readPattern_X5_number rfl rfl rfl (by decide +kernel) ⟨Nat.le_of_ble_eq_true rfl, Nat.le_of_ble_eq_true rfl⟩) ⟨fun a U g mk q => by obtain ⟨q0, q1, qP, qK, qD, qZ, qN⟩ := q; exact ⟨q0, q1, qP, va_K.moved (u := U) (U := U.calling g mk a) (Vm.Alike.refl U.vm) qK, qD, sF.moved (u := U) (U := U.calling g mk a) (Vm.Alike.refl U.vm) qZ, nF.same rfl qN⟩, va_recv hK hP (ci := 5) (q0 := b32) rfl (wld_o ct ad G y7 hc32 hk32 (by decide)), fun U hU hW => ⟨rfl, by rw [hU], by rw [hU]; exact hP, va_K.moved hW.alike hK, hD.weaken (fun _ _ _ _ => trivial), by rw [hU]; exact ((hZ.kept hS.2.1).narrow hf9).moved hW.alike, hN.warm hW⟩⟩ rfl rfl hl.1 rfl (lv_room (Nat.le_of_ble_eq_true rfl)) dX1_readPattern_168 ⟨(Nat.zero_le _), (Nat.zero_le _)⟩) hS (fun q _ h => hf9 q h) hf9 (fun r u t H locs ht hvm hw hB hz1 hk1 hS => ?_)
          obtain ⟨hP, hK9, hD9⟩ := hB
          rw [ht] at hP
          try dsimp only at hw
          subst hw
          have hD := hD9.weaken (fun _ q _ h => hf9 q.1 h)
          refine lv_iadd hx hb dX1_readPattern_171 ?_
          obtain ⟨x34, ex34, hF⟩ := ltt_some hF
          refine lv_topi (fun zx34 ezx34 => ?_)
          obtain rfl : x34 = zx34 := ex34.trans ezx34.symm
          refine lv_bipush (v := (52 : Int32)) hx hb dX1_readPattern_172 (by decide) ?_
          refine lv_iadd hx hb dX1_readPattern_174 ?_
          obtain ⟨x35, ex35, hF⟩ := ltt_some hF
          refine lv_topi (fun zx35 ezx35 => ?_)
          obtain rfl : x35 = zx35 := ex35.trans ezx35.symm
          refine lv_bipush (v := (52 : Int32)) hx hb dX1_readPattern_175 (by decide) ?_
          refine lv_irem hx hb dX1_readPattern_177 (by decide) ?_
          obtain ⟨x36, ex36, hF⟩ := ltt_some hF
          refine lv_topi (fun zx36 ezx36 => ?_)
          obtain rfl : x36 = zx36 := ex36.trans ezx36.symm
          refine va_put (D := D) (ci := 1) (v := .int x36) (ty := .int) (C := RX1) (T := TX1) (N := 22) hx hb hts (mus hf_X1) tyX1 tyX1_ok nmX1 hown hK hP hD hS a (wld_o ct ad G y33.1 hc hk (by decide)) rfl 20 (by decide) (hts (.fieldLink RX1 328 "VideoSuite$Decoder" "step" "I") (mu mw_667)) (fun _ h9 => h9) rfl (by decide +kernel) rfl rfl (Nat.le_of_ble_eq_true rfl) dX1_readPattern_178 (fun H locs hP hD hS => ?_)
          obtain ⟨M37, eM37, hF⟩ := ltt_some hF
          rw [set_oI ct ad G y33.1 hc hk (by decide) (by rfl), ← eM37] at hP hD
          obtain rfl := Option.some.inj hF
          exact J29 _ _ _ hP hD hS (lv_sub hl [0, 1, 2, 3] rfl)
    clear hF
    have hF := hy7
    clear hy7
    refine lv_icmp_eq (tgt := 119) hx hb dX1_readPattern_48 (by decide) (fun c38 => ?_) (fun c38 => ?_)
    · rw [if_pos c38] at hF
      obtain rfl := Option.some.inj hF
      exact J7 _ _ _ hP hD hS (lv_sub hl [0, 1, 2, 3] rfl)
    · rw [if_neg c38] at hF
      refine lv_aload_n hx hb dX1_readPattern_51 rfl (lv_at hl 2 rfl) ?_
      refine va_get (D := D) (ci := 1) (v := va_re ad (M.2 a 0)) (C := RX1) (T := TX1) (N := 22) hx hb hts (mus hf_X1) hown hK hP a (wld_o ct ad G M hc hk (by decide)) rfl 0 (by decide) (hts (.fieldLink RX1 12 "VideoSuite$Decoder" "reader" "LVideoSuite$Reader;") (mu mw_640)) (fun _ h9 => h9) rfl dX1_readPattern_52 ?_
      refine lv_bipush (v := (9 : Int32)) hx hb dX1_readPattern_55 (by decide) ?_
      refine lv_iconst (v := (0 : Int32)) hx hb dX1_readPattern_57 (by decide) ?_
      refine lv_lconst (v := (0 : Int64)) hx hb dX1_readPattern_58 rfl ?_
      refine lv_ldc2 (v := (47 : Int64)) hx hb hown (hts (.constantLong RX1 479 (47 : Int64)) (mu mw_2233)) dX1_readPattern_59 ?_
      obtain ⟨b39, ho39, hc39, hk39, hF⟩ := dr_some hF
      refine W_st (st' := [.long (47 : Int64), .long (0 : Int64), .int (0 : Int32), .int (9 : Int32), .ref (ad b39)]) (by rw [va_some ho39]) ?_
      obtain ⟨y40, hy40, hF⟩ := bnd_some hF
      have hf9 := wA_in hD hA9 hS
      refine va_calli (va_runV (As := [.int (9 : Int32), .int (0 : Int32), .long (0 : Int64), .long (47 : Int64)]) (rest := []) ⟨hx, hb, hml, hown, hts⟩ (kX5_number l D ct ad Z G M s.heap.size b39 ((9 : Int32)) ((0 : Int32)) ((0 : Int64)) ((47 : Int64)) y40 hc39 hk39 hy40) (cwV 4 hts gX1_readPattern_X5_number rfl rfl rfl (by decide +kernel) ⟨Nat.le_of_ble_eq_true rfl, Nat.le_of_ble_eq_true rfl⟩) ⟨fun a U g mk q => by obtain ⟨q0, q1, qP, qK, qD, qZ, qN⟩ := q; exact ⟨q0, q1, qP, va_K.moved (u := U) (U := U.calling g mk a) (Vm.Alike.refl U.vm) qK, qD, sF.moved (u := U) (U := U.calling g mk a) (Vm.Alike.refl U.vm) qZ, nF.same rfl qN⟩, va_recv hK hP (ci := 5) (q0 := b39) rfl (wld_o ct ad G M hc39 hk39 (by decide)), fun U hU hW => ⟨rfl, by rw [hU], by rw [hU]; exact hP, va_K.moved hW.alike hK, hD.weaken (fun _ _ _ _ => trivial), by rw [hU]; exact ((hZ.kept hS.2.1).narrow hf9).moved hW.alike, hN.warm hW⟩⟩ rfl rfl hl.1 rfl (lv_room (Nat.le_of_ble_eq_true rfl)) dX1_readPattern_62 ⟨(Nat.zero_le _), (Nat.zero_le _)⟩) hS (fun q _ h => hf9 q h) hf9 (fun r u t H locs ht hvm hw hB hz1 hk1 hS => ?_)
      obtain ⟨hP, hK9, hD9⟩ := hB
      rw [ht] at hP
      try dsimp only at hw
      subst hw
      have hD := hD9.weaken (fun _ q _ h => hf9 q.1 h)
      refine lv_istore (lv' := [(4, .int y40.2), (3, .int x5), (2, .int x1), (0, .ref (ad a)), (1, .int p0)]) hx hb dX1_readPattern_65 hl (by decide) rfl (fun ls hl => ?_)
      refine va_gets hx hb (hZ.1 9 (by decide)).1 hS hown (hts (.fieldLink RX1 481 "VideoSuite$Reader" "PATTERN" "[I") (mu mw_2234)) (fun _ h => h) dX1_readPattern_67 ?_
      refine lv_iload_n hx hb dX1_readPattern_70 rfl (lv_at hl 1 rfl) ?_
      obtain ⟨y41, hy41, hF⟩ := bnd_some hF
      have J41 : ∀ (H : Heap) (locs : List Loc) (ls : Array Slot), va_P D classes (wld ct ad G y40.1) H → va_D A (wld ct ad G y40.1) → va_S A s.heap H locs → lv_has ls 6 [(4, .int y40.2), (3, .int x5), (2, .int x1), (0, .ref (ad a)), (1, .int p0)] → W p l e (headSpec wuX1_readPattern ({ frames := 2, cells := 0, slots := 0, locals := 59 })).room s m ([.ref (ad a), .int p0] : List Value).toArray below meth c H locs 0 0 (MQ below (va_Qv (fun (_ : Unit) => True) (fun _ t => kE D ct ad G A y t) A) ([.ref (ad a), .int p0] : List Value).toArray s 0 0 A) (F0 m 84 ls [.int y41, .ref (Z 9)]) := by
        intro H locs ls hP hD hS hl
        obtain ⟨hvc, hF⟩ := chk_some hF
        refine va_ti (v := .int ((sT 9).getD y41.toNatClampNeg 0)) hx hb (hZ.1 9 (by decide)).2 hS hvc rfl dX1_readPattern_84 ?_
        obtain ⟨x42, ex42, hF⟩ := ltt_some hF
        refine lv_topi (fun zx42 ezx42 => ?_)
        obtain rfl : x42 = zx42 := ex42.trans ezx42.symm
        refine lv_istore (lv' := [(5, .int x42), (4, .int y40.2), (3, .int x5), (2, .int x1), (0, .ref (ad a)), (1, .int p0)]) hx hb dX1_readPattern_85 hl (by decide) rfl (fun ls hl => ?_)
        refine lv_aload_n hx hb dX1_readPattern_87 rfl (lv_at hl 4 rfl) ?_
        refine va_get (D := D) (ci := 1) (v := va_re ad (y40.1.2 a 2)) (C := RX1) (T := TX1) (N := 22) hx hb hts (mus hf_X1) hown hK hP a (wld_o ct ad G y40.1 hc hk (by decide)) rfl 2 (by decide) (hts (.fieldLink RX1 28 "VideoSuite$Decoder" "work" "LVideoSuite$Work;") (mu mw_644)) (fun _ h9 => h9) rfl dX1_readPattern_88 ?_
        obtain ⟨b43, ho43, hc43, hk43, hF⟩ := dr_some hF
        refine W_st (st' := [.ref (ad b43)]) (by rw [va_some ho43]) ?_
        refine va_get (D := D) (ci := 9) (v := va_re ad (y40.1.2 b43 6)) (C := RX9) (T := TX9) (N := 20) hx hb hts (mus hf_X9) hown hK hP b43 (wld_o ct ad G y40.1 hc43 hk43 (by decide)) rfl 6 (by decide) (hts (.fieldLink RX1 355 "VideoSuite$Work" "info" "[I") (mu mw_444)) (fun _ h9 => h9) rfl dX1_readPattern_91 ?_
        refine lv_iload_n hx hb dX1_readPattern_94 rfl (lv_at hl 3 rfl) ?_
        refine lv_iconst (v := (3 : Int32)) hx hb dX1_readPattern_95 (by decide) ?_
        refine lv_iadd hx hb dX1_readPattern_96 ?_
        obtain ⟨x44, ex44, hF⟩ := ltt_some hF
        refine lv_topi (fun zx44 ezx44 => ?_)
        obtain rfl : x44 = zx44 := ex44.trans ezx44.symm
        refine lv_iload hx hb dX1_readPattern_97 (lv_at hl 0 rfl) ?_
        refine lv_bipush (v := (15 : Int32)) hx hb dX1_readPattern_99 (by decide) ?_
        refine lv_iand hx hb dX1_readPattern_101 ?_
        obtain ⟨x45, ex45, hF⟩ := ltt_some hF
        refine lv_topi (fun zx45 ezx45 => ?_)
        obtain rfl : x45 = zx45 := ex45.trans ezx45.symm
        obtain ⟨b46, ho46, hc46, hk46, hF⟩ := dr_some hF
        refine W_st (st' := [.int x45, .int x44, .ref (ad b46)]) (by rw [va_some ho46]) ?_
        obtain ⟨hvc, hF⟩ := chk_some hF
        refine va_iast hx hb hK hP hD hS b46 1 (wld_i ct ad G y40.1 hc46 hk46) rfl hvc dX1_readPattern_102 (fun H locs hP hD hS => ?_)
        obtain ⟨M47, eM47, hF⟩ := ltt_some hF
        rw [set_i ct ad G y40.1 hc46 hk46, ← eM47] at hP hD
        refine lv_aload_n hx hb dX1_readPattern_103 rfl (lv_at hl 4 rfl) ?_
        refine va_get (D := D) (ci := 1) (v := va_re ad (M47.2 a 2)) (C := RX1) (T := TX1) (N := 22) hx hb hts (mus hf_X1) hown hK hP a (wld_o ct ad G M47 hc hk (by decide)) rfl 2 (by decide) (hts (.fieldLink RX1 28 "VideoSuite$Decoder" "work" "LVideoSuite$Work;") (mu mw_644)) (fun _ h9 => h9) rfl dX1_readPattern_104 ?_
        obtain ⟨b48, ho48, hc48, hk48, hF⟩ := dr_some hF
        refine W_st (st' := [.ref (ad b48)]) (by rw [va_some ho48]) ?_
        refine va_get (D := D) (ci := 9) (v := va_re ad (M47.2 b48 6)) (C := RX9) (T := TX9) (N := 20) hx hb hts (mus hf_X9) hown hK hP b48 (wld_o ct ad G M47 hc48 hk48 (by decide)) rfl 6 (by decide) (hts (.fieldLink RX1 355 "VideoSuite$Work" "info" "[I") (mu mw_444)) (fun _ h9 => h9) rfl dX1_readPattern_107 ?_
        refine lv_iload_n hx hb dX1_readPattern_110 rfl (lv_at hl 3 rfl) ?_
        refine lv_iconst (v := (4 : Int32)) hx hb dX1_readPattern_111 (by decide) ?_
        refine lv_iadd hx hb dX1_readPattern_112 ?_
        obtain ⟨x49, ex49, hF⟩ := ltt_some hF
        refine lv_topi (fun zx49 ezx49 => ?_)
        obtain rfl : x49 = zx49 := ex49.trans ezx49.symm
        refine lv_iload hx hb dX1_readPattern_113 (lv_at hl 0 rfl) ?_
        refine lv_bipush (v := (16 : Int32)) hx hb dX1_readPattern_115 (by decide) ?_
        refine lv_idiv hx hb dX1_readPattern_117 (by decide) ?_
        obtain ⟨x50, ex50, hF⟩ := ltt_some hF
        refine lv_topi (fun zx50 ezx50 => ?_)
        obtain rfl : x50 = zx50 := ex50.trans ezx50.symm
        obtain ⟨b51, ho51, hc51, hk51, hF⟩ := dr_some hF
        refine W_st (st' := [.int x50, .int x49, .ref (ad b51)]) (by rw [va_some ho51]) ?_
        obtain ⟨hvc, hF⟩ := chk_some hF
        refine va_iast hx hb hK hP hD hS b51 1 (wld_i ct ad G M47 hc51 hk51) rfl hvc dX1_readPattern_118 (fun H locs hP hD hS => ?_)
        obtain ⟨M52, eM52, hF⟩ := ltt_some hF
        rw [set_i ct ad G M47 hc51 hk51, ← eM52] at hP hD
        obtain rfl := Option.some.inj hF
        exact J7 _ _ _ hP hD hS (lv_sub hl [2, 3, 4, 5] rfl)
      clear hF
      have hF := hy41
      clear hy41
      refine lv_if_ne (tgt := 79) hx hb dX1_readPattern_71 (by decide) (fun c53 => ?_) (fun c53 => ?_)
      · rw [if_neg c53] at hF
        refine lv_bipush (v := (48 : Int32)) hx hb dX1_readPattern_79 (by decide) ?_
        refine lv_iload hx hb dX1_readPattern_81 (lv_at hl 0 rfl) ?_
        refine lv_iadd hx hb dX1_readPattern_83 ?_
        obtain ⟨x54, ex54, hF⟩ := ltt_some hF
        refine lv_topi (fun zx54 ezx54 => ?_)
        obtain rfl : x54 = zx54 := ex54.trans ezx54.symm
        obtain rfl := Option.some.inj hF
        exact J41 _ _ _ hP hD hS (lv_sub hl [0, 1, 2, 3, 4] rfl)
      · rw [if_pos c53] at hF
        refine lv_iload hx hb dX1_readPattern_74 (lv_at hl 0 rfl) ?_
        refine lv_goto (tgt := 84) hx hb dX1_readPattern_76 (by decide) ?_
        obtain rfl := Option.some.inj hF
        exact J41 _ _ _ hP hD hS (lv_sub hl [0, 1, 2, 3, 4] rfl)
  · rw [if_pos c6] at hF
    refine lv_aload_n hx hb dX1_readPattern_22 rfl (lv_at hl 2 rfl) ?_
    refine va_get (D := D) (ci := 1) (v := va_re ad (M.2 a 2)) (C := RX1) (T := TX1) (N := 22) hx hb hts (mus hf_X1) hown hK hP a (wld_o ct ad G M hc hk (by decide)) rfl 2 (by decide) (hts (.fieldLink RX1 28 "VideoSuite$Decoder" "work" "LVideoSuite$Work;") (mu mw_644)) (fun _ h9 => h9) rfl dX1_readPattern_23 ?_
    refine W_st (st' := [.ref (ad b2)]) (by rw [va_some ho2]) ?_
    refine va_get (D := D) (ci := 9) (v := va_re ad (M.2 b2 8)) (C := RX9) (T := TX9) (N := 20) hx hb hts (mus hf_X9) hown hK hP b2 (wld_o ct ad G M hc2 hk2 (by decide)) rfl 8 (by decide) (hts (.fieldLink RX1 476 "VideoSuite$Work" "total" "[I") (mu mw_451)) (fun _ h9 => h9) rfl dX1_readPattern_26 ?_
    refine lv_bipush (v := (24 : Int32)) hx hb dX1_readPattern_29 (by decide) ?_
    refine lv_iload_n hx hb dX1_readPattern_31 rfl (lv_at hl 3 rfl) ?_
    refine lv_imul hx hb dX1_readPattern_32 ?_
    obtain ⟨x55, ex55, hF⟩ := ltt_some hF
    refine lv_topi (fun zx55 ezx55 => ?_)
    obtain rfl : x55 = zx55 := ex55.trans ezx55.symm
    refine lv_bipush (v := (24 : Int32)) hx hb dX1_readPattern_33 (by decide) ?_
    refine lv_iload_n hx hb dX1_readPattern_35 rfl (lv_at hl 3 rfl) ?_
    refine lv_imul hx hb dX1_readPattern_36 ?_
    obtain ⟨x56, ex56, hF⟩ := ltt_some hF
    refine lv_topi (fun zx56 ezx56 => ?_)
    obtain rfl : x56 = zx56 := ex56.trans ezx56.symm
    refine lv_bipush (v := (24 : Int32)) hx hb dX1_readPattern_37 (by decide) ?_
    refine lv_iadd hx hb dX1_readPattern_39 ?_
    obtain ⟨x57, ex57, hF⟩ := ltt_some hF
    refine lv_topi (fun zx57 ezx57 => ?_)
    obtain rfl : x57 = zx57 := ex57.trans ezx57.symm
    refine lv_bipush (v := (16 : Int32)) hx hb dX1_readPattern_40 (by decide) ?_
    obtain ⟨y58, hy58, hF⟩ := bnd_some hF
    have hf9 := wA_in hD hA9 hS
    refine va_callv (va_runS (As := [va_re ad (M.2 b2 8), .int x55, .int x57, .int (16 : Int32)]) (rest := []) ⟨hx, hb, hml, hown, hts⟩ (kJ7_fill_fda19 l D ct ad Z G M s.heap.size ((M.2 b2 8)) x55 x57 ((16 : Int32)) y58 hy58) (va_cwS 4 hts gX1_readPattern_J7_fill_fda19 rfl rfl rfl (by decide +kernel) ⟨Nat.le_of_ble_eq_true rfl, Nat.le_of_ble_eq_true rfl⟩) ⟨fun a U g mk q => by obtain ⟨q0, q1, qP, qK, qD, qZ, qN⟩ := q; exact ⟨q0, q1, qP, va_K.moved (u := U) (U := U.calling g mk a) (Vm.Alike.refl U.vm) qK, qD, sF.moved (u := U) (U := U.calling g mk a) (Vm.Alike.refl U.vm) qZ, nF.same rfl qN⟩, fun U hU hW => ⟨rfl, by rw [hU], by rw [hU]; exact hP, va_K.moved hW.alike hK, hD.weaken (fun _ _ _ _ => trivial), by rw [hU]; exact ((hZ.kept hS.2.1).narrow hf9).moved hW.alike, hN.warm hW⟩⟩ rfl rfl hl.1 rfl (lv_room (Nat.le_of_ble_eq_true rfl)) dX1_readPattern_42 ⟨(Nat.zero_le _), (Nat.zero_le _)⟩) hS (fun q _ h => hf9 q h) hf9 (fun u t H locs ht hvm hw hB hz1 hk1 hS => ?_)
    obtain ⟨hP, hK9, hD9⟩ := hB
    rw [ht] at hP
    have hD := hD9.weaken (fun _ q _ h => hf9 q.1 h)
    obtain rfl := Option.some.inj hF
    exact W.vret hx hb hr (fun t ht hW => ⟨⟨(), rfl, trivial, ⟨by rw [ht]; exact hP, va_K.moved hW.alike hK, hD⟩⟩, hS.F ht⟩) hS.2.2 dX1_readPattern_45
set_option maxRecDepth 20000 in
theorem gX1_readReferences_X9_setReference : GoodIn wuX1_readReferences (wsV RX1 446 RX9 yX9_setReference wuX9_setReference) := gu_V mw_2219 mw_1966 mw_1967 mw_171 mw_1968
set_option maxRecDepth 20000 in
theorem gX1_readReferences_X5_number : GoodIn wuX1_readReferences (wsV RX1 179 RX5 yX5_number wuX5_number) := gu_V mw_1327 mw_1328 mw_1329 mw_169 mw_1330
set_option maxRecDepth 20000 in
theorem dX1_readReferences_0 : decode cX1_readReferences 0 = .ok (.aload_n 0, 1) := by decide +kernel
theorem dX1_readReferences_1 : decode cX1_readReferences 1 = .ok (.getfield 72, 3) := by decide +kernel
theorem dX1_readReferences_4 : decode cX1_readReferences 4 = .ok (.getfield 212, 3) := by decide +kernel
theorem dX1_readReferences_7 : decode cX1_readReferences 7 = .ok (.bipush 9, 2) := by decide +kernel
theorem dX1_readReferences_9 : decode cX1_readReferences 9 = .ok (.iload_n 2, 1) := by decide +kernel
theorem dX1_readReferences_10 : decode cX1_readReferences 10 = .ok (.iadd, 1) := by decide +kernel
theorem dX1_readReferences_11 : decode cX1_readReferences 11 = .ok (.iaload, 1) := by decide +kernel
theorem dX1_readReferences_12 : decode cX1_readReferences 12 = .ok (.iconst 1, 1) := by decide +kernel
theorem dX1_readReferences_13 : decode cX1_readReferences 13 = .ok (.isub, 1) := by decide +kernel
theorem dX1_readReferences_14 : decode cX1_readReferences 14 = .ok (.istore_n 3, 1) := by decide +kernel
theorem dX1_readReferences_15 : decode cX1_readReferences 15 = .ok (.aload_n 0, 1) := by decide +kernel
theorem dX1_readReferences_16 : decode cX1_readReferences 16 = .ok (.getfield 72, 3) := by decide +kernel
theorem dX1_readReferences_19 : decode cX1_readReferences 19 = .ok (.getfield 212, 3) := by decide +kernel
theorem dX1_readReferences_22 : decode cX1_readReferences 22 = .ok (.iconst 1, 1) := by decide +kernel
theorem dX1_readReferences_23 : decode cX1_readReferences 23 = .ok (.iaload, 1) := by decide +kernel
theorem dX1_readReferences_24 : decode cX1_readReferences 24 = .ok (.ifCond .ne 25, 3) := by decide +kernel
theorem dX1_readReferences_27 : decode cX1_readReferences 27 = .ok (.aload_n 0, 1) := by decide +kernel
theorem dX1_readReferences_28 : decode cX1_readReferences 28 = .ok (.getfield 28, 3) := by decide +kernel
theorem dX1_readReferences_31 : decode cX1_readReferences 31 = .ok (.getfield 355, 3) := by decide +kernel
theorem dX1_readReferences_34 : decode cX1_readReferences 34 = .ok (.bipush 8, 2) := by decide +kernel
theorem dX1_readReferences_36 : decode cX1_readReferences 36 = .ok (.iload_n 1, 1) := by decide +kernel
theorem dX1_readReferences_37 : decode cX1_readReferences 37 = .ok (.imul, 1) := by decide +kernel
theorem dX1_readReferences_38 : decode cX1_readReferences 38 = .ok (.iconst 1, 1) := by decide +kernel
theorem dX1_readReferences_39 : decode cX1_readReferences 39 = .ok (.iadd, 1) := by decide +kernel
theorem dX1_readReferences_40 : decode cX1_readReferences 40 = .ok (.iaload, 1) := by decide +kernel
theorem dX1_readReferences_41 : decode cX1_readReferences 41 = .ok (.iconst 4, 1) := by decide +kernel
theorem dX1_readReferences_42 : decode cX1_readReferences 42 = .ok (.if_icmp .ne 7, 3) := by decide +kernel
theorem dX1_readReferences_45 : decode cX1_readReferences 45 = .ok (.iconst 1, 1) := by decide +kernel
theorem dX1_readReferences_46 : decode cX1_readReferences 46 = .ok (.goto 4, 3) := by decide +kernel
theorem dX1_readReferences_49 : decode cX1_readReferences 49 = .ok (.iconst 0, 1) := by decide +kernel
theorem dX1_readReferences_50 : decode cX1_readReferences 50 = .ok (.istore 4, 2) := by decide +kernel
theorem dX1_readReferences_52 : decode cX1_readReferences 52 = .ok (.iconst 0, 1) := by decide +kernel
theorem dX1_readReferences_53 : decode cX1_readReferences 53 = .ok (.istore 5, 2) := by decide +kernel
theorem dX1_readReferences_55 : decode cX1_readReferences 55 = .ok (.iload 5, 2) := by decide +kernel
theorem dX1_readReferences_57 : decode cX1_readReferences 57 = .ok (.aload_n 0, 1) := by decide +kernel
theorem dX1_readReferences_58 : decode cX1_readReferences 58 = .ok (.getfield 28, 3) := by decide +kernel
theorem dX1_readReferences_61 : decode cX1_readReferences 61 = .ok (.getfield 394, 3) := by decide +kernel
theorem dX1_readReferences_64 : decode cX1_readReferences 64 = .ok (.if_icmp .ge 108, 3) := by decide +kernel
theorem dX1_readReferences_67 : decode cX1_readReferences 67 = .ok (.aload_n 0, 1) := by decide +kernel
theorem dX1_readReferences_68 : decode cX1_readReferences 68 = .ok (.getfield 28, 3) := by decide +kernel
theorem dX1_readReferences_71 : decode cX1_readReferences 71 = .ok (.getfield 443, 3) := by decide +kernel
theorem dX1_readReferences_74 : decode cX1_readReferences 74 = .ok (.iconst 4, 1) := by decide +kernel
theorem dX1_readReferences_75 : decode cX1_readReferences 75 = .ok (.iload 5, 2) := by decide +kernel
theorem dX1_readReferences_77 : decode cX1_readReferences 77 = .ok (.imul, 1) := by decide +kernel
theorem dX1_readReferences_78 : decode cX1_readReferences 78 = .ok (.iconst 3, 1) := by decide +kernel
theorem dX1_readReferences_79 : decode cX1_readReferences 79 = .ok (.iadd, 1) := by decide +kernel
theorem dX1_readReferences_80 : decode cX1_readReferences 80 = .ok (.iaload, 1) := by decide +kernel
theorem dX1_readReferences_81 : decode cX1_readReferences 81 = .ok (.iload_n 2, 1) := by decide +kernel
theorem dX1_readReferences_82 : decode cX1_readReferences 82 = .ok (.ishr, 1) := by decide +kernel
theorem dX1_readReferences_83 : decode cX1_readReferences 83 = .ok (.iconst 1, 1) := by decide +kernel
theorem dX1_readReferences_84 : decode cX1_readReferences 84 = .ok (.iand, 1) := by decide +kernel
theorem dX1_readReferences_85 : decode cX1_readReferences 85 = .ok (.ifCond .ne 6, 3) := by decide +kernel
theorem dX1_readReferences_88 : decode cX1_readReferences 88 = .ok (.goto 78, 3) := by decide +kernel
theorem dX1_readReferences_91 : decode cX1_readReferences 91 = .ok (.iload 4, 2) := by decide +kernel
theorem dX1_readReferences_93 : decode cX1_readReferences 93 = .ok (.ifCond .ne 8, 3) := by decide +kernel
theorem dX1_readReferences_96 : decode cX1_readReferences 96 = .ok (.iload_n 3, 1) := by decide +kernel
theorem dX1_readReferences_97 : decode cX1_readReferences 97 = .ok (.iconst 1, 1) := by decide +kernel
theorem dX1_readReferences_98 : decode cX1_readReferences 98 = .ok (.if_icmp .ge 7, 3) := by decide +kernel
theorem dX1_readReferences_101 : decode cX1_readReferences 101 = .ok (.iconst 0, 1) := by decide +kernel
theorem dX1_readReferences_102 : decode cX1_readReferences 102 = .ok (.goto 16, 3) := by decide +kernel
theorem dX1_readReferences_105 : decode cX1_readReferences 105 = .ok (.aload_n 0, 1) := by decide +kernel
theorem dX1_readReferences_106 : decode cX1_readReferences 106 = .ok (.getfield 12, 3) := by decide +kernel
theorem dX1_readReferences_109 : decode cX1_readReferences 109 = .ok (.bipush 6, 2) := by decide +kernel
theorem dX1_readReferences_111 : decode cX1_readReferences 111 = .ok (.iconst 2, 1) := by decide +kernel
theorem dX1_readReferences_112 : decode cX1_readReferences 112 = .ok (.lconst 0, 1) := by decide +kernel
theorem dX1_readReferences_113 : decode cX1_readReferences 113 = .ok (.iload_n 3, 1) := by decide +kernel
theorem dX1_readReferences_114 : decode cX1_readReferences 114 = .ok (.i2l, 1) := by decide +kernel
theorem dX1_readReferences_115 : decode cX1_readReferences 115 = .ok (.invokevirtual 179, 3) := by decide +kernel
theorem dX1_readReferences_118 : decode cX1_readReferences 118 = .ok (.istore 6, 2) := by decide +kernel
theorem dX1_readReferences_120 : decode cX1_readReferences 120 = .ok (.iload 6, 2) := by decide +kernel
theorem dX1_readReferences_122 : decode cX1_readReferences 122 = .ok (.bipush 7, 2) := by decide +kernel
theorem dX1_readReferences_124 : decode cX1_readReferences 124 = .ok (.if_icmp .gt 21, 3) := by decide +kernel
theorem dX1_readReferences_127 : decode cX1_readReferences 127 = .ok (.aload_n 0, 1) := by decide +kernel
theorem dX1_readReferences_128 : decode cX1_readReferences 128 = .ok (.getfield 28, 3) := by decide +kernel
theorem dX1_readReferences_131 : decode cX1_readReferences 131 = .ok (.getfield 384, 3) := by decide +kernel
theorem dX1_readReferences_134 : decode cX1_readReferences 134 = .ok (.bipush 9, 2) := by decide +kernel
theorem dX1_readReferences_136 : decode cX1_readReferences 136 = .ok (.iload_n 2, 1) := by decide +kernel
theorem dX1_readReferences_137 : decode cX1_readReferences 137 = .ok (.imul, 1) := by decide +kernel
theorem dX1_readReferences_138 : decode cX1_readReferences 138 = .ok (.iload 6, 2) := by decide +kernel
theorem dX1_readReferences_140 : decode cX1_readReferences 140 = .ok (.iadd, 1) := by decide +kernel
theorem dX1_readReferences_141 : decode cX1_readReferences 141 = .ok (.aaload, 1) := by decide +kernel
theorem dX1_readReferences_142 : decode cX1_readReferences 142 = .ok (.ifnonnull 11, 3) := by decide +kernel
theorem dX1_readReferences_145 : decode cX1_readReferences 145 = .ok (.aload_n 0, 1) := by decide +kernel
theorem dX1_readReferences_146 : decode cX1_readReferences 146 = .ok (.getfield 12, 3) := by decide +kernel
theorem dX1_readReferences_149 : decode cX1_readReferences 149 = .ok (.iconst 4, 1) := by decide +kernel
theorem dX1_readReferences_150 : decode cX1_readReferences 150 = .ok (.invokevirtual 325, 3) := by decide +kernel
theorem dX1_readReferences_153 : decode cX1_readReferences 153 = .ok (.aload_n 0, 1) := by decide +kernel
theorem dX1_readReferences_154 : decode cX1_readReferences 154 = .ok (.getfield 28, 3) := by decide +kernel
theorem dX1_readReferences_157 : decode cX1_readReferences 157 = .ok (.iload_n 1, 1) := by decide +kernel
theorem dX1_readReferences_158 : decode cX1_readReferences 158 = .ok (.iload_n 2, 1) := by decide +kernel
theorem dX1_readReferences_159 : decode cX1_readReferences 159 = .ok (.iload 5, 2) := by decide +kernel
theorem dX1_readReferences_161 : decode cX1_readReferences 161 = .ok (.iload 6, 2) := by decide +kernel
theorem dX1_readReferences_163 : decode cX1_readReferences 163 = .ok (.invokevirtual 446, 3) := by decide +kernel
theorem dX1_readReferences_166 : decode cX1_readReferences 166 = .ok (.iinc 5 1, 3) := by decide +kernel
theorem dX1_readReferences_169 : decode cX1_readReferences 169 = .ok (.goto (-114), 3) := by decide +kernel
theorem dX1_readReferences_172 : decode cX1_readReferences 172 = .ok (.return_, 1) := by decide +kernel
def FX1_readReferences (G : GG) (M : DD) (a : Nat) (p0 : Int32) (p1 : Int32) : Option (DD) :=
  dr G 3 ((M.2 a 11)) fun b2 =>
  ltt ((((9 : Int32)) + p1)) fun x3 =>
  dr G 13 ((M.2 b2 0)) fun b4 =>
  chk (¬ (x3 < 0 ∨ G.2.2 b4 ≤ x3.toNatClampNeg)) <|
  ltt (M.1 b4 x3.toNatClampNeg) fun x5 =>
  ltt ((x5 - ((1 : Int32)))) fun x6 =>
  chk (¬ (((1 : Int32)) < 0 ∨ G.2.2 b4 ≤ ((1 : Int32)).toNatClampNeg)) <|
  ltt (M.1 b4 ((1 : Int32)).toNatClampNeg) fun x7 =>
  bnd (if x7 = ((0 : Int32)) then (dr G 9 ((M.2 a 2)) fun b43 =>
  ltt ((((8 : Int32)) * p0)) fun x44 =>
  ltt ((x44 + ((1 : Int32)))) fun x45 =>
  dr G 13 ((M.2 b43 6)) fun b46 =>
  chk (¬ (x45 < 0 ∨ G.2.2 b46 ≤ x45.toNatClampNeg)) <|
  ltt (M.1 b46 x45.toNatClampNeg) fun x47 =>
  bnd (if x47 = ((4 : Int32)) then (some ((1 : Int32))) else
  (some ((0 : Int32)))) fun (y48 : Int32) =>
  some (y48)) else
  (some ((0 : Int32)))) fun (y8 : Int32) =>
  bnd (itr (fun (s10 : Int32 × DD) => ((dr G 9 ((s10.2.2 a 2)) fun b13 =>
  ltt (s10.2.1 b13 16) fun x14 =>
  if x14 ≤ s10.1 then (some (.inr (s10.1, s10.2))) else
  (ltt ((((4 : Int32)) * s10.1)) fun x16 =>
  ltt ((x16 + ((3 : Int32)))) fun x17 =>
  dr G 13 ((s10.2.2 b13 15)) fun b18 =>
  chk (¬ (x17 < 0 ∨ G.2.2 b18 ≤ x17.toNatClampNeg)) <|
  ltt (s10.2.1 b18 x17.toNatClampNeg) fun x19 =>
  ltt ((x19 >>> (p1 &&& 31))) fun x20 =>
  ltt ((x20 &&& ((1 : Int32)))) fun x21 =>
  bnd (if x21 = ((0 : Int32)) then (some (s10.2)) else
  (bnd (if y8 = ((0 : Int32)) then (bnd (if ((1 : Int32)) ≤ x6 then (ltt (x6.toInt64) fun x39 =>
  dr G 5 ((s10.2.2 a 0)) fun b40 =>
  bnd (FX5_number G s10.2 b40 ((6 : Int32)) ((2 : Int32)) ((0 : Int64)) x39) fun y41 =>
  some (y41.2, y41.1)) else
  (some ((0 : Int32), s10.2))) fun (y37 : Int32 × DD) =>
  some (y37.1, y37.2)) else
  (some ((0 : Int32), s10.2))) fun (y25 : Int32 × DD) =>
  bnd (if ((7 : Int32)) < y25.1 then (none) else
  (some (y25.2))) fun (y26 : DD) =>
  dr G 9 ((y26.2 a 2)) fun b27 =>
  ltt ((((9 : Int32)) * p1)) fun x28 =>
  ltt ((x28 + y25.1)) fun x29 =>
  dr G 14 ((y26.2 b27 3)) fun b30 =>
  chk (¬ (x29 < 0 ∨ G.2.2 b30 ≤ x29.toNatClampNeg)) <|
  bnd (if ((y26.2 b30 x29.toNatClampNeg)) = none then (none) else
  (some (y26))) fun (y31 : DD) =>
  dr G 9 ((y31.2 a 2)) fun b32 =>
  bnd (FX9_setReference G y31 b32 p0 p1 s10.1 y25.1) fun y33 =>
  some (y33))) fun (y22 : DD) =>
  ltt (s10.1 + (1 : Int32)) fun x23 =>
  some (.inl (x23, y22)))) : Option ((Int32 × DD) ⊕ (Int32 × DD)))) 1000000 ((0 : Int32), M)) fun (y9 : Int32 × DD) =>
  some y9.2
set_option maxHeartbeats 4000000 in
set_option maxRecDepth 100000 in
theorem kX1_readReferences (l : Launch) (D : va_G) (ct : CT) (ad : Nat → Nat) (Z : Nat → Nat) (G : GG) (M : DD) (sz : Nat) (a : Nat) (p0 : Int32) (p1 : Int32) (y : DD) (hc : a < G.1) (hk : G.2.1 a = 1) (hF : FX1_readReferences G M a p0 p1 = some y) : Met l yX1_readReferences wuX1_readReferences ({ frames := 2, cells := 0, slots := 0, locals := 59 }) (va_Pc [.ref (ad a), .int p0, .int p1] (kB D ct ad Z G M sz)) (va_Qv (fun (_ : Unit) => True) (fun _ t => kE D ct ad G (wA ad G sz) y t) (wA ad G sz)) 0 0 (wA ad G sz) := by
  refine Met.ofW (cc := cX1_readReferences) (maxL := 7) (ret := none) (by decide) rfl ?_
  intro p e s m args below meth c s₁ B hml hv
  obtain ⟨rfl, hsz, hP, hK, hD0, hZ, hN⟩ := hv
  have hx := B.exec
  have hb := B.bytes
  have hr := B.returns
  have hts := atoms_spec (ws := wuX1_readReferences) B.pre
  have hown : s.vm.findClass RX1 = some m.cls := findClass_of_methodNamed B.named
  have hlocks := B.notSynchronized
  subst hsz
  have hD := wD_self (sz := s.heap.size) hD0
  have hA9 : ∀ q, s.heap.size ≤ q → wA ad G s.heap.size q := fun q h => Or.inr h
  generalize hAe : wA ad G s.heap.size = A at hD hA9 hZ ⊢
  have hS : va_S A s.heap s.heap [] := va_S.rf
  have hl := lv_entry ([.ref (ad a), .int p0, .int p1]) (n := 7) (Nat.le_of_ble_eq_true rfl)
  rw [lg_entry_eq]
  generalize (lg_sl ([.ref (ad a), .int p0, .int p1]) ++ List.replicate (7 - (lg_sl ([.ref (ad a), .int p0, .int p1])).length) Slot.unset).toArray = ls at hl ⊢
  have hl : lv_has ls 7 [(0, .ref (ad a)), (1, .int p0), (2, .int p1)] := hl
  unfold FX1_readReferences at hF
  refine lv_aload_n hx hb dX1_readReferences_0 rfl (lv_at hl 0 rfl) ?_
  refine va_get (D := D) (ci := 1) (v := va_re ad (M.2 a 11)) (C := RX1) (T := TX1) (N := 22) hx hb hts (mus hf_X1) hown hK hP a (wld_o ct ad G M hc hk (by decide)) rfl 11 (by decide) (hts (.fieldLink RX1 72 "VideoSuite$Decoder" "latest" "LVideoSuite$Header;") (mu mw_653)) (fun _ h9 => h9) rfl dX1_readReferences_1 ?_
  obtain ⟨b2, ho2, hc2, hk2, hF⟩ := dr_some hF
  refine W_st (st' := [.ref (ad b2)]) (by rw [va_some ho2]) ?_
  refine va_get (D := D) (ci := 3) (v := va_re ad (M.2 b2 0)) (C := RX3) (T := TX3) (N := 4) hx hb hts (mus hf_X3) hown hK hP b2 (wld_o ct ad G M hc2 hk2 (by decide)) rfl 0 (by decide) (hts (.fieldLink RX1 212 "VideoSuite$Header" "v" "[I") (mu mw_618)) (fun _ h9 => h9) rfl dX1_readReferences_4 ?_
  refine lv_bipush (v := (9 : Int32)) hx hb dX1_readReferences_7 (by decide) ?_
  refine lv_iload_n hx hb dX1_readReferences_9 rfl (lv_at hl 2 rfl) ?_
  refine lv_iadd hx hb dX1_readReferences_10 ?_
  obtain ⟨x3, ex3, hF⟩ := ltt_some hF
  refine lv_topi (fun zx3 ezx3 => ?_)
  obtain rfl : x3 = zx3 := ex3.trans ezx3.symm
  obtain ⟨b4, ho4, hc4, hk4, hF⟩ := dr_some hF
  refine W_st (st' := [.int x3, .ref (ad b4)]) (by rw [va_some ho4]) ?_
  obtain ⟨hvc, hF⟩ := chk_some hF
  refine va_iald hx hb hK hP b4 1 (wld_i ct ad G M hc4 hk4) rfl hvc dX1_readReferences_11 ?_
  obtain ⟨x5, ex5, hF⟩ := ltt_some hF
  refine lv_topi (fun zx5 ezx5 => ?_)
  obtain rfl : x5 = zx5 := ex5.trans ezx5.symm
  refine lv_iconst (v := (1 : Int32)) hx hb dX1_readReferences_12 (by decide) ?_
  refine lv_isub hx hb dX1_readReferences_13 ?_
  obtain ⟨x6, ex6, hF⟩ := ltt_some hF
  refine lv_topi (fun zx6 ezx6 => ?_)
  obtain rfl : x6 = zx6 := ex6.trans ezx6.symm
  refine lv_istore_n (lv' := [(3, .int x6), (0, .ref (ad a)), (1, .int p0), (2, .int p1)]) hx hb dX1_readReferences_14 rfl hl (by decide) rfl (fun ls hl => ?_)
  refine lv_aload_n hx hb dX1_readReferences_15 rfl (lv_at hl 1 rfl) ?_
  refine va_get (D := D) (ci := 1) (v := va_re ad (M.2 a 11)) (C := RX1) (T := TX1) (N := 22) hx hb hts (mus hf_X1) hown hK hP a (wld_o ct ad G M hc hk (by decide)) rfl 11 (by decide) (hts (.fieldLink RX1 72 "VideoSuite$Decoder" "latest" "LVideoSuite$Header;") (mu mw_653)) (fun _ h9 => h9) rfl dX1_readReferences_16 ?_
  refine W_st (st' := [.ref (ad b2)]) (by rw [va_some ho2]) ?_
  refine va_get (D := D) (ci := 3) (v := va_re ad (M.2 b2 0)) (C := RX3) (T := TX3) (N := 4) hx hb hts (mus hf_X3) hown hK hP b2 (wld_o ct ad G M hc2 hk2 (by decide)) rfl 0 (by decide) (hts (.fieldLink RX1 212 "VideoSuite$Header" "v" "[I") (mu mw_618)) (fun _ h9 => h9) rfl dX1_readReferences_19 ?_
  refine lv_iconst (v := (1 : Int32)) hx hb dX1_readReferences_22 (by decide) ?_
  refine W_st (st' := [.int (1 : Int32), .ref (ad b4)]) (by rw [va_some ho4]) ?_
  obtain ⟨hvc, hF⟩ := chk_some hF
  refine va_iald hx hb hK hP b4 1 (wld_i ct ad G M hc4 hk4) rfl hvc dX1_readReferences_23 ?_
  obtain ⟨x7, ex7, hF⟩ := ltt_some hF
  refine lv_topi (fun zx7 ezx7 => ?_)
  obtain rfl : x7 = zx7 := ex7.trans ezx7.symm
  obtain ⟨y8, hy8, hF⟩ := bnd_some hF
  have J8 : ∀ (H : Heap) (locs : List Loc) (ls : Array Slot), va_P D classes (wld ct ad G M) H → va_D A (wld ct ad G M) → va_S A s.heap H locs → lv_has ls 7 [(3, .int x6), (0, .ref (ad a)), (1, .int p0), (2, .int p1)] → W p l e (headSpec wuX1_readReferences ({ frames := 2, cells := 0, slots := 0, locals := 59 })).room s m ([.ref (ad a), .int p0, .int p1] : List Value).toArray below meth c H locs 0 0 (MQ below (va_Qv (fun (_ : Unit) => True) (fun _ t => kE D ct ad G A y t) A) ([.ref (ad a), .int p0, .int p1] : List Value).toArray s 0 0 A) (F0 m 50 ls [.int y8]) := by
    intro H locs ls hP hD hS hl
    refine lv_istore (lv' := [(4, .int y8), (3, .int x6), (0, .ref (ad a)), (1, .int p0), (2, .int p1)]) hx hb dX1_readReferences_50 hl (by decide) rfl (fun ls hl => ?_)
    refine lv_iconst (v := (0 : Int32)) hx hb dX1_readReferences_52 (by decide) ?_
    refine lv_istore (lv' := [(5, .int (0 : Int32)), (4, .int y8), (3, .int x6), (0, .ref (ad a)), (1, .int p0), (2, .int p1)]) hx hb dX1_readReferences_53 hl (by decide) rfl (fun ls hl => ?_)
    obtain ⟨y9, hy9, hF⟩ := bnd_some hF
    have K9 : ∀ (H : Heap) (locs : List Loc) (ls : Array Slot), va_P D classes (wld ct ad G y9.2) H → va_D A (wld ct ad G y9.2) → va_S A s.heap H locs → lv_has ls 7 [(5, .int y9.1), (4, .int y8), (3, .int x6), (0, .ref (ad a)), (1, .int p0), (2, .int p1)] → W p l e (headSpec wuX1_readReferences ({ frames := 2, cells := 0, slots := 0, locals := 59 })).room s m ([.ref (ad a), .int p0, .int p1] : List Value).toArray below meth c H locs 0 0 (MQ below (va_Qv (fun (_ : Unit) => True) (fun _ t => kE D ct ad G A y t) A) ([.ref (ad a), .int p0, .int p1] : List Value).toArray s 0 0 A) (F0 m 172 ls []) := by
      intro H locs ls hP hD hS hl
      obtain rfl := Option.some.inj hF
      exact W.vret hx hb hr (fun t ht hW => ⟨⟨(), rfl, trivial, ⟨by rw [ht]; exact hP, va_K.moved hW.alike hK, hD⟩⟩, hS.F ht⟩) hS.2.2 dX1_readReferences_172
    clear hF
    refine itr_rule (fun (s10 : Int32 × DD) => ∀ (H : Heap) (locs : List Loc) (ls : Array Slot), va_P D classes (wld ct ad G s10.2) H → va_D A (wld ct ad G s10.2) → va_S A s.heap H locs → lv_has ls 7 [(5, .int s10.1), (4, .int y8), (3, .int x6), (0, .ref (ad a)), (1, .int p0), (2, .int p1)] → W p l e (headSpec wuX1_readReferences ({ frames := 2, cells := 0, slots := 0, locals := 59 })).room s m ([.ref (ad a), .int p0, .int p1] : List Value).toArray below meth c H locs 0 0 (MQ below (va_Qv (fun (_ : Unit) => True) (fun _ t => kE D ct ad G A y t) A) ([.ref (ad a), .int p0, .int p1] : List Value).toArray s 0 0 A) (F0 m 55 ls [])) ?_ _ _ hy9 _ _ _ hP hD hS (lv_sub hl [0, 1, 2, 3, 4, 5] rfl)
    rintro s10 ⟨z12, hF, hwz12⟩ H locs ls hP hD hS hl
    try dsimp only at hF
    refine lv_iload hx hb dX1_readReferences_55 (lv_at hl 0 rfl) ?_
    refine lv_aload_n hx hb dX1_readReferences_57 rfl (lv_at hl 3 rfl) ?_
    refine va_get (D := D) (ci := 1) (v := va_re ad (s10.2.2 a 2)) (C := RX1) (T := TX1) (N := 22) hx hb hts (mus hf_X1) hown hK hP a (wld_o ct ad G s10.2 hc hk (by decide)) rfl 2 (by decide) (hts (.fieldLink RX1 28 "VideoSuite$Decoder" "work" "LVideoSuite$Work;") (mu mw_644)) (fun _ h9 => h9) rfl dX1_readReferences_58 ?_
    obtain ⟨b13, ho13, hc13, hk13, hF⟩ := dr_some hF
    refine W_st (st' := [.ref (ad b13), .int s10.1]) (by rw [va_some ho13]) ?_
    refine va_get (D := D) (ci := 9) (v := .int (s10.2.1 b13 16)) (C := RX9) (T := TX9) (N := 20) hx hb hts (mus hf_X9) hown hK hP b13 (wld_o ct ad G s10.2 hc13 hk13 (by decide)) rfl 16 (by decide) (hts (.fieldLink RX1 394 "VideoSuite$Work" "groups" "I") (mu mw_476)) (fun _ h9 => h9) rfl dX1_readReferences_61 ?_
    obtain ⟨x14, ex14, hF⟩ := ltt_some hF
    refine lv_topi (fun zx14 ezx14 => ?_)
    obtain rfl : x14 = zx14 := ex14.trans ezx14.symm
    refine lv_icmp_ge (tgt := 172) hx hb dX1_readReferences_64 (by decide) (fun c15 => ?_) (fun c15 => ?_)
    · rw [if_pos c15] at hF
      obtain rfl := Option.some.inj hF
      subst hwz12
      exact K9 _ _ _ hP hD hS (lv_sub hl [0, 1, 2, 3, 4, 5] rfl)
    · rw [if_neg c15] at hF
      refine lv_aload_n hx hb dX1_readReferences_67 rfl (lv_at hl 3 rfl) ?_
      refine va_get (D := D) (ci := 1) (v := va_re ad (s10.2.2 a 2)) (C := RX1) (T := TX1) (N := 22) hx hb hts (mus hf_X1) hown hK hP a (wld_o ct ad G s10.2 hc hk (by decide)) rfl 2 (by decide) (hts (.fieldLink RX1 28 "VideoSuite$Decoder" "work" "LVideoSuite$Work;") (mu mw_644)) (fun _ h9 => h9) rfl dX1_readReferences_68 ?_
      refine W_st (st' := [.ref (ad b13)]) (by rw [va_some ho13]) ?_
      refine va_get (D := D) (ci := 9) (v := va_re ad (s10.2.2 b13 15)) (C := RX9) (T := TX9) (N := 20) hx hb hts (mus hf_X9) hown hK hP b13 (wld_o ct ad G s10.2 hc13 hk13 (by decide)) rfl 15 (by decide) (hts (.fieldLink RX1 443 "VideoSuite$Work" "group" "[I") (mu mw_473)) (fun _ h9 => h9) rfl dX1_readReferences_71 ?_
      refine lv_iconst (v := (4 : Int32)) hx hb dX1_readReferences_74 (by decide) ?_
      refine lv_iload hx hb dX1_readReferences_75 (lv_at hl 0 rfl) ?_
      refine lv_imul hx hb dX1_readReferences_77 ?_
      obtain ⟨x16, ex16, hF⟩ := ltt_some hF
      refine lv_topi (fun zx16 ezx16 => ?_)
      obtain rfl : x16 = zx16 := ex16.trans ezx16.symm
      refine lv_iconst (v := (3 : Int32)) hx hb dX1_readReferences_78 (by decide) ?_
      refine lv_iadd hx hb dX1_readReferences_79 ?_
      obtain ⟨x17, ex17, hF⟩ := ltt_some hF
      refine lv_topi (fun zx17 ezx17 => ?_)
      obtain rfl : x17 = zx17 := ex17.trans ezx17.symm
      obtain ⟨b18, ho18, hc18, hk18, hF⟩ := dr_some hF
      refine W_st (st' := [.int x17, .ref (ad b18)]) (by rw [va_some ho18]) ?_
      obtain ⟨hvc, hF⟩ := chk_some hF
      refine va_iald hx hb hK hP b18 1 (wld_i ct ad G s10.2 hc18 hk18) rfl hvc dX1_readReferences_80 ?_
      obtain ⟨x19, ex19, hF⟩ := ltt_some hF
      refine lv_topi (fun zx19 ezx19 => ?_)
      obtain rfl : x19 = zx19 := ex19.trans ezx19.symm
      refine lv_iload_n hx hb dX1_readReferences_81 rfl (lv_at hl 5 rfl) ?_
      refine lv_ishr hx hb dX1_readReferences_82 ?_
      obtain ⟨x20, ex20, hF⟩ := ltt_some hF
      refine lv_topi (fun zx20 ezx20 => ?_)
      obtain rfl : x20 = zx20 := ex20.trans ezx20.symm
      refine lv_iconst (v := (1 : Int32)) hx hb dX1_readReferences_83 (by decide) ?_
      refine lv_iand hx hb dX1_readReferences_84 ?_
      obtain ⟨x21, ex21, hF⟩ := ltt_some hF
      refine lv_topi (fun zx21 ezx21 => ?_)
      obtain rfl : x21 = zx21 := ex21.trans ezx21.symm
      obtain ⟨y22, hy22, hF⟩ := bnd_some hF
      have J22 : ∀ (H : Heap) (locs : List Loc) (ls : Array Slot), va_P D classes (wld ct ad G y22) H → va_D A (wld ct ad G y22) → va_S A s.heap H locs → lv_has ls 7 [(5, .int s10.1), (4, .int y8), (3, .int x6), (0, .ref (ad a)), (1, .int p0), (2, .int p1)] → W p l e (headSpec wuX1_readReferences ({ frames := 2, cells := 0, slots := 0, locals := 59 })).room s m ([.ref (ad a), .int p0, .int p1] : List Value).toArray below meth c H locs 0 0 (MQ below (va_Qv (fun (_ : Unit) => True) (fun _ t => kE D ct ad G A y t) A) ([.ref (ad a), .int p0, .int p1] : List Value).toArray s 0 0 A) (F0 m 166 ls []) := by
        intro H locs ls hP hD hS hl
        obtain ⟨x23, ex23, hF⟩ := ltt_some hF
        refine lv_iinc (v := x23) (lv' := [(5, .int x23), (4, .int y8), (3, .int x6), (0, .ref (ad a)), (1, .int p0), (2, .int p1)]) hx hb dX1_readReferences_166 hl (k := 0) rfl (by rw [ex23]; rfl) (by decide) rfl (fun ls hl => ?_)
        refine lv_goto (tgt := 55) hx hb dX1_readReferences_169 (by decide) ?_
        obtain rfl := Option.some.inj hF
        exact hwz12 _ _ _ hP hD hS (lv_sub hl [0, 1, 2, 3, 4, 5] rfl)
      clear hF
      have hF := hy22
      clear hy22
      refine lv_if_ne (tgt := 91) hx hb dX1_readReferences_85 (by decide) (fun c24 => ?_) (fun c24 => ?_)
      · rw [if_neg c24] at hF
        refine lv_iload hx hb dX1_readReferences_91 (lv_at hl 1 rfl) ?_
        obtain ⟨y25, hy25, hF⟩ := bnd_some hF
        have J25 : ∀ (H : Heap) (locs : List Loc) (ls : Array Slot), va_P D classes (wld ct ad G y25.2) H → va_D A (wld ct ad G y25.2) → va_S A s.heap H locs → lv_has ls 7 [(5, .int s10.1), (4, .int y8), (3, .int x6), (0, .ref (ad a)), (1, .int p0), (2, .int p1)] → W p l e (headSpec wuX1_readReferences ({ frames := 2, cells := 0, slots := 0, locals := 59 })).room s m ([.ref (ad a), .int p0, .int p1] : List Value).toArray below meth c H locs 0 0 (MQ below (va_Qv (fun (_ : Unit) => True) (fun _ t => kE D ct ad G A y t) A) ([.ref (ad a), .int p0, .int p1] : List Value).toArray s 0 0 A) (F0 m 118 ls [.int y25.1]) := by
          intro H locs ls hP hD hS hl
          refine lv_istore (lv' := [(6, .int y25.1), (5, .int s10.1), (4, .int y8), (3, .int x6), (0, .ref (ad a)), (1, .int p0), (2, .int p1)]) hx hb dX1_readReferences_118 hl (by decide) rfl (fun ls hl => ?_)
          refine lv_iload hx hb dX1_readReferences_120 (lv_at hl 0 rfl) ?_
          refine lv_bipush (v := (7 : Int32)) hx hb dX1_readReferences_122 (by decide) ?_
          obtain ⟨y26, hy26, hF⟩ := bnd_some hF
          have J26 : ∀ (H : Heap) (locs : List Loc) (ls : Array Slot), va_P D classes (wld ct ad G y26) H → va_D A (wld ct ad G y26) → va_S A s.heap H locs → lv_has ls 7 [(6, .int y25.1), (5, .int s10.1), (4, .int y8), (3, .int x6), (0, .ref (ad a)), (1, .int p0), (2, .int p1)] → W p l e (headSpec wuX1_readReferences ({ frames := 2, cells := 0, slots := 0, locals := 59 })).room s m ([.ref (ad a), .int p0, .int p1] : List Value).toArray below meth c H locs 0 0 (MQ below (va_Qv (fun (_ : Unit) => True) (fun _ t => kE D ct ad G A y t) A) ([.ref (ad a), .int p0, .int p1] : List Value).toArray s 0 0 A) (F0 m 127 ls []) := by
            intro H locs ls hP hD hS hl
            refine lv_aload_n hx hb dX1_readReferences_127 rfl (lv_at hl 4 rfl) ?_
            refine va_get (D := D) (ci := 1) (v := va_re ad (y26.2 a 2)) (C := RX1) (T := TX1) (N := 22) hx hb hts (mus hf_X1) hown hK hP a (wld_o ct ad G y26 hc hk (by decide)) rfl 2 (by decide) (hts (.fieldLink RX1 28 "VideoSuite$Decoder" "work" "LVideoSuite$Work;") (mu mw_644)) (fun _ h9 => h9) rfl dX1_readReferences_128 ?_
            obtain ⟨b27, ho27, hc27, hk27, hF⟩ := dr_some hF
            refine W_st (st' := [.ref (ad b27)]) (by rw [va_some ho27]) ?_
            refine va_get (D := D) (ci := 9) (v := va_re ad (y26.2 b27 3)) (C := RX9) (T := TX9) (N := 20) hx hb hts (mus hf_X9) hown hK hP b27 (wld_o ct ad G y26 hc27 hk27 (by decide)) rfl 3 (by decide) (hts (.fieldLink RX1 384 "VideoSuite$Work" "lists" "[LVideoSuite$Picture;") (mu mw_438)) (fun _ h9 => h9) rfl dX1_readReferences_131 ?_
            refine lv_bipush (v := (9 : Int32)) hx hb dX1_readReferences_134 (by decide) ?_
            refine lv_iload_n hx hb dX1_readReferences_136 rfl (lv_at hl 6 rfl) ?_
            refine lv_imul hx hb dX1_readReferences_137 ?_
            obtain ⟨x28, ex28, hF⟩ := ltt_some hF
            refine lv_topi (fun zx28 ezx28 => ?_)
            obtain rfl : x28 = zx28 := ex28.trans ezx28.symm
            refine lv_iload hx hb dX1_readReferences_138 (lv_at hl 0 rfl) ?_
            refine lv_iadd hx hb dX1_readReferences_140 ?_
            obtain ⟨x29, ex29, hF⟩ := ltt_some hF
            refine lv_topi (fun zx29 ezx29 => ?_)
            obtain rfl : x29 = zx29 := ex29.trans ezx29.symm
            obtain ⟨b30, ho30, hc30, hk30, hF⟩ := dr_some hF
            refine W_st (st' := [.int x29, .ref (ad b30)]) (by rw [va_some ho30]) ?_
            obtain ⟨hvc, hF⟩ := chk_some hF
            refine ld_q hx hb hK hP hc30 hk30 hvc dX1_readReferences_141 ?_
            obtain ⟨y31, hy31, hF⟩ := bnd_some hF
            have J31 : ∀ (H : Heap) (locs : List Loc) (ls : Array Slot), va_P D classes (wld ct ad G y31) H → va_D A (wld ct ad G y31) → va_S A s.heap H locs → lv_has ls 7 [(6, .int y25.1), (5, .int s10.1), (4, .int y8), (3, .int x6), (0, .ref (ad a)), (1, .int p0), (2, .int p1)] → W p l e (headSpec wuX1_readReferences ({ frames := 2, cells := 0, slots := 0, locals := 59 })).room s m ([.ref (ad a), .int p0, .int p1] : List Value).toArray below meth c H locs 0 0 (MQ below (va_Qv (fun (_ : Unit) => True) (fun _ t => kE D ct ad G A y t) A) ([.ref (ad a), .int p0, .int p1] : List Value).toArray s 0 0 A) (F0 m 153 ls []) := by
              intro H locs ls hP hD hS hl
              refine lv_aload_n hx hb dX1_readReferences_153 rfl (lv_at hl 4 rfl) ?_
              refine va_get (D := D) (ci := 1) (v := va_re ad (y31.2 a 2)) (C := RX1) (T := TX1) (N := 22) hx hb hts (mus hf_X1) hown hK hP a (wld_o ct ad G y31 hc hk (by decide)) rfl 2 (by decide) (hts (.fieldLink RX1 28 "VideoSuite$Decoder" "work" "LVideoSuite$Work;") (mu mw_644)) (fun _ h9 => h9) rfl dX1_readReferences_154 ?_
              refine lv_iload_n hx hb dX1_readReferences_157 rfl (lv_at hl 5 rfl) ?_
              refine lv_iload_n hx hb dX1_readReferences_158 rfl (lv_at hl 6 rfl) ?_
              refine lv_iload hx hb dX1_readReferences_159 (lv_at hl 1 rfl) ?_
              refine lv_iload hx hb dX1_readReferences_161 (lv_at hl 0 rfl) ?_
              obtain ⟨b32, ho32, hc32, hk32, hF⟩ := dr_some hF
              refine W_st (st' := [.int y25.1, .int s10.1, .int p1, .int p0, .ref (ad b32)]) (by rw [va_some ho32]) ?_
              obtain ⟨y33, hy33, hF⟩ := bnd_some hF
              have hf9 := wA_in hD hA9 hS
              refine va_callv (va_runV (As := [.int p0, .int p1, .int s10.1, .int y25.1]) (rest := []) ⟨hx, hb, hml, hown, hts⟩ (kX9_setReference l D ct ad Z G y31 H.size b32 p0 p1 s10.1 y25.1 y33 hc32 hk32 hy33) (cwV 4 hts gX1_readReferences_X9_setReference rfl rfl rfl (by decide +kernel) ⟨Nat.le_of_ble_eq_true rfl, Nat.le_of_ble_eq_true rfl⟩) ⟨fun a U g mk q => by obtain ⟨q0, q1, qP, qK, qD, qZ, qN⟩ := q; exact ⟨q0, q1, qP, va_K.moved (u := U) (U := U.calling g mk a) (Vm.Alike.refl U.vm) qK, qD, sF.moved (u := U) (U := U.calling g mk a) (Vm.Alike.refl U.vm) qZ, nF.same rfl qN⟩, va_recv hK hP (ci := 9) (q0 := b32) rfl (wld_o ct ad G y31 hc32 hk32 (by decide)), fun U hU hW => ⟨rfl, by rw [hU], by rw [hU]; exact hP, va_K.moved hW.alike hK, hD.weaken (fun _ _ _ _ => trivial), by rw [hU]; exact ((hZ.kept hS.2.1).narrow hf9).moved hW.alike, hN.warm hW⟩⟩ rfl rfl hl.1 rfl (lv_room (Nat.le_of_ble_eq_true rfl)) dX1_readReferences_163 ⟨(Nat.zero_le _), (Nat.zero_le _)⟩) hS (fun q _ h => hf9 q h) hf9 (fun u t H locs ht hvm hw hB hz1 hk1 hS => ?_)
              obtain ⟨hP, hK9, hD9⟩ := hB
              rw [ht] at hP
              have hD := hD9.weaken (fun _ q _ h => hf9 q.1 h)
              obtain rfl := Option.some.inj hF
              exact J22 _ _ _ hP hD hS (lv_sub hl [1, 2, 3, 4, 5, 6] rfl)
            clear hF
            have hF := hy31
            clear hy31
            refine lv_ifnonnullq (tgt := 153) hx hb dX1_readReferences_142 (by decide) (fun c34 => ?_) (fun c34 => ?_)
            · rw [if_neg c34] at hF
              obtain rfl := Option.some.inj hF
              exact J31 _ _ _ hP hD hS (lv_sub hl [0, 1, 2, 3, 4, 5, 6] rfl)
            · rw [if_pos c34] at hF
              refine lv_aload_n hx hb dX1_readReferences_145 rfl (lv_at hl 4 rfl) ?_
              refine va_get (D := D) (ci := 1) (v := va_re ad (y26.2 a 0)) (C := RX1) (T := TX1) (N := 22) hx hb hts (mus hf_X1) hown hK hP a (wld_o ct ad G y26 hc hk (by decide)) rfl 0 (by decide) (hts (.fieldLink RX1 12 "VideoSuite$Decoder" "reader" "LVideoSuite$Reader;") (mu mw_640)) (fun _ h9 => h9) rfl dX1_readReferences_146 ?_
              refine lv_iconst (v := (4 : Int32)) hx hb dX1_readReferences_149 (by decide) ?_
              cases hF
          clear hF
          have hF := hy26
          clear hy26
          refine lv_icmp_gt (tgt := 145) hx hb dX1_readReferences_124 (by decide) (fun c35 => ?_) (fun c35 => ?_)
          · rw [if_pos c35] at hF
            refine lv_aload_n hx hb dX1_readReferences_145 rfl (lv_at hl 4 rfl) ?_
            refine va_get (D := D) (ci := 1) (v := va_re ad (y25.2.2 a 0)) (C := RX1) (T := TX1) (N := 22) hx hb hts (mus hf_X1) hown hK hP a (wld_o ct ad G y25.2 hc hk (by decide)) rfl 0 (by decide) (hts (.fieldLink RX1 12 "VideoSuite$Decoder" "reader" "LVideoSuite$Reader;") (mu mw_640)) (fun _ h9 => h9) rfl dX1_readReferences_146 ?_
            refine lv_iconst (v := (4 : Int32)) hx hb dX1_readReferences_149 (by decide) ?_
            cases hF
          · rw [if_neg c35] at hF
            obtain rfl := Option.some.inj hF
            exact J26 _ _ _ hP hD hS (lv_sub hl [0, 1, 2, 3, 4, 5, 6] rfl)
        clear hF
        have hF := hy25
        clear hy25
        refine lv_if_ne (tgt := 101) hx hb dX1_readReferences_93 (by decide) (fun c36 => ?_) (fun c36 => ?_)
        · rw [if_neg c36] at hF
          refine lv_iconst (v := (0 : Int32)) hx hb dX1_readReferences_101 (by decide) ?_
          refine lv_goto (tgt := 118) hx hb dX1_readReferences_102 (by decide) ?_
          obtain rfl := Option.some.inj hF
          exact J25 _ _ _ hP hD hS (lv_sub hl [0, 1, 2, 3, 4, 5] rfl)
        · rw [if_pos c36] at hF
          refine lv_iload_n hx hb dX1_readReferences_96 rfl (lv_at hl 2 rfl) ?_
          refine lv_iconst (v := (1 : Int32)) hx hb dX1_readReferences_97 (by decide) ?_
          obtain ⟨y37, hy37, hF⟩ := bnd_some hF
          have J37 : ∀ (H : Heap) (locs : List Loc) (ls : Array Slot), va_P D classes (wld ct ad G y37.2) H → va_D A (wld ct ad G y37.2) → va_S A s.heap H locs → lv_has ls 7 [(5, .int s10.1), (4, .int y8), (3, .int x6), (0, .ref (ad a)), (1, .int p0), (2, .int p1)] → W p l e (headSpec wuX1_readReferences ({ frames := 2, cells := 0, slots := 0, locals := 59 })).room s m ([.ref (ad a), .int p0, .int p1] : List Value).toArray below meth c H locs 0 0 (MQ below (va_Qv (fun (_ : Unit) => True) (fun _ t => kE D ct ad G A y t) A) ([.ref (ad a), .int p0, .int p1] : List Value).toArray s 0 0 A) (F0 m 118 ls [.int y37.1]) := by
            intro H locs ls hP hD hS hl
            obtain rfl := Option.some.inj hF
            exact J25 _ _ _ hP hD hS (lv_sub hl [0, 1, 2, 3, 4, 5] rfl)
          clear hF
          have hF := hy37
          clear hy37
          refine lv_icmp_ge (tgt := 105) hx hb dX1_readReferences_98 (by decide) (fun c38 => ?_) (fun c38 => ?_)
          · rw [if_pos c38] at hF
            refine lv_aload_n hx hb dX1_readReferences_105 rfl (lv_at hl 3 rfl) ?_
            refine va_get (D := D) (ci := 1) (v := va_re ad (s10.2.2 a 0)) (C := RX1) (T := TX1) (N := 22) hx hb hts (mus hf_X1) hown hK hP a (wld_o ct ad G s10.2 hc hk (by decide)) rfl 0 (by decide) (hts (.fieldLink RX1 12 "VideoSuite$Decoder" "reader" "LVideoSuite$Reader;") (mu mw_640)) (fun _ h9 => h9) rfl dX1_readReferences_106 ?_
            refine lv_bipush (v := (6 : Int32)) hx hb dX1_readReferences_109 (by decide) ?_
            refine lv_iconst (v := (2 : Int32)) hx hb dX1_readReferences_111 (by decide) ?_
            refine lv_lconst (v := (0 : Int64)) hx hb dX1_readReferences_112 rfl ?_
            refine lv_iload_n hx hb dX1_readReferences_113 rfl (lv_at hl 2 rfl) ?_
            refine lv_i2l (v := x6.toInt64) hx hb dX1_readReferences_114 rfl ?_
            obtain ⟨x39, ex39, hF⟩ := ltt_some hF
            refine lv_topl (fun zx39 ezx39 => ?_)
            obtain rfl : x39 = zx39 := ex39.trans ezx39.symm
            obtain ⟨b40, ho40, hc40, hk40, hF⟩ := dr_some hF
            refine W_st (st' := [.long x39, .long (0 : Int64), .int (2 : Int32), .int (6 : Int32), .ref (ad b40)]) (by rw [va_some ho40]) ?_
            obtain ⟨y41, hy41, hF⟩ := bnd_some hF
            have hf9 := wA_in hD hA9 hS
            refine va_calli (va_runV (As := [.int (6 : Int32), .int (2 : Int32), .long (0 : Int64), .long x39]) (rest := []) ⟨hx, hb, hml, hown, hts⟩ (kX5_number l D ct ad Z G s10.2 H.size b40 ((6 : Int32)) ((2 : Int32)) ((0 : Int64)) x39 y41 hc40 hk40 hy41) (cwV 4 hts gX1_readReferences_X5_number rfl rfl rfl (by decide +kernel) ⟨Nat.le_of_ble_eq_true rfl, Nat.le_of_ble_eq_true rfl⟩) ⟨fun a U g mk q => by obtain ⟨q0, q1, qP, qK, qD, qZ, qN⟩ := q; exact ⟨q0, q1, qP, va_K.moved (u := U) (U := U.calling g mk a) (Vm.Alike.refl U.vm) qK, qD, sF.moved (u := U) (U := U.calling g mk a) (Vm.Alike.refl U.vm) qZ, nF.same rfl qN⟩, va_recv hK hP (ci := 5) (q0 := b40) rfl (wld_o ct ad G s10.2 hc40 hk40 (by decide)), fun U hU hW => ⟨rfl, by rw [hU], by rw [hU]; exact hP, va_K.moved hW.alike hK, hD.weaken (fun _ _ _ _ => trivial), by rw [hU]; exact ((hZ.kept hS.2.1).narrow hf9).moved hW.alike, hN.warm hW⟩⟩ rfl rfl hl.1 rfl (lv_room (Nat.le_of_ble_eq_true rfl)) dX1_readReferences_115 ⟨(Nat.zero_le _), (Nat.zero_le _)⟩) hS (fun q _ h => hf9 q h) hf9 (fun r u t H locs ht hvm hw hB hz1 hk1 hS => ?_)
            obtain ⟨hP, hK9, hD9⟩ := hB
            rw [ht] at hP
            try dsimp only at hw
            subst hw
            have hD := hD9.weaken (fun _ q _ h => hf9 q.1 h)
            obtain rfl := Option.some.inj hF
            exact J37 _ _ _ hP hD hS (lv_sub hl [0, 1, 2, 3, 4, 5] rfl)
          · rw [if_neg c38] at hF
            refine lv_iconst (v := (0 : Int32)) hx hb dX1_readReferences_101 (by decide) ?_
            refine lv_goto (tgt := 118) hx hb dX1_readReferences_102 (by decide) ?_
            obtain rfl := Option.some.inj hF
            exact J37 _ _ _ hP hD hS (lv_sub hl [0, 1, 2, 3, 4, 5] rfl)
      · rw [if_pos c24] at hF
        refine lv_goto (tgt := 166) hx hb dX1_readReferences_88 (by decide) ?_
        obtain rfl := Option.some.inj hF
        exact J22 _ _ _ hP hD hS (lv_sub hl [0, 1, 2, 3, 4, 5] rfl)
  clear hF
  have hF := hy8
  clear hy8
  refine lv_if_ne (tgt := 49) hx hb dX1_readReferences_24 (by decide) (fun c42 => ?_) (fun c42 => ?_)
  · rw [if_neg c42] at hF
    refine lv_iconst (v := (0 : Int32)) hx hb dX1_readReferences_49 (by decide) ?_
    obtain rfl := Option.some.inj hF
    exact J8 _ _ _ hP hD hS (lv_sub hl [0, 1, 2, 3] rfl)
  · rw [if_pos c42] at hF
    refine lv_aload_n hx hb dX1_readReferences_27 rfl (lv_at hl 1 rfl) ?_
    refine va_get (D := D) (ci := 1) (v := va_re ad (M.2 a 2)) (C := RX1) (T := TX1) (N := 22) hx hb hts (mus hf_X1) hown hK hP a (wld_o ct ad G M hc hk (by decide)) rfl 2 (by decide) (hts (.fieldLink RX1 28 "VideoSuite$Decoder" "work" "LVideoSuite$Work;") (mu mw_644)) (fun _ h9 => h9) rfl dX1_readReferences_28 ?_
    obtain ⟨b43, ho43, hc43, hk43, hF⟩ := dr_some hF
    refine W_st (st' := [.ref (ad b43)]) (by rw [va_some ho43]) ?_
    refine va_get (D := D) (ci := 9) (v := va_re ad (M.2 b43 6)) (C := RX9) (T := TX9) (N := 20) hx hb hts (mus hf_X9) hown hK hP b43 (wld_o ct ad G M hc43 hk43 (by decide)) rfl 6 (by decide) (hts (.fieldLink RX1 355 "VideoSuite$Work" "info" "[I") (mu mw_444)) (fun _ h9 => h9) rfl dX1_readReferences_31 ?_
    refine lv_bipush (v := (8 : Int32)) hx hb dX1_readReferences_34 (by decide) ?_
    refine lv_iload_n hx hb dX1_readReferences_36 rfl (lv_at hl 2 rfl) ?_
    refine lv_imul hx hb dX1_readReferences_37 ?_
    obtain ⟨x44, ex44, hF⟩ := ltt_some hF
    refine lv_topi (fun zx44 ezx44 => ?_)
    obtain rfl : x44 = zx44 := ex44.trans ezx44.symm
    refine lv_iconst (v := (1 : Int32)) hx hb dX1_readReferences_38 (by decide) ?_
    refine lv_iadd hx hb dX1_readReferences_39 ?_
    obtain ⟨x45, ex45, hF⟩ := ltt_some hF
    refine lv_topi (fun zx45 ezx45 => ?_)
    obtain rfl : x45 = zx45 := ex45.trans ezx45.symm
    obtain ⟨b46, ho46, hc46, hk46, hF⟩ := dr_some hF
    refine W_st (st' := [.int x45, .ref (ad b46)]) (by rw [va_some ho46]) ?_
    obtain ⟨hvc, hF⟩ := chk_some hF
    refine va_iald hx hb hK hP b46 1 (wld_i ct ad G M hc46 hk46) rfl hvc dX1_readReferences_40 ?_
    obtain ⟨x47, ex47, hF⟩ := ltt_some hF
    refine lv_topi (fun zx47 ezx47 => ?_)
    obtain rfl : x47 = zx47 := ex47.trans ezx47.symm
    refine lv_iconst (v := (4 : Int32)) hx hb dX1_readReferences_41 (by decide) ?_
    obtain ⟨y48, hy48, hF⟩ := bnd_some hF
    have J48 : ∀ (H : Heap) (locs : List Loc) (ls : Array Slot), va_P D classes (wld ct ad G M) H → va_D A (wld ct ad G M) → va_S A s.heap H locs → lv_has ls 7 [(3, .int x6), (0, .ref (ad a)), (1, .int p0), (2, .int p1)] → W p l e (headSpec wuX1_readReferences ({ frames := 2, cells := 0, slots := 0, locals := 59 })).room s m ([.ref (ad a), .int p0, .int p1] : List Value).toArray below meth c H locs 0 0 (MQ below (va_Qv (fun (_ : Unit) => True) (fun _ t => kE D ct ad G A y t) A) ([.ref (ad a), .int p0, .int p1] : List Value).toArray s 0 0 A) (F0 m 50 ls [.int y48]) := by
      intro H locs ls hP hD hS hl
      obtain rfl := Option.some.inj hF
      exact J8 _ _ _ hP hD hS (lv_sub hl [0, 1, 2, 3] rfl)
    clear hF
    have hF := hy48
    clear hy48
    refine lv_icmp_ne (tgt := 49) hx hb dX1_readReferences_42 (by decide) (fun c49 => ?_) (fun c49 => ?_)
    · rw [if_neg c49] at hF
      refine lv_iconst (v := (0 : Int32)) hx hb dX1_readReferences_49 (by decide) ?_
      obtain rfl := Option.some.inj hF
      exact J48 _ _ _ hP hD hS (lv_sub hl [0, 1, 2, 3] rfl)
    · rw [if_pos c49] at hF
      refine lv_iconst (v := (1 : Int32)) hx hb dX1_readReferences_45 (by decide) ?_
      refine lv_goto (tgt := 50) hx hb dX1_readReferences_46 (by decide) ?_
      obtain rfl := Option.some.inj hF
      exact J48 _ _ _ hP hD hS (lv_sub hl [0, 1, 2, 3] rfl)
set_option maxRecDepth 20000 in
theorem gX1_readSixteen_X9_sides : GoodIn wuX1_readSixteen (wsV RX1 416 RX9 yX9_sides wuX9_sides) := gu_V mw_1988 mw_1989 mw_1990 mw_171 mw_1991
set_option maxRecDepth 20000 in
set_option maxRecDepth 20000 in
theorem gX1_readSixteen_X9_mayBeSixteen : GoodIn wuX1_readSixteen (va_wsS RX1 419 yX9_mayBeSixteen wuX9_mayBeSixteen) := gu_S mw_2168 mw_2169 mw_171 mw_2170
set_option maxRecDepth 20000 in
set_option maxRecDepth 20000 in
theorem gX1_readSixteen_J7_fill_fda19 : GoodIn wuX1_readSixteen (va_wsS RX1 425 yJ7_fill_fda19 wuJ7_fill_fda19) := gu_S mw_2171 mw_1556 mw_182 mw_1557
set_option maxRecDepth 20000 in
set_option maxRecDepth 20000 in
theorem gX1_readSixteen_X1_readColours : GoodIn wuX1_readSixteen (wsV RX1 428 RX1 yX1_readColours wuX1_readColours) := gu_V mw_2172 mw_2174 mw_94 mw_168 mw_2175
theorem dX1_readSixteen_0 : decode cX1_readSixteen 0 = .ok (.aload_n 0, 1) := by decide +kernel
theorem dX1_readSixteen_1 : decode cX1_readSixteen 1 = .ok (.getfield 28, 3) := by decide +kernel
theorem dX1_readSixteen_4 : decode cX1_readSixteen 4 = .ok (.iload_n 1, 1) := by decide +kernel
theorem dX1_readSixteen_5 : decode cX1_readSixteen 5 = .ok (.invokevirtual 416, 3) := by decide +kernel
theorem dX1_readSixteen_8 : decode cX1_readSixteen 8 = .ok (.istore_n 3, 1) := by decide +kernel
theorem dX1_readSixteen_9 : decode cX1_readSixteen 9 = .ok (.aload_n 0, 1) := by decide +kernel
theorem dX1_readSixteen_10 : decode cX1_readSixteen 10 = .ok (.getfield 28, 3) := by decide +kernel
theorem dX1_readSixteen_13 : decode cX1_readSixteen 13 = .ok (.getfield 355, 3) := by decide +kernel
theorem dX1_readSixteen_16 : decode cX1_readSixteen 16 = .ok (.bipush 8, 2) := by decide +kernel
theorem dX1_readSixteen_18 : decode cX1_readSixteen 18 = .ok (.iload_n 1, 1) := by decide +kernel
theorem dX1_readSixteen_19 : decode cX1_readSixteen 19 = .ok (.imul, 1) := by decide +kernel
theorem dX1_readSixteen_20 : decode cX1_readSixteen 20 = .ok (.iconst 0, 1) := by decide +kernel
theorem dX1_readSixteen_21 : decode cX1_readSixteen 21 = .ok (.iadd, 1) := by decide +kernel
theorem dX1_readSixteen_22 : decode cX1_readSixteen 22 = .ok (.iconst 1, 1) := by decide +kernel
theorem dX1_readSixteen_23 : decode cX1_readSixteen 23 = .ok (.iastore, 1) := by decide +kernel
theorem dX1_readSixteen_24 : decode cX1_readSixteen 24 = .ok (.aload_n 0, 1) := by decide +kernel
theorem dX1_readSixteen_25 : decode cX1_readSixteen 25 = .ok (.getfield 28, 3) := by decide +kernel
theorem dX1_readSixteen_28 : decode cX1_readSixteen 28 = .ok (.getfield 355, 3) := by decide +kernel
theorem dX1_readSixteen_31 : decode cX1_readSixteen 31 = .ok (.bipush 8, 2) := by decide +kernel
theorem dX1_readSixteen_33 : decode cX1_readSixteen 33 = .ok (.iload_n 1, 1) := by decide +kernel
theorem dX1_readSixteen_34 : decode cX1_readSixteen 34 = .ok (.imul, 1) := by decide +kernel
theorem dX1_readSixteen_35 : decode cX1_readSixteen 35 = .ok (.iconst 3, 1) := by decide +kernel
theorem dX1_readSixteen_36 : decode cX1_readSixteen 36 = .ok (.iadd, 1) := by decide +kernel
theorem dX1_readSixteen_37 : decode cX1_readSixteen 37 = .ok (.iload_n 2, 1) := by decide +kernel
theorem dX1_readSixteen_38 : decode cX1_readSixteen 38 = .ok (.bipush 11, 2) := by decide +kernel
theorem dX1_readSixteen_40 : decode cX1_readSixteen 40 = .ok (.if_icmp .le 8, 3) := by decide +kernel
theorem dX1_readSixteen_43 : decode cX1_readSixteen 43 = .ok (.bipush 15, 2) := by decide +kernel
theorem dX1_readSixteen_45 : decode cX1_readSixteen 45 = .ok (.goto 4, 3) := by decide +kernel
theorem dX1_readSixteen_48 : decode cX1_readSixteen 48 = .ok (.iconst 0, 1) := by decide +kernel
theorem dX1_readSixteen_49 : decode cX1_readSixteen 49 = .ok (.iastore, 1) := by decide +kernel
theorem dX1_readSixteen_50 : decode cX1_readSixteen 50 = .ok (.aload_n 0, 1) := by decide +kernel
theorem dX1_readSixteen_51 : decode cX1_readSixteen 51 = .ok (.getfield 28, 3) := by decide +kernel
theorem dX1_readSixteen_54 : decode cX1_readSixteen 54 = .ok (.getfield 355, 3) := by decide +kernel
theorem dX1_readSixteen_57 : decode cX1_readSixteen 57 = .ok (.bipush 8, 2) := by decide +kernel
theorem dX1_readSixteen_59 : decode cX1_readSixteen 59 = .ok (.iload_n 1, 1) := by decide +kernel
theorem dX1_readSixteen_60 : decode cX1_readSixteen 60 = .ok (.imul, 1) := by decide +kernel
theorem dX1_readSixteen_61 : decode cX1_readSixteen 61 = .ok (.iconst 4, 1) := by decide +kernel
theorem dX1_readSixteen_62 : decode cX1_readSixteen 62 = .ok (.iadd, 1) := by decide +kernel
theorem dX1_readSixteen_63 : decode cX1_readSixteen 63 = .ok (.iload_n 2, 1) := by decide +kernel
theorem dX1_readSixteen_64 : decode cX1_readSixteen 64 = .ok (.iconst 4, 1) := by decide +kernel
theorem dX1_readSixteen_65 : decode cX1_readSixteen 65 = .ok (.idiv, 1) := by decide +kernel
theorem dX1_readSixteen_66 : decode cX1_readSixteen 66 = .ok (.iconst 3, 1) := by decide +kernel
theorem dX1_readSixteen_67 : decode cX1_readSixteen 67 = .ok (.irem, 1) := by decide +kernel
theorem dX1_readSixteen_68 : decode cX1_readSixteen 68 = .ok (.iastore, 1) := by decide +kernel
theorem dX1_readSixteen_69 : decode cX1_readSixteen 69 = .ok (.iload_n 2, 1) := by decide +kernel
theorem dX1_readSixteen_70 : decode cX1_readSixteen 70 = .ok (.iconst 4, 1) := by decide +kernel
theorem dX1_readSixteen_71 : decode cX1_readSixteen 71 = .ok (.irem, 1) := by decide +kernel
theorem dX1_readSixteen_72 : decode cX1_readSixteen 72 = .ok (.iload_n 3, 1) := by decide +kernel
theorem dX1_readSixteen_73 : decode cX1_readSixteen 73 = .ok (.invokestatic 419, 3) := by decide +kernel
theorem dX1_readSixteen_76 : decode cX1_readSixteen 76 = .ok (.ifCond .ne 11, 3) := by decide +kernel
theorem dX1_readSixteen_79 : decode cX1_readSixteen 79 = .ok (.aload_n 0, 1) := by decide +kernel
theorem dX1_readSixteen_80 : decode cX1_readSixteen 80 = .ok (.getfield 12, 3) := by decide +kernel
theorem dX1_readSixteen_83 : decode cX1_readSixteen 83 = .ok (.iconst 4, 1) := by decide +kernel
theorem dX1_readSixteen_84 : decode cX1_readSixteen 84 = .ok (.invokevirtual 325, 3) := by decide +kernel
theorem dX1_readSixteen_87 : decode cX1_readSixteen 87 = .ok (.aload_n 0, 1) := by decide +kernel
theorem dX1_readSixteen_88 : decode cX1_readSixteen 88 = .ok (.getfield 28, 3) := by decide +kernel
theorem dX1_readSixteen_91 : decode cX1_readSixteen 91 = .ok (.getfield 422, 3) := by decide +kernel
theorem dX1_readSixteen_94 : decode cX1_readSixteen 94 = .ok (.bipush 16, 2) := by decide +kernel
theorem dX1_readSixteen_96 : decode cX1_readSixteen 96 = .ok (.iload_n 1, 1) := by decide +kernel
theorem dX1_readSixteen_97 : decode cX1_readSixteen 97 = .ok (.imul, 1) := by decide +kernel
theorem dX1_readSixteen_98 : decode cX1_readSixteen 98 = .ok (.bipush 16, 2) := by decide +kernel
theorem dX1_readSixteen_100 : decode cX1_readSixteen 100 = .ok (.iload_n 1, 1) := by decide +kernel
theorem dX1_readSixteen_101 : decode cX1_readSixteen 101 = .ok (.imul, 1) := by decide +kernel
theorem dX1_readSixteen_102 : decode cX1_readSixteen 102 = .ok (.bipush 16, 2) := by decide +kernel
theorem dX1_readSixteen_104 : decode cX1_readSixteen 104 = .ok (.iadd, 1) := by decide +kernel
theorem dX1_readSixteen_105 : decode cX1_readSixteen 105 = .ok (.iload_n 2, 1) := by decide +kernel
theorem dX1_readSixteen_106 : decode cX1_readSixteen 106 = .ok (.iconst 4, 1) := by decide +kernel
theorem dX1_readSixteen_107 : decode cX1_readSixteen 107 = .ok (.irem, 1) := by decide +kernel
theorem dX1_readSixteen_108 : decode cX1_readSixteen 108 = .ok (.invokestatic 425, 3) := by decide +kernel
theorem dX1_readSixteen_111 : decode cX1_readSixteen 111 = .ok (.aload_n 0, 1) := by decide +kernel
theorem dX1_readSixteen_112 : decode cX1_readSixteen 112 = .ok (.iload_n 1, 1) := by decide +kernel
theorem dX1_readSixteen_113 : decode cX1_readSixteen 113 = .ok (.iload_n 3, 1) := by decide +kernel
theorem dX1_readSixteen_114 : decode cX1_readSixteen 114 = .ok (.invokevirtual 428, 3) := by decide +kernel
theorem dX1_readSixteen_117 : decode cX1_readSixteen 117 = .ok (.return_, 1) := by decide +kernel
def FX1_readSixteen (G : GG) (M : DD) (a : Nat) (p0 : Int32) (p1 : Int32) : Option (DD) :=
  dr G 9 ((M.2 a 2)) fun b2 =>
  bnd (FX9_sides G M b2 p0) fun y3 =>
  dr G 9 ((y3.1.2 a 2)) fun b4 =>
  ltt ((((8 : Int32)) * p0)) fun x5 =>
  ltt ((x5 + ((0 : Int32)))) fun x6 =>
  dr G 13 ((y3.1.2 b4 6)) fun b7 =>
  chk (¬ (x6 < 0 ∨ G.2.2 b7 ≤ x6.toNatClampNeg)) <|
  ltt (uI y3.1 b7 x6.toNatClampNeg ((1 : Int32))) fun M8 =>
  dr G 9 ((M8.2 a 2)) fun b9 =>
  ltt ((((8 : Int32)) * p0)) fun x10 =>
  ltt ((x10 + ((3 : Int32)))) fun x11 =>
  bnd (if p1 ≤ ((11 : Int32)) then (some ((0 : Int32))) else
  (some ((15 : Int32)))) fun (y12 : Int32) =>
  dr G 13 ((M8.2 b9 6)) fun b13 =>
  chk (¬ (x11 < 0 ∨ G.2.2 b13 ≤ x11.toNatClampNeg)) <|
  ltt (uI M8 b13 x11.toNatClampNeg y12) fun M14 =>
  dr G 9 ((M14.2 a 2)) fun b15 =>
  ltt ((((8 : Int32)) * p0)) fun x16 =>
  ltt ((x16 + ((4 : Int32)))) fun x17 =>
  ltt (p1 / ((4 : Int32))) fun x18 =>
  ltt (x18 - x18 / ((3 : Int32)) * ((3 : Int32))) fun x19 =>
  dr G 13 ((M14.2 b15 6)) fun b20 =>
  chk (¬ (x17 < 0 ∨ G.2.2 b20 ≤ x17.toNatClampNeg)) <|
  ltt (uI M14 b20 x17.toNatClampNeg x19) fun M21 =>
  ltt (p1 - p1 / ((4 : Int32)) * ((4 : Int32))) fun x22 =>
  bnd (FX9_mayBeSixteen G M21 x22 y3.2) fun y23 =>
  bnd (if y23.2 = ((0 : Int32)) then (none) else
  (some (y23.1))) fun (y24 : DD) =>
  dr G 9 ((y24.2 a 2)) fun b25 =>
  ltt ((((16 : Int32)) * p0)) fun x26 =>
  ltt ((((16 : Int32)) * p0)) fun x27 =>
  ltt ((x27 + ((16 : Int32)))) fun x28 =>
  ltt (p1 - p1 / ((4 : Int32)) * ((4 : Int32))) fun x29 =>
  bnd (FJ7_fill_fda19 G y24 ((y24.2 b25 7)) x26 x28 x29) fun y30 =>
  bnd (FX1_readColours G y30 a p0 y3.2) fun y31 =>
  some y31
set_option maxHeartbeats 4000000 in
set_option maxRecDepth 100000 in
theorem kX1_readSixteen (l : Launch) (D : va_G) (ct : CT) (ad : Nat → Nat) (Z : Nat → Nat) (G : GG) (M : DD) (sz : Nat) (a : Nat) (p0 : Int32) (p1 : Int32) (y : DD) (hc : a < G.1) (hk : G.2.1 a = 1) (hF : FX1_readSixteen G M a p0 p1 = some y) : Met l yX1_readSixteen wuX1_readSixteen ({ frames := 3, cells := 0, slots := 0, locals := 82 }) (va_Pc [.ref (ad a), .int p0, .int p1] (kB D ct ad Z G M sz)) (va_Qv (fun (_ : Unit) => True) (fun _ t => kE D ct ad G (wA ad G sz) y t) (wA ad G sz)) 0 0 (wA ad G sz) := by
  refine Met.ofW (cc := cX1_readSixteen) (maxL := 4) (ret := none) (by decide) rfl ?_
  intro p e s m args below meth c s₁ B hml hv
  obtain ⟨rfl, hsz, hP, hK, hD0, hZ, hN⟩ := hv
  have hx := B.exec
  have hb := B.bytes
  have hr := B.returns
  have hts := atoms_spec (ws := wuX1_readSixteen) B.pre
  have hown : s.vm.findClass RX1 = some m.cls := findClass_of_methodNamed B.named
  have hlocks := B.notSynchronized
  subst hsz
  have hD := wD_self (sz := s.heap.size) hD0
  have hA9 : ∀ q, s.heap.size ≤ q → wA ad G s.heap.size q := fun q h => Or.inr h
  generalize hAe : wA ad G s.heap.size = A at hD hA9 hZ ⊢
  have hS : va_S A s.heap s.heap [] := va_S.rf
  have hl := lv_entry ([.ref (ad a), .int p0, .int p1]) (n := 4) (Nat.le_of_ble_eq_true rfl)
  rw [lg_entry_eq]
  generalize (lg_sl ([.ref (ad a), .int p0, .int p1]) ++ List.replicate (4 - (lg_sl ([.ref (ad a), .int p0, .int p1])).length) Slot.unset).toArray = ls at hl ⊢
  have hl : lv_has ls 4 [(0, .ref (ad a)), (1, .int p0), (2, .int p1)] := hl
  unfold FX1_readSixteen at hF
  refine lv_aload_n hx hb dX1_readSixteen_0 rfl (lv_at hl 0 rfl) ?_
  refine va_get (D := D) (ci := 1) (v := va_re ad (M.2 a 2)) (C := RX1) (T := TX1) (N := 22) hx hb hts (mus hf_X1) hown hK hP a (wld_o ct ad G M hc hk (by decide)) rfl 2 (by decide) (hts (.fieldLink RX1 28 "VideoSuite$Decoder" "work" "LVideoSuite$Work;") (mu mw_644)) (fun _ h9 => h9) rfl dX1_readSixteen_1 ?_
  refine lv_iload_n hx hb dX1_readSixteen_4 rfl (lv_at hl 1 rfl) ?_
  obtain ⟨b2, ho2, hc2, hk2, hF⟩ := dr_some hF
  refine W_st (st' := [.int p0, .ref (ad b2)]) (by rw [va_some ho2]) ?_
  obtain ⟨y3, hy3, hF⟩ := bnd_some hF
  have hf9 := wA_in hD hA9 hS
  refine va_calli (va_runV (As := [.int p0]) (rest := []) ⟨hx, hb, hml, hown, hts⟩ (kX9_sides l D ct ad Z G M s.heap.size b2 p0 y3 hc2 hk2 hy3) (cwV 1 hts gX1_readSixteen_X9_sides rfl rfl rfl (by decide +kernel) ⟨Nat.le_of_ble_eq_true rfl, Nat.le_of_ble_eq_true rfl⟩) ⟨fun a U g mk q => by obtain ⟨q0, q1, qP, qK, qD, qZ, qN⟩ := q; exact ⟨q0, q1, qP, va_K.moved (u := U) (U := U.calling g mk a) (Vm.Alike.refl U.vm) qK, qD, sF.moved (u := U) (U := U.calling g mk a) (Vm.Alike.refl U.vm) qZ, nF.same rfl qN⟩, va_recv hK hP (ci := 9) (q0 := b2) rfl (wld_o ct ad G M hc2 hk2 (by decide)), fun U hU hW => ⟨rfl, by rw [hU], by rw [hU]; exact hP, va_K.moved hW.alike hK, hD.weaken (fun _ _ _ _ => trivial), by rw [hU]; exact ((hZ.kept hS.2.1).narrow hf9).moved hW.alike, hN.warm hW⟩⟩ rfl rfl hl.1 rfl (lv_room (Nat.le_of_ble_eq_true rfl)) dX1_readSixteen_5 ⟨(Nat.zero_le _), (Nat.zero_le _)⟩) hS (fun q _ h => hf9 q h) hf9 (fun r u t H locs ht hvm hw hB hz1 hk1 hS => ?_)
  obtain ⟨hP, hK9, hD9⟩ := hB
  rw [ht] at hP
  try dsimp only at hw
  subst hw
  have hD := hD9.weaken (fun _ q _ h => hf9 q.1 h)
  refine lv_istore_n (lv' := [(3, .int y3.2), (0, .ref (ad a)), (1, .int p0), (2, .int p1)]) hx hb dX1_readSixteen_8 rfl hl (by decide) rfl (fun ls hl => ?_)
  refine lv_aload_n hx hb dX1_readSixteen_9 rfl (lv_at hl 1 rfl) ?_
  refine va_get (D := D) (ci := 1) (v := va_re ad (y3.1.2 a 2)) (C := RX1) (T := TX1) (N := 22) hx hb hts (mus hf_X1) hown hK hP a (wld_o ct ad G y3.1 hc hk (by decide)) rfl 2 (by decide) (hts (.fieldLink RX1 28 "VideoSuite$Decoder" "work" "LVideoSuite$Work;") (mu mw_644)) (fun _ h9 => h9) rfl dX1_readSixteen_10 ?_
  obtain ⟨b4, ho4, hc4, hk4, hF⟩ := dr_some hF
  refine W_st (st' := [.ref (ad b4)]) (by rw [va_some ho4]) ?_
  refine va_get (D := D) (ci := 9) (v := va_re ad (y3.1.2 b4 6)) (C := RX9) (T := TX9) (N := 20) hx hb hts (mus hf_X9) hown hK hP b4 (wld_o ct ad G y3.1 hc4 hk4 (by decide)) rfl 6 (by decide) (hts (.fieldLink RX1 355 "VideoSuite$Work" "info" "[I") (mu mw_444)) (fun _ h9 => h9) rfl dX1_readSixteen_13 ?_
  refine lv_bipush (v := (8 : Int32)) hx hb dX1_readSixteen_16 (by decide) ?_
  refine lv_iload_n hx hb dX1_readSixteen_18 rfl (lv_at hl 2 rfl) ?_
  refine lv_imul hx hb dX1_readSixteen_19 ?_
  obtain ⟨x5, ex5, hF⟩ := ltt_some hF
  refine lv_topi (fun zx5 ezx5 => ?_)
  obtain rfl : x5 = zx5 := ex5.trans ezx5.symm
  refine lv_iconst (v := (0 : Int32)) hx hb dX1_readSixteen_20 (by decide) ?_
  refine lv_iadd hx hb dX1_readSixteen_21 ?_
  obtain ⟨x6, ex6, hF⟩ := ltt_some hF
  refine lv_topi (fun zx6 ezx6 => ?_)
  obtain rfl : x6 = zx6 := ex6.trans ezx6.symm
  refine lv_iconst (v := (1 : Int32)) hx hb dX1_readSixteen_22 (by decide) ?_
  obtain ⟨b7, ho7, hc7, hk7, hF⟩ := dr_some hF
  refine W_st (st' := [.int (1 : Int32), .int x6, .ref (ad b7)]) (by rw [va_some ho7]) ?_
  obtain ⟨hvc, hF⟩ := chk_some hF
  refine va_iast hx hb hK hP hD hS b7 1 (wld_i ct ad G y3.1 hc7 hk7) rfl hvc dX1_readSixteen_23 (fun H locs hP hD hS => ?_)
  obtain ⟨M8, eM8, hF⟩ := ltt_some hF
  rw [set_i ct ad G y3.1 hc7 hk7, ← eM8] at hP hD
  refine lv_aload_n hx hb dX1_readSixteen_24 rfl (lv_at hl 1 rfl) ?_
  refine va_get (D := D) (ci := 1) (v := va_re ad (M8.2 a 2)) (C := RX1) (T := TX1) (N := 22) hx hb hts (mus hf_X1) hown hK hP a (wld_o ct ad G M8 hc hk (by decide)) rfl 2 (by decide) (hts (.fieldLink RX1 28 "VideoSuite$Decoder" "work" "LVideoSuite$Work;") (mu mw_644)) (fun _ h9 => h9) rfl dX1_readSixteen_25 ?_
  obtain ⟨b9, ho9, hc9, hk9, hF⟩ := dr_some hF
  refine W_st (st' := [.ref (ad b9)]) (by rw [va_some ho9]) ?_
  refine va_get (D := D) (ci := 9) (v := va_re ad (M8.2 b9 6)) (C := RX9) (T := TX9) (N := 20) hx hb hts (mus hf_X9) hown hK hP b9 (wld_o ct ad G M8 hc9 hk9 (by decide)) rfl 6 (by decide) (hts (.fieldLink RX1 355 "VideoSuite$Work" "info" "[I") (mu mw_444)) (fun _ h9 => h9) rfl dX1_readSixteen_28 ?_
  refine lv_bipush (v := (8 : Int32)) hx hb dX1_readSixteen_31 (by decide) ?_
  refine lv_iload_n hx hb dX1_readSixteen_33 rfl (lv_at hl 2 rfl) ?_
  refine lv_imul hx hb dX1_readSixteen_34 ?_
  obtain ⟨x10, ex10, hF⟩ := ltt_some hF
  refine lv_topi (fun zx10 ezx10 => ?_)
  obtain rfl : x10 = zx10 := ex10.trans ezx10.symm
  refine lv_iconst (v := (3 : Int32)) hx hb dX1_readSixteen_35 (by decide) ?_
  refine lv_iadd hx hb dX1_readSixteen_36 ?_
  obtain ⟨x11, ex11, hF⟩ := ltt_some hF
  refine lv_topi (fun zx11 ezx11 => ?_)
  obtain rfl : x11 = zx11 := ex11.trans ezx11.symm
  refine lv_iload_n hx hb dX1_readSixteen_37 rfl (lv_at hl 3 rfl) ?_
  refine lv_bipush (v := (11 : Int32)) hx hb dX1_readSixteen_38 (by decide) ?_
  obtain ⟨y12, hy12, hF⟩ := bnd_some hF
  have J12 : ∀ (H : Heap) (locs : List Loc) (ls : Array Slot), va_P D classes (wld ct ad G M8) H → va_D A (wld ct ad G M8) → va_S A s.heap H locs → lv_has ls 4 [(3, .int y3.2), (0, .ref (ad a)), (1, .int p0), (2, .int p1)] → W p l e (headSpec wuX1_readSixteen ({ frames := 3, cells := 0, slots := 0, locals := 82 })).room s m ([.ref (ad a), .int p0, .int p1] : List Value).toArray below meth c H locs 0 0 (MQ below (va_Qv (fun (_ : Unit) => True) (fun _ t => kE D ct ad G A y t) A) ([.ref (ad a), .int p0, .int p1] : List Value).toArray s 0 0 A) (F0 m 49 ls [.int y12, .int x11, va_re ad (M8.2 b9 6)]) := by
    intro H locs ls hP hD hS hl
    obtain ⟨b13, ho13, hc13, hk13, hF⟩ := dr_some hF
    refine W_st (st' := [.int y12, .int x11, .ref (ad b13)]) (by rw [va_some ho13]) ?_
    obtain ⟨hvc, hF⟩ := chk_some hF
    refine va_iast hx hb hK hP hD hS b13 1 (wld_i ct ad G M8 hc13 hk13) rfl hvc dX1_readSixteen_49 (fun H locs hP hD hS => ?_)
    obtain ⟨M14, eM14, hF⟩ := ltt_some hF
    rw [set_i ct ad G M8 hc13 hk13, ← eM14] at hP hD
    refine lv_aload_n hx hb dX1_readSixteen_50 rfl (lv_at hl 1 rfl) ?_
    refine va_get (D := D) (ci := 1) (v := va_re ad (M14.2 a 2)) (C := RX1) (T := TX1) (N := 22) hx hb hts (mus hf_X1) hown hK hP a (wld_o ct ad G M14 hc hk (by decide)) rfl 2 (by decide) (hts (.fieldLink RX1 28 "VideoSuite$Decoder" "work" "LVideoSuite$Work;") (mu mw_644)) (fun _ h9 => h9) rfl dX1_readSixteen_51 ?_
    obtain ⟨b15, ho15, hc15, hk15, hF⟩ := dr_some hF
    refine W_st (st' := [.ref (ad b15)]) (by rw [va_some ho15]) ?_
    refine va_get (D := D) (ci := 9) (v := va_re ad (M14.2 b15 6)) (C := RX9) (T := TX9) (N := 20) hx hb hts (mus hf_X9) hown hK hP b15 (wld_o ct ad G M14 hc15 hk15 (by decide)) rfl 6 (by decide) (hts (.fieldLink RX1 355 "VideoSuite$Work" "info" "[I") (mu mw_444)) (fun _ h9 => h9) rfl dX1_readSixteen_54 ?_
    refine lv_bipush (v := (8 : Int32)) hx hb dX1_readSixteen_57 (by decide) ?_
    refine lv_iload_n hx hb dX1_readSixteen_59 rfl (lv_at hl 2 rfl) ?_
    refine lv_imul hx hb dX1_readSixteen_60 ?_
    obtain ⟨x16, ex16, hF⟩ := ltt_some hF
    refine lv_topi (fun zx16 ezx16 => ?_)
    obtain rfl : x16 = zx16 := ex16.trans ezx16.symm
    refine lv_iconst (v := (4 : Int32)) hx hb dX1_readSixteen_61 (by decide) ?_
    refine lv_iadd hx hb dX1_readSixteen_62 ?_
    obtain ⟨x17, ex17, hF⟩ := ltt_some hF
    refine lv_topi (fun zx17 ezx17 => ?_)
    obtain rfl : x17 = zx17 := ex17.trans ezx17.symm
    refine lv_iload_n hx hb dX1_readSixteen_63 rfl (lv_at hl 3 rfl) ?_
    refine lv_iconst (v := (4 : Int32)) hx hb dX1_readSixteen_64 (by decide) ?_
    refine lv_idiv hx hb dX1_readSixteen_65 (by decide) ?_
    obtain ⟨x18, ex18, hF⟩ := ltt_some hF
    refine lv_topi (fun zx18 ezx18 => ?_)
    obtain rfl : x18 = zx18 := ex18.trans ezx18.symm
    refine lv_iconst (v := (3 : Int32)) hx hb dX1_readSixteen_66 (by decide) ?_
    refine lv_irem hx hb dX1_readSixteen_67 (by decide) ?_
    obtain ⟨x19, ex19, hF⟩ := ltt_some hF
    refine lv_topi (fun zx19 ezx19 => ?_)
    obtain rfl : x19 = zx19 := ex19.trans ezx19.symm
    obtain ⟨b20, ho20, hc20, hk20, hF⟩ := dr_some hF
    refine W_st (st' := [.int x19, .int x17, .ref (ad b20)]) (by rw [va_some ho20]) ?_
    obtain ⟨hvc, hF⟩ := chk_some hF
    refine va_iast hx hb hK hP hD hS b20 1 (wld_i ct ad G M14 hc20 hk20) rfl hvc dX1_readSixteen_68 (fun H locs hP hD hS => ?_)
    obtain ⟨M21, eM21, hF⟩ := ltt_some hF
    rw [set_i ct ad G M14 hc20 hk20, ← eM21] at hP hD
    refine lv_iload_n hx hb dX1_readSixteen_69 rfl (lv_at hl 3 rfl) ?_
    refine lv_iconst (v := (4 : Int32)) hx hb dX1_readSixteen_70 (by decide) ?_
    refine lv_irem hx hb dX1_readSixteen_71 (by decide) ?_
    obtain ⟨x22, ex22, hF⟩ := ltt_some hF
    refine lv_topi (fun zx22 ezx22 => ?_)
    obtain rfl : x22 = zx22 := ex22.trans ezx22.symm
    refine lv_iload_n hx hb dX1_readSixteen_72 rfl (lv_at hl 0 rfl) ?_
    obtain ⟨y23, hy23, hF⟩ := bnd_some hF
    have hf9 := wA_in hD hA9 hS
    refine va_calli (va_runS (As := [.int x22, .int y3.2]) (rest := []) ⟨hx, hb, hml, hown, hts⟩ (kX9_mayBeSixteen l D ct ad Z G M21 H.size x22 y3.2 y23 hy23) (va_cwS 2 hts gX1_readSixteen_X9_mayBeSixteen rfl rfl rfl (by decide +kernel) ⟨Nat.le_of_ble_eq_true rfl, Nat.le_of_ble_eq_true rfl⟩) ⟨fun a U g mk q => by obtain ⟨q0, q1, qP, qK, qD, qZ, qN⟩ := q; exact ⟨q0, q1, qP, va_K.moved (u := U) (U := U.calling g mk a) (Vm.Alike.refl U.vm) qK, qD, sF.moved (u := U) (U := U.calling g mk a) (Vm.Alike.refl U.vm) qZ, nF.same rfl qN⟩, fun U hU hW => ⟨rfl, by rw [hU], by rw [hU]; exact hP, va_K.moved hW.alike hK, hD.weaken (fun _ _ _ _ => trivial), by rw [hU]; exact ((hZ.kept hS.2.1).narrow hf9).moved hW.alike, hN.warm hW⟩⟩ rfl rfl hl.1 rfl (lv_room (Nat.le_of_ble_eq_true rfl)) dX1_readSixteen_73 ⟨(Nat.zero_le _), (Nat.zero_le _)⟩) hS (fun q _ h => hf9 q h) hf9 (fun r u t H locs ht hvm hw hB hz1 hk1 hS => ?_)
    obtain ⟨hP, hK9, hD9⟩ := hB
    rw [ht] at hP
    try dsimp only at hw
    subst hw
    have hD := hD9.weaken (fun _ q _ h => hf9 q.1 h)
    obtain ⟨y24, hy24, hF⟩ := bnd_some hF
    have J24 : ∀ (H : Heap) (locs : List Loc) (ls : Array Slot), va_P D classes (wld ct ad G y24) H → va_D A (wld ct ad G y24) → va_S A s.heap H locs → lv_has ls 4 [(3, .int y3.2), (0, .ref (ad a)), (1, .int p0), (2, .int p1)] → W p l e (headSpec wuX1_readSixteen ({ frames := 3, cells := 0, slots := 0, locals := 82 })).room s m ([.ref (ad a), .int p0, .int p1] : List Value).toArray below meth c H locs 0 0 (MQ below (va_Qv (fun (_ : Unit) => True) (fun _ t => kE D ct ad G A y t) A) ([.ref (ad a), .int p0, .int p1] : List Value).toArray s 0 0 A) (F0 m 87 ls []) := by
      intro H locs ls hP hD hS hl
      refine lv_aload_n hx hb dX1_readSixteen_87 rfl (lv_at hl 1 rfl) ?_
      refine va_get (D := D) (ci := 1) (v := va_re ad (y24.2 a 2)) (C := RX1) (T := TX1) (N := 22) hx hb hts (mus hf_X1) hown hK hP a (wld_o ct ad G y24 hc hk (by decide)) rfl 2 (by decide) (hts (.fieldLink RX1 28 "VideoSuite$Decoder" "work" "LVideoSuite$Work;") (mu mw_644)) (fun _ h9 => h9) rfl dX1_readSixteen_88 ?_
      obtain ⟨b25, ho25, hc25, hk25, hF⟩ := dr_some hF
      refine W_st (st' := [.ref (ad b25)]) (by rw [va_some ho25]) ?_
      refine va_get (D := D) (ci := 9) (v := va_re ad (y24.2 b25 7)) (C := RX9) (T := TX9) (N := 20) hx hb hts (mus hf_X9) hown hK hP b25 (wld_o ct ad G y24 hc25 hk25 (by decide)) rfl 7 (by decide) (hts (.fieldLink RX1 422 "VideoSuite$Work" "mode" "[I") (mu mw_447)) (fun _ h9 => h9) rfl dX1_readSixteen_91 ?_
      refine lv_bipush (v := (16 : Int32)) hx hb dX1_readSixteen_94 (by decide) ?_
      refine lv_iload_n hx hb dX1_readSixteen_96 rfl (lv_at hl 2 rfl) ?_
      refine lv_imul hx hb dX1_readSixteen_97 ?_
      obtain ⟨x26, ex26, hF⟩ := ltt_some hF
      refine lv_topi (fun zx26 ezx26 => ?_)
      obtain rfl : x26 = zx26 := ex26.trans ezx26.symm
      refine lv_bipush (v := (16 : Int32)) hx hb dX1_readSixteen_98 (by decide) ?_
      refine lv_iload_n hx hb dX1_readSixteen_100 rfl (lv_at hl 2 rfl) ?_
      refine lv_imul hx hb dX1_readSixteen_101 ?_
      obtain ⟨x27, ex27, hF⟩ := ltt_some hF
      refine lv_topi (fun zx27 ezx27 => ?_)
      obtain rfl : x27 = zx27 := ex27.trans ezx27.symm
      refine lv_bipush (v := (16 : Int32)) hx hb dX1_readSixteen_102 (by decide) ?_
      refine lv_iadd hx hb dX1_readSixteen_104 ?_
      obtain ⟨x28, ex28, hF⟩ := ltt_some hF
      refine lv_topi (fun zx28 ezx28 => ?_)
      obtain rfl : x28 = zx28 := ex28.trans ezx28.symm
      refine lv_iload_n hx hb dX1_readSixteen_105 rfl (lv_at hl 3 rfl) ?_
      refine lv_iconst (v := (4 : Int32)) hx hb dX1_readSixteen_106 (by decide) ?_
      refine lv_irem hx hb dX1_readSixteen_107 (by decide) ?_
      obtain ⟨x29, ex29, hF⟩ := ltt_some hF
      refine lv_topi (fun zx29 ezx29 => ?_)
      obtain rfl : x29 = zx29 := ex29.trans ezx29.symm
      obtain ⟨y30, hy30, hF⟩ := bnd_some hF
      have hf9 := wA_in hD hA9 hS
      refine va_callv (va_runS (As := [va_re ad (y24.2 b25 7), .int x26, .int x28, .int x29]) (rest := []) ⟨hx, hb, hml, hown, hts⟩ (kJ7_fill_fda19 l D ct ad Z G y24 H.size ((y24.2 b25 7)) x26 x28 x29 y30 hy30) (va_cwS 4 hts gX1_readSixteen_J7_fill_fda19 rfl rfl rfl (by decide +kernel) ⟨Nat.le_of_ble_eq_true rfl, Nat.le_of_ble_eq_true rfl⟩) ⟨fun a U g mk q => by obtain ⟨q0, q1, qP, qK, qD, qZ, qN⟩ := q; exact ⟨q0, q1, qP, va_K.moved (u := U) (U := U.calling g mk a) (Vm.Alike.refl U.vm) qK, qD, sF.moved (u := U) (U := U.calling g mk a) (Vm.Alike.refl U.vm) qZ, nF.same rfl qN⟩, fun U hU hW => ⟨rfl, by rw [hU], by rw [hU]; exact hP, va_K.moved hW.alike hK, hD.weaken (fun _ _ _ _ => trivial), by rw [hU]; exact ((hZ.kept hS.2.1).narrow hf9).moved hW.alike, hN.warm hW⟩⟩ rfl rfl hl.1 rfl (lv_room (Nat.le_of_ble_eq_true rfl)) dX1_readSixteen_108 ⟨(Nat.zero_le _), (Nat.zero_le _)⟩) hS (fun q _ h => hf9 q h) hf9 (fun u t H locs ht hvm hw hB hz1 hk1 hS => ?_)
      obtain ⟨hP, hK9, hD9⟩ := hB
      rw [ht] at hP
      have hD := hD9.weaken (fun _ q _ h => hf9 q.1 h)
      refine lv_aload_n hx hb dX1_readSixteen_111 rfl (lv_at hl 1 rfl) ?_
      refine lv_iload_n hx hb dX1_readSixteen_112 rfl (lv_at hl 2 rfl) ?_
      refine lv_iload_n hx hb dX1_readSixteen_113 rfl (lv_at hl 0 rfl) ?_
      obtain ⟨y31, hy31, hF⟩ := bnd_some hF
      have hf9 := wA_in hD hA9 hS
      refine va_callv (va_runV (As := [.int p0, .int y3.2]) (rest := []) ⟨hx, hb, hml, hown, hts⟩ (kX1_readColours l D ct ad Z G y30 H.size a p0 y3.2 y31 hc hk hy31) (cwV 2 hts gX1_readSixteen_X1_readColours rfl rfl rfl (by decide +kernel) ⟨Nat.le_of_ble_eq_true rfl, Nat.le_of_ble_eq_true rfl⟩) ⟨fun a U g mk q => by obtain ⟨q0, q1, qP, qK, qD, qZ, qN⟩ := q; exact ⟨q0, q1, qP, va_K.moved (u := U) (U := U.calling g mk a) (Vm.Alike.refl U.vm) qK, qD, sF.moved (u := U) (U := U.calling g mk a) (Vm.Alike.refl U.vm) qZ, nF.same rfl qN⟩, va_recv hK hP (ci := 1) (q0 := a) rfl (wld_o ct ad G y30 hc hk (by decide)), fun U hU hW => ⟨rfl, by rw [hU], by rw [hU]; exact hP, va_K.moved hW.alike hK, hD.weaken (fun _ _ _ _ => trivial), by rw [hU]; exact ((hZ.kept hS.2.1).narrow hf9).moved hW.alike, hN.warm hW⟩⟩ rfl rfl hl.1 rfl (lv_room (Nat.le_of_ble_eq_true rfl)) dX1_readSixteen_114 ⟨(Nat.zero_le _), (Nat.zero_le _)⟩) hS (fun q _ h => hf9 q h) hf9 (fun u t H locs ht hvm hw hB hz1 hk1 hS => ?_)
      obtain ⟨hP, hK9, hD9⟩ := hB
      rw [ht] at hP
      have hD := hD9.weaken (fun _ q _ h => hf9 q.1 h)
      obtain rfl := Option.some.inj hF
      exact W.vret hx hb hr (fun t ht hW => ⟨⟨(), rfl, trivial, ⟨by rw [ht]; exact hP, va_K.moved hW.alike hK, hD⟩⟩, hS.F ht⟩) hS.2.2 dX1_readSixteen_117
    clear hF
    have hF := hy24
    clear hy24
    refine lv_if_ne (tgt := 87) hx hb dX1_readSixteen_76 (by decide) (fun c32 => ?_) (fun c32 => ?_)
    · rw [if_neg c32] at hF
      obtain rfl := Option.some.inj hF
      exact J24 _ _ _ hP hD hS (lv_sub hl [0, 1, 2, 3] rfl)
    · rw [if_pos c32] at hF
      refine lv_aload_n hx hb dX1_readSixteen_79 rfl (lv_at hl 1 rfl) ?_
      refine va_get (D := D) (ci := 1) (v := va_re ad (y23.1.2 a 0)) (C := RX1) (T := TX1) (N := 22) hx hb hts (mus hf_X1) hown hK hP a (wld_o ct ad G y23.1 hc hk (by decide)) rfl 0 (by decide) (hts (.fieldLink RX1 12 "VideoSuite$Decoder" "reader" "LVideoSuite$Reader;") (mu mw_640)) (fun _ h9 => h9) rfl dX1_readSixteen_80 ?_
      refine lv_iconst (v := (4 : Int32)) hx hb dX1_readSixteen_83 (by decide) ?_
      cases hF
  clear hF
  have hF := hy12
  clear hy12
  refine lv_icmp_le (tgt := 48) hx hb dX1_readSixteen_40 (by decide) (fun c33 => ?_) (fun c33 => ?_)
  · rw [if_pos c33] at hF
    refine lv_iconst (v := (0 : Int32)) hx hb dX1_readSixteen_48 (by decide) ?_
    obtain rfl := Option.some.inj hF
    exact J12 _ _ _ hP hD hS (lv_sub hl [0, 1, 2, 3] rfl)
  · rw [if_neg c33] at hF
    refine lv_bipush (v := (15 : Int32)) hx hb dX1_readSixteen_43 (by decide) ?_
    refine lv_goto (tgt := 49) hx hb dX1_readSixteen_45 (by decide) ?_
    obtain rfl := Option.some.inj hF
    exact J12 _ _ _ hP hD hS (lv_sub hl [0, 1, 2, 3] rfl)
set_option maxRecDepth 20000 in
theorem gX1_readSubs_X5_number : GoodIn wuX1_readSubs (wsV RX1 179 RX5 yX5_number wuX5_number) := gu_V mw_1327 mw_1328 mw_1329 mw_169 mw_1330
theorem dX1_readSubs_0 : decode cX1_readSubs 0 = .ok (.iload_n 1, 1) := by decide +kernel
theorem dX1_readSubs_1 : decode cX1_readSubs 1 = .ok (.ifCond .ne 36, 3) := by decide +kernel
theorem dX1_readSubs_4 : decode cX1_readSubs 4 = .ok (.iload_n 2, 1) := by decide +kernel
theorem dX1_readSubs_5 : decode cX1_readSubs 5 = .ok (.iconst 4, 1) := by decide +kernel
theorem dX1_readSubs_6 : decode cX1_readSubs 6 = .ok (.if_icmp .ne 31, 3) := by decide +kernel
theorem dX1_readSubs_9 : decode cX1_readSubs 9 = .ok (.aload_n 0, 1) := by decide +kernel
theorem dX1_readSubs_10 : decode cX1_readSubs 10 = .ok (.getfield 28, 3) := by decide +kernel
theorem dX1_readSubs_13 : decode cX1_readSubs 13 = .ok (.getfield 308, 3) := by decide +kernel
theorem dX1_readSubs_16 : decode cX1_readSubs 16 = .ok (.iconst 1, 1) := by decide +kernel
theorem dX1_readSubs_17 : decode cX1_readSubs 17 = .ok (.iaload, 1) := by decide +kernel
theorem dX1_readSubs_18 : decode cX1_readSubs 18 = .ok (.iconst 1, 1) := by decide +kernel
theorem dX1_readSubs_19 : decode cX1_readSubs 19 = .ok (.if_icmp .ne 18, 3) := by decide +kernel
theorem dX1_readSubs_22 : decode cX1_readSubs 22 = .ok (.aload_n 0, 1) := by decide +kernel
theorem dX1_readSubs_23 : decode cX1_readSubs 23 = .ok (.getfield 12, 3) := by decide +kernel
theorem dX1_readSubs_26 : decode cX1_readSubs 26 = .ok (.iconst 2, 1) := by decide +kernel
theorem dX1_readSubs_27 : decode cX1_readSubs 27 = .ok (.aload_n 0, 1) := by decide +kernel
theorem dX1_readSubs_28 : decode cX1_readSubs 28 = .ok (.getfield 12, 3) := by decide +kernel
theorem dX1_readSubs_31 : decode cX1_readSubs 31 = .ok (.getfield 194, 3) := by decide +kernel
theorem dX1_readSubs_34 : decode cX1_readSubs 34 = .ok (.invokevirtual 197, 3) := by decide +kernel
theorem dX1_readSubs_37 : decode cX1_readSubs 37 = .ok (.iconst 0, 1) := by decide +kernel
theorem dX1_readSubs_38 : decode cX1_readSubs 38 = .ok (.istore_n 3, 1) := by decide +kernel
theorem dX1_readSubs_39 : decode cX1_readSubs 39 = .ok (.iconst 0, 1) := by decide +kernel
theorem dX1_readSubs_40 : decode cX1_readSubs 40 = .ok (.istore 4, 2) := by decide +kernel
theorem dX1_readSubs_42 : decode cX1_readSubs 42 = .ok (.iload 4, 2) := by decide +kernel
theorem dX1_readSubs_44 : decode cX1_readSubs 44 = .ok (.iconst 4, 1) := by decide +kernel
theorem dX1_readSubs_45 : decode cX1_readSubs 45 = .ok (.if_icmp .ge 72, 3) := by decide +kernel
theorem dX1_readSubs_48 : decode cX1_readSubs 48 = .ok (.aload_n 0, 1) := by decide +kernel
theorem dX1_readSubs_49 : decode cX1_readSubs 49 = .ok (.getfield 28, 3) := by decide +kernel
theorem dX1_readSubs_52 : decode cX1_readSubs 52 = .ok (.getfield 409, 3) := by decide +kernel
theorem dX1_readSubs_55 : decode cX1_readSubs 55 = .ok (.iload 4, 2) := by decide +kernel
theorem dX1_readSubs_57 : decode cX1_readSubs 57 = .ok (.aload_n 0, 1) := by decide +kernel
theorem dX1_readSubs_58 : decode cX1_readSubs 58 = .ok (.getfield 12, 3) := by decide +kernel
theorem dX1_readSubs_61 : decode cX1_readSubs 61 = .ok (.iconst 5, 1) := by decide +kernel
theorem dX1_readSubs_62 : decode cX1_readSubs 62 = .ok (.iconst 0, 1) := by decide +kernel
theorem dX1_readSubs_63 : decode cX1_readSubs 63 = .ok (.lconst 0, 1) := by decide +kernel
theorem dX1_readSubs_64 : decode cX1_readSubs 64 = .ok (.iload_n 1, 1) := by decide +kernel
theorem dX1_readSubs_65 : decode cX1_readSubs 65 = .ok (.iconst 1, 1) := by decide +kernel
theorem dX1_readSubs_66 : decode cX1_readSubs 66 = .ok (.if_icmp .ne 9, 3) := by decide +kernel
theorem dX1_readSubs_69 : decode cX1_readSubs 69 = .ok (.ldc2_w 412, 3) := by decide +kernel
theorem dX1_readSubs_72 : decode cX1_readSubs 72 = .ok (.goto 6, 3) := by decide +kernel
theorem dX1_readSubs_75 : decode cX1_readSubs 75 = .ok (.ldc2_w 414, 3) := by decide +kernel
theorem dX1_readSubs_78 : decode cX1_readSubs 78 = .ok (.invokevirtual 179, 3) := by decide +kernel
theorem dX1_readSubs_81 : decode cX1_readSubs 81 = .ok (.iastore, 1) := by decide +kernel
theorem dX1_readSubs_82 : decode cX1_readSubs 82 = .ok (.iload_n 3, 1) := by decide +kernel
theorem dX1_readSubs_83 : decode cX1_readSubs 83 = .ok (.iload_n 1, 1) := by decide +kernel
theorem dX1_readSubs_84 : decode cX1_readSubs 84 = .ok (.iconst 1, 1) := by decide +kernel
theorem dX1_readSubs_85 : decode cX1_readSubs 85 = .ok (.if_icmp .ne 23, 3) := by decide +kernel
theorem dX1_readSubs_88 : decode cX1_readSubs 88 = .ok (.aload_n 0, 1) := by decide +kernel
theorem dX1_readSubs_89 : decode cX1_readSubs 89 = .ok (.getfield 28, 3) := by decide +kernel
theorem dX1_readSubs_92 : decode cX1_readSubs 92 = .ok (.getfield 409, 3) := by decide +kernel
theorem dX1_readSubs_95 : decode cX1_readSubs 95 = .ok (.iload 4, 2) := by decide +kernel
theorem dX1_readSubs_97 : decode cX1_readSubs 97 = .ok (.iaload, 1) := by decide +kernel
theorem dX1_readSubs_98 : decode cX1_readSubs 98 = .ok (.ifCond .ne 10, 3) := by decide +kernel
theorem dX1_readSubs_101 : decode cX1_readSubs 101 = .ok (.iconst 1, 1) := by decide +kernel
theorem dX1_readSubs_102 : decode cX1_readSubs 102 = .ok (.iload 4, 2) := by decide +kernel
theorem dX1_readSubs_104 : decode cX1_readSubs 104 = .ok (.ishl, 1) := by decide +kernel
theorem dX1_readSubs_105 : decode cX1_readSubs 105 = .ok (.goto 4, 3) := by decide +kernel
theorem dX1_readSubs_108 : decode cX1_readSubs 108 = .ok (.iconst 0, 1) := by decide +kernel
theorem dX1_readSubs_109 : decode cX1_readSubs 109 = .ok (.ior, 1) := by decide +kernel
theorem dX1_readSubs_110 : decode cX1_readSubs 110 = .ok (.istore_n 3, 1) := by decide +kernel
theorem dX1_readSubs_111 : decode cX1_readSubs 111 = .ok (.iinc 4 1, 3) := by decide +kernel
theorem dX1_readSubs_114 : decode cX1_readSubs 114 = .ok (.goto (-72), 3) := by decide +kernel
theorem dX1_readSubs_117 : decode cX1_readSubs 117 = .ok (.iload_n 3, 1) := by decide +kernel
theorem dX1_readSubs_118 : decode cX1_readSubs 118 = .ok (.ireturn, 1) := by decide +kernel
def FX1_readSubs (G : GG) (M : DD) (a : Nat) (p0 : Int32) (p1 : Int32) : Option (DD × Int32) :=
  bnd (if p0 = ((0 : Int32)) then (bnd (if p1 = ((4 : Int32)) then (dr G 9 ((M.2 a 2)) fun b27 =>
  dr G 13 ((M.2 b27 2)) fun b28 =>
  chk (¬ (((1 : Int32)) < 0 ∨ G.2.2 b28 ≤ ((1 : Int32)).toNatClampNeg)) <|
  ltt (M.1 b28 ((1 : Int32)).toNatClampNeg) fun x29 =>
  bnd (if x29 = ((1 : Int32)) then (dr G 5 ((M.2 a 0)) fun b32 =>
  ltt (M.1 b32 4) fun x33 =>
  none) else
  (some (M))) fun (y30 : DD) =>
  some (y30)) else
  (some (M))) fun (y25 : DD) =>
  some (y25)) else
  (some (M))) fun (y1 : DD) =>
  bnd (itr (fun (s3 : Int32 × Int32 × DD) => ((if ((4 : Int32)) ≤ s3.2.1 then (some (.inr (s3.1, s3.2.1, s3.2.2))) else
  (dr G 9 ((s3.2.2.2 a 2)) fun b7 =>
  bnd (if p0 = ((1 : Int32)) then (some ((12 : Int64))) else
  (some ((3 : Int64)))) fun (y8 : Int64) =>
  dr G 5 ((s3.2.2.2 a 0)) fun b9 =>
  bnd (FX5_number G s3.2.2 b9 ((5 : Int32)) ((0 : Int32)) ((0 : Int64)) y8) fun y10 =>
  dr G 13 ((s3.2.2.2 b7 12)) fun b11 =>
  chk (¬ (s3.2.1 < 0 ∨ G.2.2 b11 ≤ s3.2.1.toNatClampNeg)) <|
  ltt (uI y10.1 b11 s3.2.1.toNatClampNeg y10.2) fun M12 =>
  bnd (if p0 = ((1 : Int32)) then (dr G 9 ((M12.2 a 2)) fun b17 =>
  dr G 13 ((M12.2 b17 12)) fun b18 =>
  chk (¬ (s3.2.1 < 0 ∨ G.2.2 b18 ≤ s3.2.1.toNatClampNeg)) <|
  ltt (M12.1 b18 s3.2.1.toNatClampNeg) fun x19 =>
  bnd (if x19 = ((0 : Int32)) then (ltt ((((1 : Int32)) <<< (s3.2.1 &&& 31))) fun x22 =>
  some (x22)) else
  (some ((0 : Int32)))) fun (y20 : Int32) =>
  some (y20)) else
  (some ((0 : Int32)))) fun (y13 : Int32) =>
  ltt ((s3.1 ||| y13)) fun x14 =>
  ltt (s3.2.1 + (1 : Int32)) fun x15 =>
  some (.inl (x14, x15, M12)))) : Option ((Int32 × Int32 × DD) ⊕ (Int32 × Int32 × DD)))) 1000000 ((0 : Int32), (0 : Int32), y1)) fun (y2 : Int32 × Int32 × DD) =>
  some (y2.2.2, y2.1)
set_option maxHeartbeats 4000000 in
set_option maxRecDepth 100000 in
theorem kX1_readSubs (l : Launch) (D : va_G) (ct : CT) (ad : Nat → Nat) (Z : Nat → Nat) (G : GG) (M : DD) (sz : Nat) (a : Nat) (p0 : Int32) (p1 : Int32) (y : DD × Int32) (hc : a < G.1) (hk : G.2.1 a = 1) (hF : FX1_readSubs G M a p0 p1 = some y) : Met l yX1_readSubs wuX1_readSubs ({ frames := 2, cells := 0, slots := 0, locals := 59 }) (va_Pc [.ref (ad a), .int p0, .int p1] (kB D ct ad Z G M sz)) (va_Qi (fun (q : Int32) (_ : Unit) => q = y.2) (fun _ t => kE D ct ad G (wA ad G sz) y.1 t) (wA ad G sz)) 0 0 (wA ad G sz) := by
  refine Met.ofW (cc := cX1_readSubs) (maxL := 5) (ret := (some .int)) (by decide) rfl ?_
  intro p e s m args below meth c s₁ B hml hv
  obtain ⟨rfl, hsz, hP, hK, hD0, hZ, hN⟩ := hv
  have hx := B.exec
  have hb := B.bytes
  have hr := B.returns
  have hts := atoms_spec (ws := wuX1_readSubs) B.pre
  have hown : s.vm.findClass RX1 = some m.cls := findClass_of_methodNamed B.named
  have hlocks := B.notSynchronized
  subst hsz
  have hD := wD_self (sz := s.heap.size) hD0
  have hA9 : ∀ q, s.heap.size ≤ q → wA ad G s.heap.size q := fun q h => Or.inr h
  generalize hAe : wA ad G s.heap.size = A at hD hA9 hZ ⊢
  have hS : va_S A s.heap s.heap [] := va_S.rf
  have hl := lv_entry ([.ref (ad a), .int p0, .int p1]) (n := 5) (Nat.le_of_ble_eq_true rfl)
  rw [lg_entry_eq]
  generalize (lg_sl ([.ref (ad a), .int p0, .int p1]) ++ List.replicate (5 - (lg_sl ([.ref (ad a), .int p0, .int p1])).length) Slot.unset).toArray = ls at hl ⊢
  have hl : lv_has ls 5 [(0, .ref (ad a)), (1, .int p0), (2, .int p1)] := hl
  unfold FX1_readSubs at hF
  refine lv_iload_n hx hb dX1_readSubs_0 rfl (lv_at hl 1 rfl) ?_
  obtain ⟨y1, hy1, hF⟩ := bnd_some hF
  have J1 : ∀ (H : Heap) (locs : List Loc) (ls : Array Slot), va_P D classes (wld ct ad G y1) H → va_D A (wld ct ad G y1) → va_S A s.heap H locs → lv_has ls 5 [(0, .ref (ad a)), (1, .int p0), (2, .int p1)] → W p l e (headSpec wuX1_readSubs ({ frames := 2, cells := 0, slots := 0, locals := 59 })).room s m ([.ref (ad a), .int p0, .int p1] : List Value).toArray below meth c H locs 0 0 (MQ below (va_Qi (fun (q : Int32) (_ : Unit) => q = y.2) (fun _ t => kE D ct ad G A y.1 t) A) ([.ref (ad a), .int p0, .int p1] : List Value).toArray s 0 0 A) (F0 m 37 ls []) := by
    intro H locs ls hP hD hS hl
    refine lv_iconst (v := (0 : Int32)) hx hb dX1_readSubs_37 (by decide) ?_
    refine lv_istore_n (lv' := [(3, .int (0 : Int32)), (0, .ref (ad a)), (1, .int p0), (2, .int p1)]) hx hb dX1_readSubs_38 rfl hl (by decide) rfl (fun ls hl => ?_)
    refine lv_iconst (v := (0 : Int32)) hx hb dX1_readSubs_39 (by decide) ?_
    refine lv_istore (lv' := [(4, .int (0 : Int32)), (3, .int (0 : Int32)), (0, .ref (ad a)), (1, .int p0), (2, .int p1)]) hx hb dX1_readSubs_40 hl (by decide) rfl (fun ls hl => ?_)
    obtain ⟨y2, hy2, hF⟩ := bnd_some hF
    have K2 : ∀ (H : Heap) (locs : List Loc) (ls : Array Slot), va_P D classes (wld ct ad G y2.2.2) H → va_D A (wld ct ad G y2.2.2) → va_S A s.heap H locs → lv_has ls 5 [(4, .int y2.2.1), (3, .int y2.1), (0, .ref (ad a)), (1, .int p0), (2, .int p1)] → W p l e (headSpec wuX1_readSubs ({ frames := 2, cells := 0, slots := 0, locals := 59 })).room s m ([.ref (ad a), .int p0, .int p1] : List Value).toArray below meth c H locs 0 0 (MQ below (va_Qi (fun (q : Int32) (_ : Unit) => q = y.2) (fun _ t => kE D ct ad G A y.1 t) A) ([.ref (ad a), .int p0, .int p1] : List Value).toArray s 0 0 A) (F0 m 117 ls []) := by
      intro H locs ls hP hD hS hl
      refine lv_iload_n hx hb dX1_readSubs_117 rfl (lv_at hl 1 rfl) ?_
      obtain rfl := Option.some.inj hF
      exact W.iret (v := y2.1) hx hb hr (fun t ht hW => ⟨⟨_, (), rfl, rfl, ⟨by rw [ht]; exact hP, va_K.moved hW.alike hK, hD⟩⟩, hS.F ht⟩) hS.2.2 dX1_readSubs_118
    clear hF
    refine itr_rule (fun (s3 : Int32 × Int32 × DD) => ∀ (H : Heap) (locs : List Loc) (ls : Array Slot), va_P D classes (wld ct ad G s3.2.2) H → va_D A (wld ct ad G s3.2.2) → va_S A s.heap H locs → lv_has ls 5 [(4, .int s3.2.1), (3, .int s3.1), (0, .ref (ad a)), (1, .int p0), (2, .int p1)] → W p l e (headSpec wuX1_readSubs ({ frames := 2, cells := 0, slots := 0, locals := 59 })).room s m ([.ref (ad a), .int p0, .int p1] : List Value).toArray below meth c H locs 0 0 (MQ below (va_Qi (fun (q : Int32) (_ : Unit) => q = y.2) (fun _ t => kE D ct ad G A y.1 t) A) ([.ref (ad a), .int p0, .int p1] : List Value).toArray s 0 0 A) (F0 m 42 ls [])) ?_ _ _ hy2 _ _ _ hP hD hS (lv_sub hl [0, 1, 2, 3, 4] rfl)
    rintro s3 ⟨z5, hF, hwz5⟩ H locs ls hP hD hS hl
    try dsimp only at hF
    refine lv_iload hx hb dX1_readSubs_42 (lv_at hl 0 rfl) ?_
    refine lv_iconst (v := (4 : Int32)) hx hb dX1_readSubs_44 (by decide) ?_
    refine lv_icmp_ge (tgt := 117) hx hb dX1_readSubs_45 (by decide) (fun c6 => ?_) (fun c6 => ?_)
    · rw [if_pos c6] at hF
      obtain rfl := Option.some.inj hF
      subst hwz5
      exact K2 _ _ _ hP hD hS (lv_sub hl [0, 1, 2, 3, 4] rfl)
    · rw [if_neg c6] at hF
      refine lv_aload_n hx hb dX1_readSubs_48 rfl (lv_at hl 2 rfl) ?_
      refine va_get (D := D) (ci := 1) (v := va_re ad (s3.2.2.2 a 2)) (C := RX1) (T := TX1) (N := 22) hx hb hts (mus hf_X1) hown hK hP a (wld_o ct ad G s3.2.2 hc hk (by decide)) rfl 2 (by decide) (hts (.fieldLink RX1 28 "VideoSuite$Decoder" "work" "LVideoSuite$Work;") (mu mw_644)) (fun _ h9 => h9) rfl dX1_readSubs_49 ?_
      obtain ⟨b7, ho7, hc7, hk7, hF⟩ := dr_some hF
      refine W_st (st' := [.ref (ad b7)]) (by rw [va_some ho7]) ?_
      refine va_get (D := D) (ci := 9) (v := va_re ad (s3.2.2.2 b7 12)) (C := RX9) (T := TX9) (N := 20) hx hb hts (mus hf_X9) hown hK hP b7 (wld_o ct ad G s3.2.2 hc7 hk7 (by decide)) rfl 12 (by decide) (hts (.fieldLink RX1 409 "VideoSuite$Work" "sub" "[I") (mu mw_464)) (fun _ h9 => h9) rfl dX1_readSubs_52 ?_
      refine lv_iload hx hb dX1_readSubs_55 (lv_at hl 0 rfl) ?_
      refine lv_aload_n hx hb dX1_readSubs_57 rfl (lv_at hl 2 rfl) ?_
      refine va_get (D := D) (ci := 1) (v := va_re ad (s3.2.2.2 a 0)) (C := RX1) (T := TX1) (N := 22) hx hb hts (mus hf_X1) hown hK hP a (wld_o ct ad G s3.2.2 hc hk (by decide)) rfl 0 (by decide) (hts (.fieldLink RX1 12 "VideoSuite$Decoder" "reader" "LVideoSuite$Reader;") (mu mw_640)) (fun _ h9 => h9) rfl dX1_readSubs_58 ?_
      refine lv_iconst (v := (5 : Int32)) hx hb dX1_readSubs_61 (by decide) ?_
      refine lv_iconst (v := (0 : Int32)) hx hb dX1_readSubs_62 (by decide) ?_
      refine lv_lconst (v := (0 : Int64)) hx hb dX1_readSubs_63 rfl ?_
      refine lv_iload_n hx hb dX1_readSubs_64 rfl (lv_at hl 3 rfl) ?_
      refine lv_iconst (v := (1 : Int32)) hx hb dX1_readSubs_65 (by decide) ?_
      obtain ⟨y8, hy8, hF⟩ := bnd_some hF
      have J8 : ∀ (H : Heap) (locs : List Loc) (ls : Array Slot), va_P D classes (wld ct ad G s3.2.2) H → va_D A (wld ct ad G s3.2.2) → va_S A s.heap H locs → lv_has ls 5 [(4, .int s3.2.1), (3, .int s3.1), (0, .ref (ad a)), (1, .int p0), (2, .int p1)] → W p l e (headSpec wuX1_readSubs ({ frames := 2, cells := 0, slots := 0, locals := 59 })).room s m ([.ref (ad a), .int p0, .int p1] : List Value).toArray below meth c H locs 0 0 (MQ below (va_Qi (fun (q : Int32) (_ : Unit) => q = y.2) (fun _ t => kE D ct ad G A y.1 t) A) ([.ref (ad a), .int p0, .int p1] : List Value).toArray s 0 0 A) (F0 m 78 ls [.long y8, .long (0 : Int64), .int (0 : Int32), .int (5 : Int32), va_re ad (s3.2.2.2 a 0), .int s3.2.1, va_re ad (s3.2.2.2 b7 12)]) := by
        intro H locs ls hP hD hS hl
        obtain ⟨b9, ho9, hc9, hk9, hF⟩ := dr_some hF
        refine W_st (st' := [.long y8, .long (0 : Int64), .int (0 : Int32), .int (5 : Int32), .ref (ad b9), .int s3.2.1, va_re ad (s3.2.2.2 b7 12)]) (by rw [va_some ho9]) ?_
        obtain ⟨y10, hy10, hF⟩ := bnd_some hF
        have hf9 := wA_in hD hA9 hS
        refine va_calli (va_runV (As := [.int (5 : Int32), .int (0 : Int32), .long (0 : Int64), .long y8]) (rest := [.int s3.2.1, va_re ad (s3.2.2.2 b7 12)]) ⟨hx, hb, hml, hown, hts⟩ (kX5_number l D ct ad Z G s3.2.2 H.size b9 ((5 : Int32)) ((0 : Int32)) ((0 : Int64)) y8 y10 hc9 hk9 hy10) (cwV 4 hts gX1_readSubs_X5_number rfl rfl rfl (by decide +kernel) ⟨Nat.le_of_ble_eq_true rfl, Nat.le_of_ble_eq_true rfl⟩) ⟨fun a U g mk q => by obtain ⟨q0, q1, qP, qK, qD, qZ, qN⟩ := q; exact ⟨q0, q1, qP, va_K.moved (u := U) (U := U.calling g mk a) (Vm.Alike.refl U.vm) qK, qD, sF.moved (u := U) (U := U.calling g mk a) (Vm.Alike.refl U.vm) qZ, nF.same rfl qN⟩, va_recv hK hP (ci := 5) (q0 := b9) rfl (wld_o ct ad G s3.2.2 hc9 hk9 (by decide)), fun U hU hW => ⟨rfl, by rw [hU], by rw [hU]; exact hP, va_K.moved hW.alike hK, hD.weaken (fun _ _ _ _ => trivial), by rw [hU]; exact ((hZ.kept hS.2.1).narrow hf9).moved hW.alike, hN.warm hW⟩⟩ rfl rfl hl.1 rfl (lv_room (by simp only [List.map, va_re_cat]; exact Nat.le_of_ble_eq_true rfl)) dX1_readSubs_78 ⟨(Nat.zero_le _), (Nat.zero_le _)⟩) hS (fun q _ h => hf9 q h) hf9 (fun r u t H locs ht hvm hw hB hz1 hk1 hS => ?_)
        obtain ⟨hP, hK9, hD9⟩ := hB
        rw [ht] at hP
        try dsimp only at hw
        subst hw
        have hD := hD9.weaken (fun _ q _ h => hf9 q.1 h)
        obtain ⟨b11, ho11, hc11, hk11, hF⟩ := dr_some hF
        refine W_st (st' := [.int y10.2, .int s3.2.1, .ref (ad b11)]) (by rw [va_some ho11]) ?_
        obtain ⟨hvc, hF⟩ := chk_some hF
        refine va_iast hx hb hK hP hD hS b11 1 (wld_i ct ad G y10.1 hc11 hk11) rfl hvc dX1_readSubs_81 (fun H locs hP hD hS => ?_)
        obtain ⟨M12, eM12, hF⟩ := ltt_some hF
        rw [set_i ct ad G y10.1 hc11 hk11, ← eM12] at hP hD
        refine lv_iload_n hx hb dX1_readSubs_82 rfl (lv_at hl 1 rfl) ?_
        refine lv_iload_n hx hb dX1_readSubs_83 rfl (lv_at hl 3 rfl) ?_
        refine lv_iconst (v := (1 : Int32)) hx hb dX1_readSubs_84 (by decide) ?_
        obtain ⟨y13, hy13, hF⟩ := bnd_some hF
        have J13 : ∀ (H : Heap) (locs : List Loc) (ls : Array Slot), va_P D classes (wld ct ad G M12) H → va_D A (wld ct ad G M12) → va_S A s.heap H locs → lv_has ls 5 [(4, .int s3.2.1), (3, .int s3.1), (0, .ref (ad a)), (1, .int p0), (2, .int p1)] → W p l e (headSpec wuX1_readSubs ({ frames := 2, cells := 0, slots := 0, locals := 59 })).room s m ([.ref (ad a), .int p0, .int p1] : List Value).toArray below meth c H locs 0 0 (MQ below (va_Qi (fun (q : Int32) (_ : Unit) => q = y.2) (fun _ t => kE D ct ad G A y.1 t) A) ([.ref (ad a), .int p0, .int p1] : List Value).toArray s 0 0 A) (F0 m 109 ls [.int y13, .int s3.1]) := by
          intro H locs ls hP hD hS hl
          refine lv_ior hx hb dX1_readSubs_109 ?_
          obtain ⟨x14, ex14, hF⟩ := ltt_some hF
          refine lv_topi (fun zx14 ezx14 => ?_)
          obtain rfl : x14 = zx14 := ex14.trans ezx14.symm
          refine lv_istore_n (lv' := [(3, .int x14), (4, .int s3.2.1), (0, .ref (ad a)), (1, .int p0), (2, .int p1)]) hx hb dX1_readSubs_110 rfl hl (by decide) rfl (fun ls hl => ?_)
          obtain ⟨x15, ex15, hF⟩ := ltt_some hF
          refine lv_iinc (v := x15) (lv' := [(4, .int x15), (3, .int x14), (0, .ref (ad a)), (1, .int p0), (2, .int p1)]) hx hb dX1_readSubs_111 hl (k := 1) rfl (by rw [ex15]; rfl) (by decide) rfl (fun ls hl => ?_)
          refine lv_goto (tgt := 42) hx hb dX1_readSubs_114 (by decide) ?_
          obtain rfl := Option.some.inj hF
          exact hwz5 _ _ _ hP hD hS (lv_sub hl [0, 1, 2, 3, 4] rfl)
        clear hF
        have hF := hy13
        clear hy13
        refine lv_icmp_ne (tgt := 108) hx hb dX1_readSubs_85 (by decide) (fun c16 => ?_) (fun c16 => ?_)
        · rw [if_neg c16] at hF
          refine lv_iconst (v := (0 : Int32)) hx hb dX1_readSubs_108 (by decide) ?_
          obtain rfl := Option.some.inj hF
          exact J13 _ _ _ hP hD hS (lv_sub hl [0, 1, 2, 3, 4] rfl)
        · rw [if_pos c16] at hF
          refine lv_aload_n hx hb dX1_readSubs_88 rfl (lv_at hl 2 rfl) ?_
          refine va_get (D := D) (ci := 1) (v := va_re ad (M12.2 a 2)) (C := RX1) (T := TX1) (N := 22) hx hb hts (mus hf_X1) hown hK hP a (wld_o ct ad G M12 hc hk (by decide)) rfl 2 (by decide) (hts (.fieldLink RX1 28 "VideoSuite$Decoder" "work" "LVideoSuite$Work;") (mu mw_644)) (fun _ h9 => h9) rfl dX1_readSubs_89 ?_
          obtain ⟨b17, ho17, hc17, hk17, hF⟩ := dr_some hF
          refine W_st (st' := [.ref (ad b17), .int s3.1]) (by rw [va_some ho17]) ?_
          refine va_get (D := D) (ci := 9) (v := va_re ad (M12.2 b17 12)) (C := RX9) (T := TX9) (N := 20) hx hb hts (mus hf_X9) hown hK hP b17 (wld_o ct ad G M12 hc17 hk17 (by decide)) rfl 12 (by decide) (hts (.fieldLink RX1 409 "VideoSuite$Work" "sub" "[I") (mu mw_464)) (fun _ h9 => h9) rfl dX1_readSubs_92 ?_
          refine lv_iload hx hb dX1_readSubs_95 (lv_at hl 0 rfl) ?_
          obtain ⟨b18, ho18, hc18, hk18, hF⟩ := dr_some hF
          refine W_st (st' := [.int s3.2.1, .ref (ad b18), .int s3.1]) (by rw [va_some ho18]) ?_
          obtain ⟨hvc, hF⟩ := chk_some hF
          refine va_iald hx hb hK hP b18 1 (wld_i ct ad G M12 hc18 hk18) rfl hvc dX1_readSubs_97 ?_
          obtain ⟨x19, ex19, hF⟩ := ltt_some hF
          refine lv_topi (fun zx19 ezx19 => ?_)
          obtain rfl : x19 = zx19 := ex19.trans ezx19.symm
          obtain ⟨y20, hy20, hF⟩ := bnd_some hF
          have J20 : ∀ (H : Heap) (locs : List Loc) (ls : Array Slot), va_P D classes (wld ct ad G M12) H → va_D A (wld ct ad G M12) → va_S A s.heap H locs → lv_has ls 5 [(4, .int s3.2.1), (3, .int s3.1), (0, .ref (ad a)), (1, .int p0), (2, .int p1)] → W p l e (headSpec wuX1_readSubs ({ frames := 2, cells := 0, slots := 0, locals := 59 })).room s m ([.ref (ad a), .int p0, .int p1] : List Value).toArray below meth c H locs 0 0 (MQ below (va_Qi (fun (q : Int32) (_ : Unit) => q = y.2) (fun _ t => kE D ct ad G A y.1 t) A) ([.ref (ad a), .int p0, .int p1] : List Value).toArray s 0 0 A) (F0 m 109 ls [.int y20, .int s3.1]) := by
            intro H locs ls hP hD hS hl
            obtain rfl := Option.some.inj hF
            exact J13 _ _ _ hP hD hS (lv_sub hl [0, 1, 2, 3, 4] rfl)
          clear hF
          have hF := hy20
          clear hy20
          refine lv_if_ne (tgt := 108) hx hb dX1_readSubs_98 (by decide) (fun c21 => ?_) (fun c21 => ?_)
          · rw [if_neg c21] at hF
            refine lv_iconst (v := (0 : Int32)) hx hb dX1_readSubs_108 (by decide) ?_
            obtain rfl := Option.some.inj hF
            exact J20 _ _ _ hP hD hS (lv_sub hl [0, 1, 2, 3, 4] rfl)
          · rw [if_pos c21] at hF
            refine lv_iconst (v := (1 : Int32)) hx hb dX1_readSubs_101 (by decide) ?_
            refine lv_iload hx hb dX1_readSubs_102 (lv_at hl 0 rfl) ?_
            refine lv_ishl hx hb dX1_readSubs_104 ?_
            obtain ⟨x22, ex22, hF⟩ := ltt_some hF
            refine lv_topi (fun zx22 ezx22 => ?_)
            obtain rfl : x22 = zx22 := ex22.trans ezx22.symm
            refine lv_goto (tgt := 109) hx hb dX1_readSubs_105 (by decide) ?_
            obtain rfl := Option.some.inj hF
            exact J20 _ _ _ hP hD hS (lv_sub hl [0, 1, 2, 3, 4] rfl)
      clear hF
      have hF := hy8
      clear hy8
      refine lv_icmp_ne (tgt := 75) hx hb dX1_readSubs_66 (by decide) (fun c23 => ?_) (fun c23 => ?_)
      · rw [if_neg c23] at hF
        refine lv_ldc2 (v := (3 : Int64)) hx hb hown (hts (.constantLong RX1 414 (3 : Int64)) (mu mw_2176)) dX1_readSubs_75 ?_
        obtain rfl := Option.some.inj hF
        exact J8 _ _ _ hP hD hS (lv_sub hl [0, 1, 2, 3, 4] rfl)
      · rw [if_pos c23] at hF
        refine lv_ldc2 (v := (12 : Int64)) hx hb hown (hts (.constantLong RX1 412 (12 : Int64)) (mu mw_2199)) dX1_readSubs_69 ?_
        refine lv_goto (tgt := 78) hx hb dX1_readSubs_72 (by decide) ?_
        obtain rfl := Option.some.inj hF
        exact J8 _ _ _ hP hD hS (lv_sub hl [0, 1, 2, 3, 4] rfl)
  clear hF
  have hF := hy1
  clear hy1
  refine lv_if_ne (tgt := 37) hx hb dX1_readSubs_1 (by decide) (fun c24 => ?_) (fun c24 => ?_)
  · rw [if_neg c24] at hF
    obtain rfl := Option.some.inj hF
    exact J1 _ _ _ hP hD hS (lv_sub hl [0, 1, 2] rfl)
  · rw [if_pos c24] at hF
    refine lv_iload_n hx hb dX1_readSubs_4 rfl (lv_at hl 2 rfl) ?_
    refine lv_iconst (v := (4 : Int32)) hx hb dX1_readSubs_5 (by decide) ?_
    obtain ⟨y25, hy25, hF⟩ := bnd_some hF
    have J25 : ∀ (H : Heap) (locs : List Loc) (ls : Array Slot), va_P D classes (wld ct ad G y25) H → va_D A (wld ct ad G y25) → va_S A s.heap H locs → lv_has ls 5 [(0, .ref (ad a)), (1, .int p0), (2, .int p1)] → W p l e (headSpec wuX1_readSubs ({ frames := 2, cells := 0, slots := 0, locals := 59 })).room s m ([.ref (ad a), .int p0, .int p1] : List Value).toArray below meth c H locs 0 0 (MQ below (va_Qi (fun (q : Int32) (_ : Unit) => q = y.2) (fun _ t => kE D ct ad G A y.1 t) A) ([.ref (ad a), .int p0, .int p1] : List Value).toArray s 0 0 A) (F0 m 37 ls []) := by
      intro H locs ls hP hD hS hl
      obtain rfl := Option.some.inj hF
      exact J1 _ _ _ hP hD hS (lv_sub hl [0, 1, 2] rfl)
    clear hF
    have hF := hy25
    clear hy25
    refine lv_icmp_ne (tgt := 37) hx hb dX1_readSubs_6 (by decide) (fun c26 => ?_) (fun c26 => ?_)
    · rw [if_neg c26] at hF
      obtain rfl := Option.some.inj hF
      exact J25 _ _ _ hP hD hS (lv_sub hl [0, 1, 2] rfl)
    · rw [if_pos c26] at hF
      refine lv_aload_n hx hb dX1_readSubs_9 rfl (lv_at hl 0 rfl) ?_
      refine va_get (D := D) (ci := 1) (v := va_re ad (M.2 a 2)) (C := RX1) (T := TX1) (N := 22) hx hb hts (mus hf_X1) hown hK hP a (wld_o ct ad G M hc hk (by decide)) rfl 2 (by decide) (hts (.fieldLink RX1 28 "VideoSuite$Decoder" "work" "LVideoSuite$Work;") (mu mw_644)) (fun _ h9 => h9) rfl dX1_readSubs_10 ?_
      obtain ⟨b27, ho27, hc27, hk27, hF⟩ := dr_some hF
      refine W_st (st' := [.ref (ad b27)]) (by rw [va_some ho27]) ?_
      refine va_get (D := D) (ci := 9) (v := va_re ad (M.2 b27 2)) (C := RX9) (T := TX9) (N := 20) hx hb hts (mus hf_X9) hown hK hP b27 (wld_o ct ad G M hc27 hk27 (by decide)) rfl 2 (by decide) (hts (.fieldLink RX1 308 "VideoSuite$Work" "par" "[I") (mu mw_434)) (fun _ h9 => h9) rfl dX1_readSubs_13 ?_
      refine lv_iconst (v := (1 : Int32)) hx hb dX1_readSubs_16 (by decide) ?_
      obtain ⟨b28, ho28, hc28, hk28, hF⟩ := dr_some hF
      refine W_st (st' := [.int (1 : Int32), .ref (ad b28)]) (by rw [va_some ho28]) ?_
      obtain ⟨hvc, hF⟩ := chk_some hF
      refine va_iald hx hb hK hP b28 1 (wld_i ct ad G M hc28 hk28) rfl hvc dX1_readSubs_17 ?_
      obtain ⟨x29, ex29, hF⟩ := ltt_some hF
      refine lv_topi (fun zx29 ezx29 => ?_)
      obtain rfl : x29 = zx29 := ex29.trans ezx29.symm
      refine lv_iconst (v := (1 : Int32)) hx hb dX1_readSubs_18 (by decide) ?_
      obtain ⟨y30, hy30, hF⟩ := bnd_some hF
      have J30 : ∀ (H : Heap) (locs : List Loc) (ls : Array Slot), va_P D classes (wld ct ad G y30) H → va_D A (wld ct ad G y30) → va_S A s.heap H locs → lv_has ls 5 [(0, .ref (ad a)), (1, .int p0), (2, .int p1)] → W p l e (headSpec wuX1_readSubs ({ frames := 2, cells := 0, slots := 0, locals := 59 })).room s m ([.ref (ad a), .int p0, .int p1] : List Value).toArray below meth c H locs 0 0 (MQ below (va_Qi (fun (q : Int32) (_ : Unit) => q = y.2) (fun _ t => kE D ct ad G A y.1 t) A) ([.ref (ad a), .int p0, .int p1] : List Value).toArray s 0 0 A) (F0 m 37 ls []) := by
        intro H locs ls hP hD hS hl
        obtain rfl := Option.some.inj hF
        exact J25 _ _ _ hP hD hS (lv_sub hl [0, 1, 2] rfl)
      clear hF
      have hF := hy30
      clear hy30
      refine lv_icmp_ne (tgt := 37) hx hb dX1_readSubs_19 (by decide) (fun c31 => ?_) (fun c31 => ?_)
      · rw [if_neg c31] at hF
        obtain rfl := Option.some.inj hF
        exact J30 _ _ _ hP hD hS (lv_sub hl [0, 1, 2] rfl)
      · rw [if_pos c31] at hF
        refine lv_aload_n hx hb dX1_readSubs_22 rfl (lv_at hl 0 rfl) ?_
        refine va_get (D := D) (ci := 1) (v := va_re ad (M.2 a 0)) (C := RX1) (T := TX1) (N := 22) hx hb hts (mus hf_X1) hown hK hP a (wld_o ct ad G M hc hk (by decide)) rfl 0 (by decide) (hts (.fieldLink RX1 12 "VideoSuite$Decoder" "reader" "LVideoSuite$Reader;") (mu mw_640)) (fun _ h9 => h9) rfl dX1_readSubs_23 ?_
        refine lv_iconst (v := (2 : Int32)) hx hb dX1_readSubs_26 (by decide) ?_
        refine lv_aload_n hx hb dX1_readSubs_27 rfl (lv_at hl 0 rfl) ?_
        refine va_get (D := D) (ci := 1) (v := va_re ad (M.2 a 0)) (C := RX1) (T := TX1) (N := 22) hx hb hts (mus hf_X1) hown hK hP a (wld_o ct ad G M hc hk (by decide)) rfl 0 (by decide) (hts (.fieldLink RX1 12 "VideoSuite$Decoder" "reader" "LVideoSuite$Reader;") (mu mw_640)) (fun _ h9 => h9) rfl dX1_readSubs_28 ?_
        obtain ⟨b32, ho32, hc32, hk32, hF⟩ := dr_some hF
        refine W_st (st' := [.ref (ad b32), .int (2 : Int32), .ref (ad b32)]) (by rw [va_some ho32]) ?_
        refine va_get (D := D) (ci := 5) (v := .int (M.1 b32 4)) (C := RX5) (T := TX5) (N := 17) hx hb hts (mus hf_X5) hown hK hP b32 (wld_o ct ad G M hc32 hk32 (by decide)) rfl 4 (by decide) (hts (.fieldLink RX1 194 "VideoSuite$Reader" "begin" "I") (mu mw_293)) (fun _ h9 => h9) rfl dX1_readSubs_31 ?_
        obtain ⟨x33, ex33, hF⟩ := ltt_some hF
        refine lv_topi (fun zx33 ezx33 => ?_)
        obtain rfl : x33 = zx33 := ex33.trans ezx33.symm
        cases hF
set_option maxRecDepth 20000 in
theorem gX1_readVectors_X4_at : GoodIn wuX1_readVectors (va_wsS RX1 456 yX4_at wuX4_at) := gu_S mw_2224 mw_1796 mw_185 mw_1797
set_option maxRecDepth 20000 in
set_option maxRecDepth 20000 in
theorem gX1_readVectors_X9_guess : GoodIn wuX1_readVectors (wsV RX1 459 RX9 yX9_guess wuX9_guess) := gu_V mw_2225 mw_1915 mw_1916 mw_171 mw_1917
set_option maxRecDepth 20000 in
set_option maxRecDepth 20000 in
theorem gX1_readVectors_X5_number : GoodIn wuX1_readVectors (wsV RX1 179 RX5 yX5_number wuX5_number) := gu_V mw_1327 mw_1328 mw_1329 mw_169 mw_1330
set_option maxRecDepth 20000 in
set_option maxRecDepth 20000 in
theorem gX1_readVectors_X9_setMove : GoodIn wuX1_readVectors (wsV RX1 472 RX9 yX9_setMove wuX9_setMove) := gu_V mw_2228 mw_1970 mw_1971 mw_171 mw_1972
theorem dX1_readVectors_0 : decode cX1_readVectors 0 = .ok (.iconst 0, 1) := by decide +kernel
theorem dX1_readVectors_1 : decode cX1_readVectors 1 = .ok (.istore_n 3, 1) := by decide +kernel
theorem dX1_readVectors_2 : decode cX1_readVectors 2 = .ok (.iload_n 3, 1) := by decide +kernel
theorem dX1_readVectors_3 : decode cX1_readVectors 3 = .ok (.aload_n 0, 1) := by decide +kernel
theorem dX1_readVectors_4 : decode cX1_readVectors 4 = .ok (.getfield 28, 3) := by decide +kernel
theorem dX1_readVectors_7 : decode cX1_readVectors 7 = .ok (.getfield 391, 3) := by decide +kernel
theorem dX1_readVectors_10 : decode cX1_readVectors 10 = .ok (.if_icmp .ge 225, 3) := by decide +kernel
theorem dX1_readVectors_13 : decode cX1_readVectors 13 = .ok (.aload_n 0, 1) := by decide +kernel
theorem dX1_readVectors_14 : decode cX1_readVectors 14 = .ok (.getfield 28, 3) := by decide +kernel
theorem dX1_readVectors_17 : decode cX1_readVectors 17 = .ok (.getfield 450, 3) := by decide +kernel
theorem dX1_readVectors_20 : decode cX1_readVectors 20 = .ok (.astore 4, 2) := by decide +kernel
theorem dX1_readVectors_22 : decode cX1_readVectors 22 = .ok (.iconst 5, 1) := by decide +kernel
theorem dX1_readVectors_23 : decode cX1_readVectors 23 = .ok (.iload_n 3, 1) := by decide +kernel
theorem dX1_readVectors_24 : decode cX1_readVectors 24 = .ok (.imul, 1) := by decide +kernel
theorem dX1_readVectors_25 : decode cX1_readVectors 25 = .ok (.istore 5, 2) := by decide +kernel
theorem dX1_readVectors_27 : decode cX1_readVectors 27 = .ok (.aload 4, 2) := by decide +kernel
theorem dX1_readVectors_29 : decode cX1_readVectors 29 = .ok (.iload 5, 2) := by decide +kernel
theorem dX1_readVectors_31 : decode cX1_readVectors 31 = .ok (.iconst 3, 1) := by decide +kernel
theorem dX1_readVectors_32 : decode cX1_readVectors 32 = .ok (.iadd, 1) := by decide +kernel
theorem dX1_readVectors_33 : decode cX1_readVectors 33 = .ok (.iaload, 1) := by decide +kernel
theorem dX1_readVectors_34 : decode cX1_readVectors 34 = .ok (.iload_n 2, 1) := by decide +kernel
theorem dX1_readVectors_35 : decode cX1_readVectors 35 = .ok (.ishr, 1) := by decide +kernel
theorem dX1_readVectors_36 : decode cX1_readVectors 36 = .ok (.iconst 1, 1) := by decide +kernel
theorem dX1_readVectors_37 : decode cX1_readVectors 37 = .ok (.iand, 1) := by decide +kernel
theorem dX1_readVectors_38 : decode cX1_readVectors 38 = .ok (.ifCond .ne 6, 3) := by decide +kernel
theorem dX1_readVectors_41 : decode cX1_readVectors 41 = .ok (.goto 188, 3) := by decide +kernel
theorem dX1_readVectors_44 : decode cX1_readVectors 44 = .ok (.aload_n 0, 1) := by decide +kernel
theorem dX1_readVectors_45 : decode cX1_readVectors 45 = .ok (.getfield 28, 3) := by decide +kernel
theorem dX1_readVectors_48 : decode cX1_readVectors 48 = .ok (.getfield 84, 3) := by decide +kernel
theorem dX1_readVectors_51 : decode cX1_readVectors 51 = .ok (.getfield 453, 3) := by decide +kernel
theorem dX1_readVectors_54 : decode cX1_readVectors 54 = .ok (.iload_n 2, 1) := by decide +kernel
theorem dX1_readVectors_55 : decode cX1_readVectors 55 = .ok (.bipush 16, 2) := by decide +kernel
theorem dX1_readVectors_57 : decode cX1_readVectors 57 = .ok (.iload_n 1, 1) := by decide +kernel
theorem dX1_readVectors_58 : decode cX1_readVectors 58 = .ok (.imul, 1) := by decide +kernel
theorem dX1_readVectors_59 : decode cX1_readVectors 59 = .ok (.aload 4, 2) := by decide +kernel
theorem dX1_readVectors_61 : decode cX1_readVectors 61 = .ok (.iload 5, 2) := by decide +kernel
theorem dX1_readVectors_63 : decode cX1_readVectors 63 = .ok (.iaload, 1) := by decide +kernel
theorem dX1_readVectors_64 : decode cX1_readVectors 64 = .ok (.iadd, 1) := by decide +kernel
theorem dX1_readVectors_65 : decode cX1_readVectors 65 = .ok (.invokestatic 456, 3) := by decide +kernel
theorem dX1_readVectors_68 : decode cX1_readVectors 68 = .ok (.iaload, 1) := by decide +kernel
theorem dX1_readVectors_69 : decode cX1_readVectors 69 = .ok (.istore 6, 2) := by decide +kernel
theorem dX1_readVectors_71 : decode cX1_readVectors 71 = .ok (.aload_n 0, 1) := by decide +kernel
theorem dX1_readVectors_72 : decode cX1_readVectors 72 = .ok (.getfield 28, 3) := by decide +kernel
theorem dX1_readVectors_75 : decode cX1_readVectors 75 = .ok (.iload_n 1, 1) := by decide +kernel
theorem dX1_readVectors_76 : decode cX1_readVectors 76 = .ok (.iload_n 2, 1) := by decide +kernel
theorem dX1_readVectors_77 : decode cX1_readVectors 77 = .ok (.iload 6, 2) := by decide +kernel
theorem dX1_readVectors_79 : decode cX1_readVectors 79 = .ok (.aload 4, 2) := by decide +kernel
theorem dX1_readVectors_81 : decode cX1_readVectors 81 = .ok (.iload 5, 2) := by decide +kernel
theorem dX1_readVectors_83 : decode cX1_readVectors 83 = .ok (.iaload, 1) := by decide +kernel
theorem dX1_readVectors_84 : decode cX1_readVectors 84 = .ok (.aload 4, 2) := by decide +kernel
theorem dX1_readVectors_86 : decode cX1_readVectors 86 = .ok (.iload 5, 2) := by decide +kernel
theorem dX1_readVectors_88 : decode cX1_readVectors 88 = .ok (.iconst 1, 1) := by decide +kernel
theorem dX1_readVectors_89 : decode cX1_readVectors 89 = .ok (.iadd, 1) := by decide +kernel
theorem dX1_readVectors_90 : decode cX1_readVectors 90 = .ok (.iaload, 1) := by decide +kernel
theorem dX1_readVectors_91 : decode cX1_readVectors 91 = .ok (.aload 4, 2) := by decide +kernel
theorem dX1_readVectors_93 : decode cX1_readVectors 93 = .ok (.iload 5, 2) := by decide +kernel
theorem dX1_readVectors_95 : decode cX1_readVectors 95 = .ok (.iconst 4, 1) := by decide +kernel
theorem dX1_readVectors_96 : decode cX1_readVectors 96 = .ok (.iadd, 1) := by decide +kernel
theorem dX1_readVectors_97 : decode cX1_readVectors 97 = .ok (.iaload, 1) := by decide +kernel
theorem dX1_readVectors_98 : decode cX1_readVectors 98 = .ok (.invokevirtual 459, 3) := by decide +kernel
theorem dX1_readVectors_101 : decode cX1_readVectors 101 = .ok (.aload_n 0, 1) := by decide +kernel
theorem dX1_readVectors_102 : decode cX1_readVectors 102 = .ok (.getfield 28, 3) := by decide +kernel
theorem dX1_readVectors_105 : decode cX1_readVectors 105 = .ok (.getfield 462, 3) := by decide +kernel
theorem dX1_readVectors_108 : decode cX1_readVectors 108 = .ok (.aload_n 0, 1) := by decide +kernel
theorem dX1_readVectors_109 : decode cX1_readVectors 109 = .ok (.getfield 12, 3) := by decide +kernel
theorem dX1_readVectors_112 : decode cX1_readVectors 112 = .ok (.bipush 7, 2) := by decide +kernel
theorem dX1_readVectors_114 : decode cX1_readVectors 114 = .ok (.iconst 1, 1) := by decide +kernel
theorem dX1_readVectors_115 : decode cX1_readVectors 115 = .ok (.ldc2_w 465, 3) := by decide +kernel
theorem dX1_readVectors_118 : decode cX1_readVectors 118 = .ok (.ldc2_w 467, 3) := by decide +kernel
theorem dX1_readVectors_121 : decode cX1_readVectors 121 = .ok (.invokevirtual 179, 3) := by decide +kernel
theorem dX1_readVectors_124 : decode cX1_readVectors 124 = .ok (.iadd, 1) := by decide +kernel
theorem dX1_readVectors_125 : decode cX1_readVectors 125 = .ok (.istore 7, 2) := by decide +kernel
theorem dX1_readVectors_127 : decode cX1_readVectors 127 = .ok (.iload 7, 2) := by decide +kernel
theorem dX1_readVectors_129 : decode cX1_readVectors 129 = .ok (.sipush (-2048), 3) := by decide +kernel
theorem dX1_readVectors_132 : decode cX1_readVectors 132 = .ok (.if_icmp .lt 11, 3) := by decide +kernel
theorem dX1_readVectors_135 : decode cX1_readVectors 135 = .ok (.iload 7, 2) := by decide +kernel
theorem dX1_readVectors_137 : decode cX1_readVectors 137 = .ok (.sipush 2047, 3) := by decide +kernel
theorem dX1_readVectors_140 : decode cX1_readVectors 140 = .ok (.if_icmp .le 18, 3) := by decide +kernel
theorem dX1_readVectors_143 : decode cX1_readVectors 143 = .ok (.aload_n 0, 1) := by decide +kernel
theorem dX1_readVectors_144 : decode cX1_readVectors 144 = .ok (.getfield 12, 3) := by decide +kernel
theorem dX1_readVectors_147 : decode cX1_readVectors 147 = .ok (.iconst 2, 1) := by decide +kernel
theorem dX1_readVectors_148 : decode cX1_readVectors 148 = .ok (.aload_n 0, 1) := by decide +kernel
theorem dX1_readVectors_149 : decode cX1_readVectors 149 = .ok (.getfield 12, 3) := by decide +kernel
theorem dX1_readVectors_152 : decode cX1_readVectors 152 = .ok (.getfield 194, 3) := by decide +kernel
theorem dX1_readVectors_155 : decode cX1_readVectors 155 = .ok (.invokevirtual 197, 3) := by decide +kernel
theorem dX1_readVectors_158 : decode cX1_readVectors 158 = .ok (.aload_n 0, 1) := by decide +kernel
theorem dX1_readVectors_159 : decode cX1_readVectors 159 = .ok (.getfield 28, 3) := by decide +kernel
theorem dX1_readVectors_162 : decode cX1_readVectors 162 = .ok (.getfield 469, 3) := by decide +kernel
theorem dX1_readVectors_165 : decode cX1_readVectors 165 = .ok (.aload_n 0, 1) := by decide +kernel
theorem dX1_readVectors_166 : decode cX1_readVectors 166 = .ok (.getfield 12, 3) := by decide +kernel
theorem dX1_readVectors_169 : decode cX1_readVectors 169 = .ok (.bipush 8, 2) := by decide +kernel
theorem dX1_readVectors_171 : decode cX1_readVectors 171 = .ok (.iconst 1, 1) := by decide +kernel
theorem dX1_readVectors_172 : decode cX1_readVectors 172 = .ok (.ldc2_w 465, 3) := by decide +kernel
theorem dX1_readVectors_175 : decode cX1_readVectors 175 = .ok (.ldc2_w 467, 3) := by decide +kernel
theorem dX1_readVectors_178 : decode cX1_readVectors 178 = .ok (.invokevirtual 179, 3) := by decide +kernel
theorem dX1_readVectors_181 : decode cX1_readVectors 181 = .ok (.iadd, 1) := by decide +kernel
theorem dX1_readVectors_182 : decode cX1_readVectors 182 = .ok (.istore 8, 2) := by decide +kernel
theorem dX1_readVectors_184 : decode cX1_readVectors 184 = .ok (.iload 8, 2) := by decide +kernel
theorem dX1_readVectors_186 : decode cX1_readVectors 186 = .ok (.sipush (-2048), 3) := by decide +kernel
theorem dX1_readVectors_189 : decode cX1_readVectors 189 = .ok (.if_icmp .lt 11, 3) := by decide +kernel
theorem dX1_readVectors_192 : decode cX1_readVectors 192 = .ok (.iload 8, 2) := by decide +kernel
theorem dX1_readVectors_194 : decode cX1_readVectors 194 = .ok (.sipush 2047, 3) := by decide +kernel
theorem dX1_readVectors_197 : decode cX1_readVectors 197 = .ok (.if_icmp .le 18, 3) := by decide +kernel
theorem dX1_readVectors_200 : decode cX1_readVectors 200 = .ok (.aload_n 0, 1) := by decide +kernel
theorem dX1_readVectors_201 : decode cX1_readVectors 201 = .ok (.getfield 12, 3) := by decide +kernel
theorem dX1_readVectors_204 : decode cX1_readVectors 204 = .ok (.iconst 2, 1) := by decide +kernel
theorem dX1_readVectors_205 : decode cX1_readVectors 205 = .ok (.aload_n 0, 1) := by decide +kernel
theorem dX1_readVectors_206 : decode cX1_readVectors 206 = .ok (.getfield 12, 3) := by decide +kernel
theorem dX1_readVectors_209 : decode cX1_readVectors 209 = .ok (.getfield 194, 3) := by decide +kernel
theorem dX1_readVectors_212 : decode cX1_readVectors 212 = .ok (.invokevirtual 197, 3) := by decide +kernel
theorem dX1_readVectors_215 : decode cX1_readVectors 215 = .ok (.aload_n 0, 1) := by decide +kernel
theorem dX1_readVectors_216 : decode cX1_readVectors 216 = .ok (.getfield 28, 3) := by decide +kernel
theorem dX1_readVectors_219 : decode cX1_readVectors 219 = .ok (.iload_n 1, 1) := by decide +kernel
theorem dX1_readVectors_220 : decode cX1_readVectors 220 = .ok (.iload_n 2, 1) := by decide +kernel
theorem dX1_readVectors_221 : decode cX1_readVectors 221 = .ok (.iload_n 3, 1) := by decide +kernel
theorem dX1_readVectors_222 : decode cX1_readVectors 222 = .ok (.iload 7, 2) := by decide +kernel
theorem dX1_readVectors_224 : decode cX1_readVectors 224 = .ok (.iload 8, 2) := by decide +kernel
theorem dX1_readVectors_226 : decode cX1_readVectors 226 = .ok (.invokevirtual 472, 3) := by decide +kernel
theorem dX1_readVectors_229 : decode cX1_readVectors 229 = .ok (.iinc 3 1, 3) := by decide +kernel
theorem dX1_readVectors_232 : decode cX1_readVectors 232 = .ok (.goto (-230), 3) := by decide +kernel
theorem dX1_readVectors_235 : decode cX1_readVectors 235 = .ok (.return_, 1) := by decide +kernel
def FX1_readVectors (G : GG) (M : DD) (a : Nat) (p0 : Int32) (p1 : Int32) : Option (DD) :=
  bnd (itr (fun (s2 : Int32 × DD) => ((dr G 9 ((s2.2.2 a 2)) fun b5 =>
  ltt (s2.2.1 b5 14) fun x6 =>
  if x6 ≤ s2.1 then (some (.inr (s2.1, s2.2))) else
  (ltt ((((5 : Int32)) * s2.1)) fun x8 =>
  ltt ((x8 + ((3 : Int32)))) fun x9 =>
  dr G 13 ((s2.2.2 b5 13)) fun b10 =>
  chk (¬ (x9 < 0 ∨ G.2.2 b10 ≤ x9.toNatClampNeg)) <|
  ltt (s2.2.1 b10 x9.toNatClampNeg) fun x11 =>
  ltt ((x11 >>> (p1 &&& 31))) fun x12 =>
  ltt ((x12 &&& ((1 : Int32)))) fun x13 =>
  bnd (if x13 = ((0 : Int32)) then (some (s2.2)) else
  (dr G 4 ((s2.2.2 b5 0)) fun b17 =>
  ltt ((((16 : Int32)) * p0)) fun x18 =>
  chk (¬ (x8 < 0 ∨ G.2.2 b10 ≤ x8.toNatClampNeg)) <|
  ltt (s2.2.1 b10 x8.toNatClampNeg) fun x19 =>
  ltt ((x18 + x19)) fun x20 =>
  bnd (FX4_at G s2.2 p1 x20) fun y21 =>
  dr G 13 ((s2.2.2 b17 5)) fun b22 =>
  chk (¬ (y21.2 < 0 ∨ G.2.2 b22 ≤ y21.2.toNatClampNeg)) <|
  ltt (y21.1.1 b22 y21.2.toNatClampNeg) fun x23 =>
  chk (¬ (x8 < 0 ∨ G.2.2 b10 ≤ x8.toNatClampNeg)) <|
  ltt (y21.1.1 b10 x8.toNatClampNeg) fun x24 =>
  ltt ((x8 + ((1 : Int32)))) fun x25 =>
  chk (¬ (x25 < 0 ∨ G.2.2 b10 ≤ x25.toNatClampNeg)) <|
  ltt (y21.1.1 b10 x25.toNatClampNeg) fun x26 =>
  ltt ((x8 + ((4 : Int32)))) fun x27 =>
  chk (¬ (x27 < 0 ∨ G.2.2 b10 ≤ x27.toNatClampNeg)) <|
  ltt (y21.1.1 b10 x27.toNatClampNeg) fun x28 =>
  dr G 9 ((y21.1.2 a 2)) fun b29 =>
  bnd (FX9_guess G y21.1 b29 p0 p1 x23 x24 x26 x28) fun y30 =>
  dr G 9 ((y30.2 a 2)) fun b31 =>
  ltt (y30.1 b31 18) fun x32 =>
  dr G 5 ((y30.2 a 0)) fun b33 =>
  bnd (FX5_number G y30 b33 ((7 : Int32)) ((1 : Int32)) ((-8192 : Int64)) ((8191 : Int64))) fun y34 =>
  ltt ((x32 + y34.2)) fun x35 =>
  bnd (if x35 < ((-2048 : Int32)) then (dr G 5 ((y34.1.2 a 0)) fun b57 =>
  ltt (y34.1.1 b57 4) fun x58 =>
  none) else
  (some (y34.1))) fun (y36 : DD) =>
  bnd (if x35 ≤ ((2047 : Int32)) then (some (y36)) else
  (dr G 5 ((y36.2 a 0)) fun b54 =>
  ltt (y36.1 b54 4) fun x55 =>
  none)) fun (y37 : DD) =>
  dr G 9 ((y37.2 a 2)) fun b38 =>
  ltt (y37.1 b38 19) fun x39 =>
  dr G 5 ((y37.2 a 0)) fun b40 =>
  bnd (FX5_number G y37 b40 ((8 : Int32)) ((1 : Int32)) ((-8192 : Int64)) ((8191 : Int64))) fun y41 =>
  ltt ((x39 + y41.2)) fun x42 =>
  bnd (if x42 < ((-2048 : Int32)) then (dr G 5 ((y41.1.2 a 0)) fun b51 =>
  ltt (y41.1.1 b51 4) fun x52 =>
  none) else
  (some (y41.1))) fun (y43 : DD) =>
  bnd (if x42 ≤ ((2047 : Int32)) then (some (y43)) else
  (dr G 5 ((y43.2 a 0)) fun b48 =>
  ltt (y43.1 b48 4) fun x49 =>
  none)) fun (y44 : DD) =>
  dr G 9 ((y44.2 a 2)) fun b45 =>
  bnd (FX9_setMove G y44 b45 p0 p1 s2.1 x35 x42) fun y46 =>
  some (y46))) fun (y14 : DD) =>
  ltt (s2.1 + (1 : Int32)) fun x15 =>
  some (.inl (x15, y14)))) : Option ((Int32 × DD) ⊕ (Int32 × DD)))) 1000000 ((0 : Int32), M)) fun (y1 : Int32 × DD) =>
  some y1.2
set_option maxHeartbeats 4000000 in
set_option maxRecDepth 100000 in
theorem kX1_readVectors (l : Launch) (D : va_G) (ct : CT) (ad : Nat → Nat) (Z : Nat → Nat) (G : GG) (M : DD) (sz : Nat) (a : Nat) (p0 : Int32) (p1 : Int32) (y : DD) (hc : a < G.1) (hk : G.2.1 a = 1) (hF : FX1_readVectors G M a p0 p1 = some y) : Met l yX1_readVectors wuX1_readVectors ({ frames := 2, cells := 0, slots := 0, locals := 69 }) (va_Pc [.ref (ad a), .int p0, .int p1] (kB D ct ad Z G M sz)) (va_Qv (fun (_ : Unit) => True) (fun _ t => kE D ct ad G (wA ad G sz) y t) (wA ad G sz)) 0 0 (wA ad G sz) := by
  refine Met.ofW (cc := cX1_readVectors) (maxL := 9) (ret := none) (by decide) rfl ?_
  intro p e s m args below meth c s₁ B hml hv
  obtain ⟨rfl, hsz, hP, hK, hD0, hZ, hN⟩ := hv
  have hx := B.exec
  have hb := B.bytes
  have hr := B.returns
  have hts := atoms_spec (ws := wuX1_readVectors) B.pre
  have hown : s.vm.findClass RX1 = some m.cls := findClass_of_methodNamed B.named
  have hlocks := B.notSynchronized
  subst hsz
  have hD := wD_self (sz := s.heap.size) hD0
  have hA9 : ∀ q, s.heap.size ≤ q → wA ad G s.heap.size q := fun q h => Or.inr h
  generalize hAe : wA ad G s.heap.size = A at hD hA9 hZ ⊢
  have hS : va_S A s.heap s.heap [] := va_S.rf
  have hl := lv_entry ([.ref (ad a), .int p0, .int p1]) (n := 9) (Nat.le_of_ble_eq_true rfl)
  rw [lg_entry_eq]
  generalize (lg_sl ([.ref (ad a), .int p0, .int p1]) ++ List.replicate (9 - (lg_sl ([.ref (ad a), .int p0, .int p1])).length) Slot.unset).toArray = ls at hl ⊢
  have hl : lv_has ls 9 [(0, .ref (ad a)), (1, .int p0), (2, .int p1)] := hl
  unfold FX1_readVectors at hF
  refine lv_iconst (v := (0 : Int32)) hx hb dX1_readVectors_0 (by decide) ?_
  refine lv_istore_n (lv' := [(3, .int (0 : Int32)), (0, .ref (ad a)), (1, .int p0), (2, .int p1)]) hx hb dX1_readVectors_1 rfl hl (by decide) rfl (fun ls hl => ?_)
  obtain ⟨y1, hy1, hF⟩ := bnd_some hF
  have K1 : ∀ (H : Heap) (locs : List Loc) (ls : Array Slot), va_P D classes (wld ct ad G y1.2) H → va_D A (wld ct ad G y1.2) → va_S A s.heap H locs → lv_has ls 9 [(3, .int y1.1), (0, .ref (ad a)), (1, .int p0), (2, .int p1)] → W p l e (headSpec wuX1_readVectors ({ frames := 2, cells := 0, slots := 0, locals := 69 })).room s m ([.ref (ad a), .int p0, .int p1] : List Value).toArray below meth c H locs 0 0 (MQ below (va_Qv (fun (_ : Unit) => True) (fun _ t => kE D ct ad G A y t) A) ([.ref (ad a), .int p0, .int p1] : List Value).toArray s 0 0 A) (F0 m 235 ls []) := by
    intro H locs ls hP hD hS hl
    obtain rfl := Option.some.inj hF
    exact W.vret hx hb hr (fun t ht hW => ⟨⟨(), rfl, trivial, ⟨by rw [ht]; exact hP, va_K.moved hW.alike hK, hD⟩⟩, hS.F ht⟩) hS.2.2 dX1_readVectors_235
  clear hF
  refine itr_rule (fun (s2 : Int32 × DD) => ∀ (H : Heap) (locs : List Loc) (ls : Array Slot), va_P D classes (wld ct ad G s2.2) H → va_D A (wld ct ad G s2.2) → va_S A s.heap H locs → lv_has ls 9 [(3, .int s2.1), (0, .ref (ad a)), (1, .int p0), (2, .int p1)] → W p l e (headSpec wuX1_readVectors ({ frames := 2, cells := 0, slots := 0, locals := 69 })).room s m ([.ref (ad a), .int p0, .int p1] : List Value).toArray below meth c H locs 0 0 (MQ below (va_Qv (fun (_ : Unit) => True) (fun _ t => kE D ct ad G A y t) A) ([.ref (ad a), .int p0, .int p1] : List Value).toArray s 0 0 A) (F0 m 2 ls [])) ?_ _ _ hy1 _ _ _ hP hD hS (lv_sub hl [0, 1, 2, 3] rfl)
  rintro s2 ⟨z4, hF, hwz4⟩ H locs ls hP hD hS hl
  try dsimp only at hF
  refine lv_iload_n hx hb dX1_readVectors_2 rfl (lv_at hl 0 rfl) ?_
  refine lv_aload_n hx hb dX1_readVectors_3 rfl (lv_at hl 1 rfl) ?_
  refine va_get (D := D) (ci := 1) (v := va_re ad (s2.2.2 a 2)) (C := RX1) (T := TX1) (N := 22) hx hb hts (mus hf_X1) hown hK hP a (wld_o ct ad G s2.2 hc hk (by decide)) rfl 2 (by decide) (hts (.fieldLink RX1 28 "VideoSuite$Decoder" "work" "LVideoSuite$Work;") (mu mw_644)) (fun _ h9 => h9) rfl dX1_readVectors_4 ?_
  obtain ⟨b5, ho5, hc5, hk5, hF⟩ := dr_some hF
  refine W_st (st' := [.ref (ad b5), .int s2.1]) (by rw [va_some ho5]) ?_
  refine va_get (D := D) (ci := 9) (v := .int (s2.2.1 b5 14)) (C := RX9) (T := TX9) (N := 20) hx hb hts (mus hf_X9) hown hK hP b5 (wld_o ct ad G s2.2 hc5 hk5 (by decide)) rfl 14 (by decide) (hts (.fieldLink RX1 391 "VideoSuite$Work" "parts" "I") (mu mw_470)) (fun _ h9 => h9) rfl dX1_readVectors_7 ?_
  obtain ⟨x6, ex6, hF⟩ := ltt_some hF
  refine lv_topi (fun zx6 ezx6 => ?_)
  obtain rfl : x6 = zx6 := ex6.trans ezx6.symm
  refine lv_icmp_ge (tgt := 235) hx hb dX1_readVectors_10 (by decide) (fun c7 => ?_) (fun c7 => ?_)
  · rw [if_pos c7] at hF
    obtain rfl := Option.some.inj hF
    subst hwz4
    exact K1 _ _ _ hP hD hS (lv_sub hl [0, 1, 2, 3] rfl)
  · rw [if_neg c7] at hF
    refine lv_aload_n hx hb dX1_readVectors_13 rfl (lv_at hl 1 rfl) ?_
    refine va_get (D := D) (ci := 1) (v := va_re ad (s2.2.2 a 2)) (C := RX1) (T := TX1) (N := 22) hx hb hts (mus hf_X1) hown hK hP a (wld_o ct ad G s2.2 hc hk (by decide)) rfl 2 (by decide) (hts (.fieldLink RX1 28 "VideoSuite$Decoder" "work" "LVideoSuite$Work;") (mu mw_644)) (fun _ h9 => h9) rfl dX1_readVectors_14 ?_
    refine W_st (st' := [.ref (ad b5)]) (by rw [va_some ho5]) ?_
    refine va_get (D := D) (ci := 9) (v := va_re ad (s2.2.2 b5 13)) (C := RX9) (T := TX9) (N := 20) hx hb hts (mus hf_X9) hown hK hP b5 (wld_o ct ad G s2.2 hc5 hk5 (by decide)) rfl 13 (by decide) (hts (.fieldLink RX1 450 "VideoSuite$Work" "part" "[I") (mu mw_467)) (fun _ h9 => h9) rfl dX1_readVectors_17 ?_
    refine lv_astoreq (lv' := [(4, va_re ad (s2.2.2 b5 13)), (3, .int s2.1), (0, .ref (ad a)), (1, .int p0), (2, .int p1)]) hx hb dX1_readVectors_20 hl (by decide) rfl (fun ls hl => ?_)
    refine lv_iconst (v := (5 : Int32)) hx hb dX1_readVectors_22 (by decide) ?_
    refine lv_iload_n hx hb dX1_readVectors_23 rfl (lv_at hl 1 rfl) ?_
    refine lv_imul hx hb dX1_readVectors_24 ?_
    obtain ⟨x8, ex8, hF⟩ := ltt_some hF
    refine lv_topi (fun zx8 ezx8 => ?_)
    obtain rfl : x8 = zx8 := ex8.trans ezx8.symm
    refine lv_istore (lv' := [(5, .int x8), (4, va_re ad (s2.2.2 b5 13)), (3, .int s2.1), (0, .ref (ad a)), (1, .int p0), (2, .int p1)]) hx hb dX1_readVectors_25 hl (by decide) (by generalize ((s2.2.2 b5 13)) = o9; cases o9 <;> rfl) (fun ls hl => ?_)
    refine lv_aloadq hx hb dX1_readVectors_27 (lv_at hl 1 rfl) ?_
    refine lv_iload hx hb dX1_readVectors_29 (lv_at hl 0 rfl) ?_
    refine lv_iconst (v := (3 : Int32)) hx hb dX1_readVectors_31 (by decide) ?_
    refine lv_iadd hx hb dX1_readVectors_32 ?_
    obtain ⟨x9, ex9, hF⟩ := ltt_some hF
    refine lv_topi (fun zx9 ezx9 => ?_)
    obtain rfl : x9 = zx9 := ex9.trans ezx9.symm
    obtain ⟨b10, ho10, hc10, hk10, hF⟩ := dr_some hF
    refine W_st (st' := [.int x9, .ref (ad b10)]) (by rw [va_some ho10]) ?_
    obtain ⟨hvc, hF⟩ := chk_some hF
    refine va_iald hx hb hK hP b10 1 (wld_i ct ad G s2.2 hc10 hk10) rfl hvc dX1_readVectors_33 ?_
    obtain ⟨x11, ex11, hF⟩ := ltt_some hF
    refine lv_topi (fun zx11 ezx11 => ?_)
    obtain rfl : x11 = zx11 := ex11.trans ezx11.symm
    refine lv_iload_n hx hb dX1_readVectors_34 rfl (lv_at hl 5 rfl) ?_
    refine lv_ishr hx hb dX1_readVectors_35 ?_
    obtain ⟨x12, ex12, hF⟩ := ltt_some hF
    refine lv_topi (fun zx12 ezx12 => ?_)
    obtain rfl : x12 = zx12 := ex12.trans ezx12.symm
    refine lv_iconst (v := (1 : Int32)) hx hb dX1_readVectors_36 (by decide) ?_
    refine lv_iand hx hb dX1_readVectors_37 ?_
    obtain ⟨x13, ex13, hF⟩ := ltt_some hF
    refine lv_topi (fun zx13 ezx13 => ?_)
    obtain rfl : x13 = zx13 := ex13.trans ezx13.symm
    obtain ⟨y14, hy14, hF⟩ := bnd_some hF
    have J14 : ∀ (H : Heap) (locs : List Loc) (ls : Array Slot), va_P D classes (wld ct ad G y14) H → va_D A (wld ct ad G y14) → va_S A s.heap H locs → lv_has ls 9 [(5, .int x8), (4, va_re ad (s2.2.2 b5 13)), (3, .int s2.1), (0, .ref (ad a)), (1, .int p0), (2, .int p1)] → W p l e (headSpec wuX1_readVectors ({ frames := 2, cells := 0, slots := 0, locals := 69 })).room s m ([.ref (ad a), .int p0, .int p1] : List Value).toArray below meth c H locs 0 0 (MQ below (va_Qv (fun (_ : Unit) => True) (fun _ t => kE D ct ad G A y t) A) ([.ref (ad a), .int p0, .int p1] : List Value).toArray s 0 0 A) (F0 m 229 ls []) := by
      intro H locs ls hP hD hS hl
      obtain ⟨x15, ex15, hF⟩ := ltt_some hF
      refine lv_iinc (v := x15) (lv' := [(3, .int x15), (5, .int x8), (4, va_re ad (s2.2.2 b5 13)), (0, .ref (ad a)), (1, .int p0), (2, .int p1)]) hx hb dX1_readVectors_229 hl (k := 2) rfl (by rw [ex15]; rfl) (by decide) rfl (fun ls hl => ?_)
      refine lv_goto (tgt := 2) hx hb dX1_readVectors_232 (by decide) ?_
      obtain rfl := Option.some.inj hF
      exact hwz4 _ _ _ hP hD hS (lv_sub hl [0, 3, 4, 5] rfl)
    clear hF
    have hF := hy14
    clear hy14
    refine lv_if_ne (tgt := 44) hx hb dX1_readVectors_38 (by decide) (fun c16 => ?_) (fun c16 => ?_)
    · rw [if_neg c16] at hF
      refine lv_aload_n hx hb dX1_readVectors_44 rfl (lv_at hl 3 rfl) ?_
      refine va_get (D := D) (ci := 1) (v := va_re ad (s2.2.2 a 2)) (C := RX1) (T := TX1) (N := 22) hx hb hts (mus hf_X1) hown hK hP a (wld_o ct ad G s2.2 hc hk (by decide)) rfl 2 (by decide) (hts (.fieldLink RX1 28 "VideoSuite$Decoder" "work" "LVideoSuite$Work;") (mu mw_644)) (fun _ h9 => h9) rfl dX1_readVectors_45 ?_
      refine W_st (st' := [.ref (ad b5)]) (by rw [va_some ho5]) ?_
      refine va_get (D := D) (ci := 9) (v := va_re ad (s2.2.2 b5 0)) (C := RX9) (T := TX9) (N := 20) hx hb hts (mus hf_X9) hown hK hP b5 (wld_o ct ad G s2.2 hc5 hk5 (by decide)) rfl 0 (by decide) (hts (.fieldLink RX1 84 "VideoSuite$Work" "pic" "LVideoSuite$Picture;") (mu mw_420)) (fun _ h9 => h9) rfl dX1_readVectors_48 ?_
      obtain ⟨b17, ho17, hc17, hk17, hF⟩ := dr_some hF
      refine W_st (st' := [.ref (ad b17)]) (by rw [va_some ho17]) ?_
      refine va_get (D := D) (ci := 4) (v := va_re ad (s2.2.2 b17 5)) (C := RX4) (T := TX4) (N := 18) hx hb hts (mus hf_X4) hown hK hP b17 (wld_o ct ad G s2.2 hc17 hk17 (by decide)) rfl 5 (by decide) (hts (.fieldLink RX1 453 "VideoSuite$Picture" "reference" "[I") (mu mw_1440)) (fun _ h9 => h9) rfl dX1_readVectors_51 ?_
      refine lv_iload_n hx hb dX1_readVectors_54 rfl (lv_at hl 5 rfl) ?_
      refine lv_bipush (v := (16 : Int32)) hx hb dX1_readVectors_55 (by decide) ?_
      refine lv_iload_n hx hb dX1_readVectors_57 rfl (lv_at hl 4 rfl) ?_
      refine lv_imul hx hb dX1_readVectors_58 ?_
      obtain ⟨x18, ex18, hF⟩ := ltt_some hF
      refine lv_topi (fun zx18 ezx18 => ?_)
      obtain rfl : x18 = zx18 := ex18.trans ezx18.symm
      refine lv_aloadq hx hb dX1_readVectors_59 (lv_at hl 1 rfl) ?_
      refine lv_iload hx hb dX1_readVectors_61 (lv_at hl 0 rfl) ?_
      refine W_st (st' := [.int x8, .ref (ad b10), .int x18, .int p1, va_re ad (s2.2.2 b17 5)]) (by rw [va_some ho10]) ?_
      obtain ⟨hvc, hF⟩ := chk_some hF
      refine va_iald hx hb hK hP b10 1 (wld_i ct ad G s2.2 hc10 hk10) rfl hvc dX1_readVectors_63 ?_
      obtain ⟨x19, ex19, hF⟩ := ltt_some hF
      refine lv_topi (fun zx19 ezx19 => ?_)
      obtain rfl : x19 = zx19 := ex19.trans ezx19.symm
      refine lv_iadd hx hb dX1_readVectors_64 ?_
      obtain ⟨x20, ex20, hF⟩ := ltt_some hF
      refine lv_topi (fun zx20 ezx20 => ?_)
      obtain rfl : x20 = zx20 := ex20.trans ezx20.symm
      obtain ⟨y21, hy21, hF⟩ := bnd_some hF
      have hf9 := wA_in hD hA9 hS
      refine va_calli (va_runS (As := [.int p1, .int x20]) (rest := [va_re ad (s2.2.2 b17 5)]) ⟨hx, hb, hml, hown, hts⟩ (kX4_at l D ct ad Z G s2.2 H.size p1 x20 y21 hy21) (va_cwS 2 hts gX1_readVectors_X4_at rfl rfl rfl (by decide +kernel) ⟨Nat.le_of_ble_eq_true rfl, Nat.le_of_ble_eq_true rfl⟩) ⟨fun a U g mk q => by obtain ⟨q0, q1, qP, qK, qD, qZ, qN⟩ := q; exact ⟨q0, q1, qP, va_K.moved (u := U) (U := U.calling g mk a) (Vm.Alike.refl U.vm) qK, qD, sF.moved (u := U) (U := U.calling g mk a) (Vm.Alike.refl U.vm) qZ, nF.same rfl qN⟩, fun U hU hW => ⟨rfl, by rw [hU], by rw [hU]; exact hP, va_K.moved hW.alike hK, hD.weaken (fun _ _ _ _ => trivial), by rw [hU]; exact ((hZ.kept hS.2.1).narrow hf9).moved hW.alike, hN.warm hW⟩⟩ rfl rfl hl.1 rfl (lv_room (by simp only [List.map, va_re_cat]; exact Nat.le_of_ble_eq_true rfl)) dX1_readVectors_65 ⟨(Nat.zero_le _), (Nat.zero_le _)⟩) hS (fun q _ h => hf9 q h) hf9 (fun r u t H locs ht hvm hw hB hz1 hk1 hS => ?_)
      obtain ⟨hP, hK9, hD9⟩ := hB
      rw [ht] at hP
      try dsimp only at hw
      subst hw
      have hD := hD9.weaken (fun _ q _ h => hf9 q.1 h)
      obtain ⟨b22, ho22, hc22, hk22, hF⟩ := dr_some hF
      refine W_st (st' := [.int y21.2, .ref (ad b22)]) (by rw [va_some ho22]) ?_
      obtain ⟨hvc, hF⟩ := chk_some hF
      refine va_iald hx hb hK hP b22 1 (wld_i ct ad G y21.1 hc22 hk22) rfl hvc dX1_readVectors_68 ?_
      obtain ⟨x23, ex23, hF⟩ := ltt_some hF
      refine lv_topi (fun zx23 ezx23 => ?_)
      obtain rfl : x23 = zx23 := ex23.trans ezx23.symm
      refine lv_istore (lv' := [(6, .int x23), (5, .int x8), (4, va_re ad (s2.2.2 b5 13)), (3, .int s2.1), (0, .ref (ad a)), (1, .int p0), (2, .int p1)]) hx hb dX1_readVectors_69 hl (by decide) rfl (fun ls hl => ?_)
      refine lv_aload_n hx hb dX1_readVectors_71 rfl (lv_at hl 4 rfl) ?_
      refine va_get (D := D) (ci := 1) (v := va_re ad (y21.1.2 a 2)) (C := RX1) (T := TX1) (N := 22) hx hb hts (mus hf_X1) hown hK hP a (wld_o ct ad G y21.1 hc hk (by decide)) rfl 2 (by decide) (hts (.fieldLink RX1 28 "VideoSuite$Decoder" "work" "LVideoSuite$Work;") (mu mw_644)) (fun _ h9 => h9) rfl dX1_readVectors_72 ?_
      refine lv_iload_n hx hb dX1_readVectors_75 rfl (lv_at hl 5 rfl) ?_
      refine lv_iload_n hx hb dX1_readVectors_76 rfl (lv_at hl 6 rfl) ?_
      refine lv_iload hx hb dX1_readVectors_77 (lv_at hl 0 rfl) ?_
      refine lv_aloadq hx hb dX1_readVectors_79 (lv_at hl 2 rfl) ?_
      refine lv_iload hx hb dX1_readVectors_81 (lv_at hl 1 rfl) ?_
      refine W_st (st' := [.int x8, .ref (ad b10), .int x23, .int p1, .int p0, va_re ad (y21.1.2 a 2)]) (by rw [va_some ho10]) ?_
      obtain ⟨hvc, hF⟩ := chk_some hF
      refine va_iald hx hb hK hP b10 1 (wld_i ct ad G y21.1 hc10 hk10) rfl hvc dX1_readVectors_83 ?_
      obtain ⟨x24, ex24, hF⟩ := ltt_some hF
      refine lv_topi (fun zx24 ezx24 => ?_)
      obtain rfl : x24 = zx24 := ex24.trans ezx24.symm
      refine lv_aloadq hx hb dX1_readVectors_84 (lv_at hl 2 rfl) ?_
      refine lv_iload hx hb dX1_readVectors_86 (lv_at hl 1 rfl) ?_
      refine lv_iconst (v := (1 : Int32)) hx hb dX1_readVectors_88 (by decide) ?_
      refine lv_iadd hx hb dX1_readVectors_89 ?_
      obtain ⟨x25, ex25, hF⟩ := ltt_some hF
      refine lv_topi (fun zx25 ezx25 => ?_)
      obtain rfl : x25 = zx25 := ex25.trans ezx25.symm
      refine W_st (st' := [.int x25, .ref (ad b10), .int x24, .int x23, .int p1, .int p0, va_re ad (y21.1.2 a 2)]) (by rw [va_some ho10]) ?_
      obtain ⟨hvc, hF⟩ := chk_some hF
      refine va_iald hx hb hK hP b10 1 (wld_i ct ad G y21.1 hc10 hk10) rfl hvc dX1_readVectors_90 ?_
      obtain ⟨x26, ex26, hF⟩ := ltt_some hF
      refine lv_topi (fun zx26 ezx26 => ?_)
      obtain rfl : x26 = zx26 := ex26.trans ezx26.symm
      refine lv_aloadq hx hb dX1_readVectors_91 (lv_at hl 2 rfl) ?_
      refine lv_iload hx hb dX1_readVectors_93 (lv_at hl 1 rfl) ?_
      refine lv_iconst (v := (4 : Int32)) hx hb dX1_readVectors_95 (by decide) ?_
      refine lv_iadd hx hb dX1_readVectors_96 ?_
      obtain ⟨x27, ex27, hF⟩ := ltt_some hF
      refine lv_topi (fun zx27 ezx27 => ?_)
      obtain rfl : x27 = zx27 := ex27.trans ezx27.symm
      refine W_st (st' := [.int x27, .ref (ad b10), .int x26, .int x24, .int x23, .int p1, .int p0, va_re ad (y21.1.2 a 2)]) (by rw [va_some ho10]) ?_
      obtain ⟨hvc, hF⟩ := chk_some hF
      refine va_iald hx hb hK hP b10 1 (wld_i ct ad G y21.1 hc10 hk10) rfl hvc dX1_readVectors_97 ?_
      obtain ⟨x28, ex28, hF⟩ := ltt_some hF
      refine lv_topi (fun zx28 ezx28 => ?_)
      obtain rfl : x28 = zx28 := ex28.trans ezx28.symm
      obtain ⟨b29, ho29, hc29, hk29, hF⟩ := dr_some hF
      refine W_st (st' := [.int x28, .int x26, .int x24, .int x23, .int p1, .int p0, .ref (ad b29)]) (by rw [va_some ho29]) ?_
      obtain ⟨y30, hy30, hF⟩ := bnd_some hF
      have hf9 := wA_in hD hA9 hS
      refine va_callv (va_runV (As := [.int p0, .int p1, .int x23, .int x24, .int x26, .int x28]) (rest := []) ⟨hx, hb, hml, hown, hts⟩ (kX9_guess l D ct ad Z G y21.1 H.size b29 p0 p1 x23 x24 x26 x28 y30 hc29 hk29 hy30) (cwV 6 hts gX1_readVectors_X9_guess rfl rfl rfl (by decide +kernel) ⟨Nat.le_of_ble_eq_true rfl, Nat.le_of_ble_eq_true rfl⟩) ⟨fun a U g mk q => by obtain ⟨q0, q1, qP, qK, qD, qZ, qN⟩ := q; exact ⟨q0, q1, qP, va_K.moved (u := U) (U := U.calling g mk a) (Vm.Alike.refl U.vm) qK, qD, sF.moved (u := U) (U := U.calling g mk a) (Vm.Alike.refl U.vm) qZ, nF.same rfl qN⟩, va_recv hK hP (ci := 9) (q0 := b29) rfl (wld_o ct ad G y21.1 hc29 hk29 (by decide)), fun U hU hW => ⟨rfl, by rw [hU], by rw [hU]; exact hP, va_K.moved hW.alike hK, hD.weaken (fun _ _ _ _ => trivial), by rw [hU]; exact ((hZ.kept hS.2.1).narrow hf9).moved hW.alike, hN.warm hW⟩⟩ rfl rfl hl.1 rfl (lv_room (Nat.le_of_ble_eq_true rfl)) dX1_readVectors_98 ⟨(Nat.zero_le _), (Nat.zero_le _)⟩) hS (fun q _ h => hf9 q h) hf9 (fun u t H locs ht hvm hw hB hz1 hk1 hS => ?_)
      obtain ⟨hP, hK9, hD9⟩ := hB
      rw [ht] at hP
      have hD := hD9.weaken (fun _ q _ h => hf9 q.1 h)
      refine lv_aload_n hx hb dX1_readVectors_101 rfl (lv_at hl 4 rfl) ?_
      refine va_get (D := D) (ci := 1) (v := va_re ad (y30.2 a 2)) (C := RX1) (T := TX1) (N := 22) hx hb hts (mus hf_X1) hown hK hP a (wld_o ct ad G y30 hc hk (by decide)) rfl 2 (by decide) (hts (.fieldLink RX1 28 "VideoSuite$Decoder" "work" "LVideoSuite$Work;") (mu mw_644)) (fun _ h9 => h9) rfl dX1_readVectors_102 ?_
      obtain ⟨b31, ho31, hc31, hk31, hF⟩ := dr_some hF
      refine W_st (st' := [.ref (ad b31)]) (by rw [va_some ho31]) ?_
      refine va_get (D := D) (ci := 9) (v := .int (y30.1 b31 18)) (C := RX9) (T := TX9) (N := 20) hx hb hts (mus hf_X9) hown hK hP b31 (wld_o ct ad G y30 hc31 hk31 (by decide)) rfl 18 (by decide) (hts (.fieldLink RX1 462 "VideoSuite$Work" "guessX" "I") (mu mw_480)) (fun _ h9 => h9) rfl dX1_readVectors_105 ?_
      obtain ⟨x32, ex32, hF⟩ := ltt_some hF
      refine lv_topi (fun zx32 ezx32 => ?_)
      obtain rfl : x32 = zx32 := ex32.trans ezx32.symm
      refine lv_aload_n hx hb dX1_readVectors_108 rfl (lv_at hl 4 rfl) ?_
      refine va_get (D := D) (ci := 1) (v := va_re ad (y30.2 a 0)) (C := RX1) (T := TX1) (N := 22) hx hb hts (mus hf_X1) hown hK hP a (wld_o ct ad G y30 hc hk (by decide)) rfl 0 (by decide) (hts (.fieldLink RX1 12 "VideoSuite$Decoder" "reader" "LVideoSuite$Reader;") (mu mw_640)) (fun _ h9 => h9) rfl dX1_readVectors_109 ?_
      refine lv_bipush (v := (7 : Int32)) hx hb dX1_readVectors_112 (by decide) ?_
      refine lv_iconst (v := (1 : Int32)) hx hb dX1_readVectors_114 (by decide) ?_
      refine lv_ldc2 (v := (-8192 : Int64)) hx hb hown (hts (.constantLong RX1 465 (-8192 : Int64)) (mu mw_2226)) dX1_readVectors_115 ?_
      refine lv_ldc2 (v := (8191 : Int64)) hx hb hown (hts (.constantLong RX1 467 (8191 : Int64)) (mu mw_2227)) dX1_readVectors_118 ?_
      obtain ⟨b33, ho33, hc33, hk33, hF⟩ := dr_some hF
      refine W_st (st' := [.long (8191 : Int64), .long (-8192 : Int64), .int (1 : Int32), .int (7 : Int32), .ref (ad b33), .int x32]) (by rw [va_some ho33]) ?_
      obtain ⟨y34, hy34, hF⟩ := bnd_some hF
      have hf9 := wA_in hD hA9 hS
      refine va_calli (va_runV (As := [.int (7 : Int32), .int (1 : Int32), .long (-8192 : Int64), .long (8191 : Int64)]) (rest := [.int x32]) ⟨hx, hb, hml, hown, hts⟩ (kX5_number l D ct ad Z G y30 H.size b33 ((7 : Int32)) ((1 : Int32)) ((-8192 : Int64)) ((8191 : Int64)) y34 hc33 hk33 hy34) (cwV 4 hts gX1_readVectors_X5_number rfl rfl rfl (by decide +kernel) ⟨Nat.le_of_ble_eq_true rfl, Nat.le_of_ble_eq_true rfl⟩) ⟨fun a U g mk q => by obtain ⟨q0, q1, qP, qK, qD, qZ, qN⟩ := q; exact ⟨q0, q1, qP, va_K.moved (u := U) (U := U.calling g mk a) (Vm.Alike.refl U.vm) qK, qD, sF.moved (u := U) (U := U.calling g mk a) (Vm.Alike.refl U.vm) qZ, nF.same rfl qN⟩, va_recv hK hP (ci := 5) (q0 := b33) rfl (wld_o ct ad G y30 hc33 hk33 (by decide)), fun U hU hW => ⟨rfl, by rw [hU], by rw [hU]; exact hP, va_K.moved hW.alike hK, hD.weaken (fun _ _ _ _ => trivial), by rw [hU]; exact ((hZ.kept hS.2.1).narrow hf9).moved hW.alike, hN.warm hW⟩⟩ rfl rfl hl.1 rfl (lv_room (Nat.le_of_ble_eq_true rfl)) dX1_readVectors_121 ⟨(Nat.zero_le _), (Nat.zero_le _)⟩) hS (fun q _ h => hf9 q h) hf9 (fun r u t H locs ht hvm hw hB hz1 hk1 hS => ?_)
      obtain ⟨hP, hK9, hD9⟩ := hB
      rw [ht] at hP
      try dsimp only at hw
      subst hw
      have hD := hD9.weaken (fun _ q _ h => hf9 q.1 h)
      refine lv_iadd hx hb dX1_readVectors_124 ?_
      obtain ⟨x35, ex35, hF⟩ := ltt_some hF
      refine lv_topi (fun zx35 ezx35 => ?_)
      obtain rfl : x35 = zx35 := ex35.trans ezx35.symm
      refine lv_istore (lv' := [(7, .int x35), (6, .int x23), (5, .int x8), (4, va_re ad (s2.2.2 b5 13)), (3, .int s2.1), (0, .ref (ad a)), (1, .int p0), (2, .int p1)]) hx hb dX1_readVectors_125 hl (by decide) rfl (fun ls hl => ?_)
      refine lv_iload hx hb dX1_readVectors_127 (lv_at hl 0 rfl) ?_
      refine lv_sipush (v := (-2048 : Int32)) hx hb dX1_readVectors_129 (by decide) ?_
      obtain ⟨y36, hy36, hF⟩ := bnd_some hF
      have J36 : ∀ (H : Heap) (locs : List Loc) (ls : Array Slot), va_P D classes (wld ct ad G y36) H → va_D A (wld ct ad G y36) → va_S A s.heap H locs → lv_has ls 9 [(7, .int x35), (6, .int x23), (5, .int x8), (4, va_re ad (s2.2.2 b5 13)), (3, .int s2.1), (0, .ref (ad a)), (1, .int p0), (2, .int p1)] → W p l e (headSpec wuX1_readVectors ({ frames := 2, cells := 0, slots := 0, locals := 69 })).room s m ([.ref (ad a), .int p0, .int p1] : List Value).toArray below meth c H locs 0 0 (MQ below (va_Qv (fun (_ : Unit) => True) (fun _ t => kE D ct ad G A y t) A) ([.ref (ad a), .int p0, .int p1] : List Value).toArray s 0 0 A) (F0 m 135 ls []) := by
        intro H locs ls hP hD hS hl
        refine lv_iload hx hb dX1_readVectors_135 (lv_at hl 0 rfl) ?_
        refine lv_sipush (v := (2047 : Int32)) hx hb dX1_readVectors_137 (by decide) ?_
        obtain ⟨y37, hy37, hF⟩ := bnd_some hF
        have J37 : ∀ (H : Heap) (locs : List Loc) (ls : Array Slot), va_P D classes (wld ct ad G y37) H → va_D A (wld ct ad G y37) → va_S A s.heap H locs → lv_has ls 9 [(7, .int x35), (6, .int x23), (5, .int x8), (4, va_re ad (s2.2.2 b5 13)), (3, .int s2.1), (0, .ref (ad a)), (1, .int p0), (2, .int p1)] → W p l e (headSpec wuX1_readVectors ({ frames := 2, cells := 0, slots := 0, locals := 69 })).room s m ([.ref (ad a), .int p0, .int p1] : List Value).toArray below meth c H locs 0 0 (MQ below (va_Qv (fun (_ : Unit) => True) (fun _ t => kE D ct ad G A y t) A) ([.ref (ad a), .int p0, .int p1] : List Value).toArray s 0 0 A) (F0 m 158 ls []) := by
          intro H locs ls hP hD hS hl
          refine lv_aload_n hx hb dX1_readVectors_158 rfl (lv_at hl 5 rfl) ?_
          refine va_get (D := D) (ci := 1) (v := va_re ad (y37.2 a 2)) (C := RX1) (T := TX1) (N := 22) hx hb hts (mus hf_X1) hown hK hP a (wld_o ct ad G y37 hc hk (by decide)) rfl 2 (by decide) (hts (.fieldLink RX1 28 "VideoSuite$Decoder" "work" "LVideoSuite$Work;") (mu mw_644)) (fun _ h9 => h9) rfl dX1_readVectors_159 ?_
          obtain ⟨b38, ho38, hc38, hk38, hF⟩ := dr_some hF
          refine W_st (st' := [.ref (ad b38)]) (by rw [va_some ho38]) ?_
          refine va_get (D := D) (ci := 9) (v := .int (y37.1 b38 19)) (C := RX9) (T := TX9) (N := 20) hx hb hts (mus hf_X9) hown hK hP b38 (wld_o ct ad G y37 hc38 hk38 (by decide)) rfl 19 (by decide) (hts (.fieldLink RX1 469 "VideoSuite$Work" "guessY" "I") (mu mw_483)) (fun _ h9 => h9) rfl dX1_readVectors_162 ?_
          obtain ⟨x39, ex39, hF⟩ := ltt_some hF
          refine lv_topi (fun zx39 ezx39 => ?_)
          obtain rfl : x39 = zx39 := ex39.trans ezx39.symm
          refine lv_aload_n hx hb dX1_readVectors_165 rfl (lv_at hl 5 rfl) ?_
          refine va_get (D := D) (ci := 1) (v := va_re ad (y37.2 a 0)) (C := RX1) (T := TX1) (N := 22) hx hb hts (mus hf_X1) hown hK hP a (wld_o ct ad G y37 hc hk (by decide)) rfl 0 (by decide) (hts (.fieldLink RX1 12 "VideoSuite$Decoder" "reader" "LVideoSuite$Reader;") (mu mw_640)) (fun _ h9 => h9) rfl dX1_readVectors_166 ?_
          refine lv_bipush (v := (8 : Int32)) hx hb dX1_readVectors_169 (by decide) ?_
          refine lv_iconst (v := (1 : Int32)) hx hb dX1_readVectors_171 (by decide) ?_
          refine lv_ldc2 (v := (-8192 : Int64)) hx hb hown (hts (.constantLong RX1 465 (-8192 : Int64)) (mu mw_2226)) dX1_readVectors_172 ?_
          refine lv_ldc2 (v := (8191 : Int64)) hx hb hown (hts (.constantLong RX1 467 (8191 : Int64)) (mu mw_2227)) dX1_readVectors_175 ?_
          obtain ⟨b40, ho40, hc40, hk40, hF⟩ := dr_some hF
          refine W_st (st' := [.long (8191 : Int64), .long (-8192 : Int64), .int (1 : Int32), .int (8 : Int32), .ref (ad b40), .int x39]) (by rw [va_some ho40]) ?_
          obtain ⟨y41, hy41, hF⟩ := bnd_some hF
          have hf9 := wA_in hD hA9 hS
          refine va_calli (va_runV (As := [.int (8 : Int32), .int (1 : Int32), .long (-8192 : Int64), .long (8191 : Int64)]) (rest := [.int x39]) ⟨hx, hb, hml, hown, hts⟩ (kX5_number l D ct ad Z G y37 H.size b40 ((8 : Int32)) ((1 : Int32)) ((-8192 : Int64)) ((8191 : Int64)) y41 hc40 hk40 hy41) (cwV 4 hts gX1_readVectors_X5_number rfl rfl rfl (by decide +kernel) ⟨Nat.le_of_ble_eq_true rfl, Nat.le_of_ble_eq_true rfl⟩) ⟨fun a U g mk q => by obtain ⟨q0, q1, qP, qK, qD, qZ, qN⟩ := q; exact ⟨q0, q1, qP, va_K.moved (u := U) (U := U.calling g mk a) (Vm.Alike.refl U.vm) qK, qD, sF.moved (u := U) (U := U.calling g mk a) (Vm.Alike.refl U.vm) qZ, nF.same rfl qN⟩, va_recv hK hP (ci := 5) (q0 := b40) rfl (wld_o ct ad G y37 hc40 hk40 (by decide)), fun U hU hW => ⟨rfl, by rw [hU], by rw [hU]; exact hP, va_K.moved hW.alike hK, hD.weaken (fun _ _ _ _ => trivial), by rw [hU]; exact ((hZ.kept hS.2.1).narrow hf9).moved hW.alike, hN.warm hW⟩⟩ rfl rfl hl.1 rfl (lv_room (Nat.le_of_ble_eq_true rfl)) dX1_readVectors_178 ⟨(Nat.zero_le _), (Nat.zero_le _)⟩) hS (fun q _ h => hf9 q h) hf9 (fun r u t H locs ht hvm hw hB hz1 hk1 hS => ?_)
          obtain ⟨hP, hK9, hD9⟩ := hB
          rw [ht] at hP
          try dsimp only at hw
          subst hw
          have hD := hD9.weaken (fun _ q _ h => hf9 q.1 h)
          refine lv_iadd hx hb dX1_readVectors_181 ?_
          obtain ⟨x42, ex42, hF⟩ := ltt_some hF
          refine lv_topi (fun zx42 ezx42 => ?_)
          obtain rfl : x42 = zx42 := ex42.trans ezx42.symm
          refine lv_istore (lv' := [(8, .int x42), (7, .int x35), (6, .int x23), (5, .int x8), (4, va_re ad (s2.2.2 b5 13)), (3, .int s2.1), (0, .ref (ad a)), (1, .int p0), (2, .int p1)]) hx hb dX1_readVectors_182 hl (by decide) rfl (fun ls hl => ?_)
          refine lv_iload hx hb dX1_readVectors_184 (lv_at hl 0 rfl) ?_
          refine lv_sipush (v := (-2048 : Int32)) hx hb dX1_readVectors_186 (by decide) ?_
          obtain ⟨y43, hy43, hF⟩ := bnd_some hF
          have J43 : ∀ (H : Heap) (locs : List Loc) (ls : Array Slot), va_P D classes (wld ct ad G y43) H → va_D A (wld ct ad G y43) → va_S A s.heap H locs → lv_has ls 9 [(8, .int x42), (7, .int x35), (6, .int x23), (5, .int x8), (4, va_re ad (s2.2.2 b5 13)), (3, .int s2.1), (0, .ref (ad a)), (1, .int p0), (2, .int p1)] → W p l e (headSpec wuX1_readVectors ({ frames := 2, cells := 0, slots := 0, locals := 69 })).room s m ([.ref (ad a), .int p0, .int p1] : List Value).toArray below meth c H locs 0 0 (MQ below (va_Qv (fun (_ : Unit) => True) (fun _ t => kE D ct ad G A y t) A) ([.ref (ad a), .int p0, .int p1] : List Value).toArray s 0 0 A) (F0 m 192 ls []) := by
            intro H locs ls hP hD hS hl
            refine lv_iload hx hb dX1_readVectors_192 (lv_at hl 0 rfl) ?_
            refine lv_sipush (v := (2047 : Int32)) hx hb dX1_readVectors_194 (by decide) ?_
            obtain ⟨y44, hy44, hF⟩ := bnd_some hF
            have J44 : ∀ (H : Heap) (locs : List Loc) (ls : Array Slot), va_P D classes (wld ct ad G y44) H → va_D A (wld ct ad G y44) → va_S A s.heap H locs → lv_has ls 9 [(8, .int x42), (7, .int x35), (6, .int x23), (5, .int x8), (4, va_re ad (s2.2.2 b5 13)), (3, .int s2.1), (0, .ref (ad a)), (1, .int p0), (2, .int p1)] → W p l e (headSpec wuX1_readVectors ({ frames := 2, cells := 0, slots := 0, locals := 69 })).room s m ([.ref (ad a), .int p0, .int p1] : List Value).toArray below meth c H locs 0 0 (MQ below (va_Qv (fun (_ : Unit) => True) (fun _ t => kE D ct ad G A y t) A) ([.ref (ad a), .int p0, .int p1] : List Value).toArray s 0 0 A) (F0 m 215 ls []) := by
              intro H locs ls hP hD hS hl
              refine lv_aload_n hx hb dX1_readVectors_215 rfl (lv_at hl 6 rfl) ?_
              refine va_get (D := D) (ci := 1) (v := va_re ad (y44.2 a 2)) (C := RX1) (T := TX1) (N := 22) hx hb hts (mus hf_X1) hown hK hP a (wld_o ct ad G y44 hc hk (by decide)) rfl 2 (by decide) (hts (.fieldLink RX1 28 "VideoSuite$Decoder" "work" "LVideoSuite$Work;") (mu mw_644)) (fun _ h9 => h9) rfl dX1_readVectors_216 ?_
              refine lv_iload_n hx hb dX1_readVectors_219 rfl (lv_at hl 7 rfl) ?_
              refine lv_iload_n hx hb dX1_readVectors_220 rfl (lv_at hl 8 rfl) ?_
              refine lv_iload_n hx hb dX1_readVectors_221 rfl (lv_at hl 5 rfl) ?_
              refine lv_iload hx hb dX1_readVectors_222 (lv_at hl 1 rfl) ?_
              refine lv_iload hx hb dX1_readVectors_224 (lv_at hl 0 rfl) ?_
              obtain ⟨b45, ho45, hc45, hk45, hF⟩ := dr_some hF
              refine W_st (st' := [.int x42, .int x35, .int s2.1, .int p1, .int p0, .ref (ad b45)]) (by rw [va_some ho45]) ?_
              obtain ⟨y46, hy46, hF⟩ := bnd_some hF
              have hf9 := wA_in hD hA9 hS
              refine va_callv (va_runV (As := [.int p0, .int p1, .int s2.1, .int x35, .int x42]) (rest := []) ⟨hx, hb, hml, hown, hts⟩ (kX9_setMove l D ct ad Z G y44 H.size b45 p0 p1 s2.1 x35 x42 y46 hc45 hk45 hy46) (cwV 5 hts gX1_readVectors_X9_setMove rfl rfl rfl (by decide +kernel) ⟨Nat.le_of_ble_eq_true rfl, Nat.le_of_ble_eq_true rfl⟩) ⟨fun a U g mk q => by obtain ⟨q0, q1, qP, qK, qD, qZ, qN⟩ := q; exact ⟨q0, q1, qP, va_K.moved (u := U) (U := U.calling g mk a) (Vm.Alike.refl U.vm) qK, qD, sF.moved (u := U) (U := U.calling g mk a) (Vm.Alike.refl U.vm) qZ, nF.same rfl qN⟩, va_recv hK hP (ci := 9) (q0 := b45) rfl (wld_o ct ad G y44 hc45 hk45 (by decide)), fun U hU hW => ⟨rfl, by rw [hU], by rw [hU]; exact hP, va_K.moved hW.alike hK, hD.weaken (fun _ _ _ _ => trivial), by rw [hU]; exact ((hZ.kept hS.2.1).narrow hf9).moved hW.alike, hN.warm hW⟩⟩ rfl rfl hl.1 rfl (lv_room (Nat.le_of_ble_eq_true rfl)) dX1_readVectors_226 ⟨(Nat.zero_le _), (Nat.zero_le _)⟩) hS (fun q _ h => hf9 q h) hf9 (fun u t H locs ht hvm hw hB hz1 hk1 hS => ?_)
              obtain ⟨hP, hK9, hD9⟩ := hB
              rw [ht] at hP
              have hD := hD9.weaken (fun _ q _ h => hf9 q.1 h)
              obtain rfl := Option.some.inj hF
              exact J14 _ _ _ hP hD hS (lv_sub hl [3, 4, 5, 6, 7, 8] rfl)
            clear hF
            have hF := hy44
            clear hy44
            refine lv_icmp_le (tgt := 215) hx hb dX1_readVectors_197 (by decide) (fun c47 => ?_) (fun c47 => ?_)
            · rw [if_pos c47] at hF
              obtain rfl := Option.some.inj hF
              exact J44 _ _ _ hP hD hS (lv_sub hl [0, 1, 2, 3, 4, 5, 6, 7, 8] rfl)
            · rw [if_neg c47] at hF
              refine lv_aload_n hx hb dX1_readVectors_200 rfl (lv_at hl 6 rfl) ?_
              refine va_get (D := D) (ci := 1) (v := va_re ad (y43.2 a 0)) (C := RX1) (T := TX1) (N := 22) hx hb hts (mus hf_X1) hown hK hP a (wld_o ct ad G y43 hc hk (by decide)) rfl 0 (by decide) (hts (.fieldLink RX1 12 "VideoSuite$Decoder" "reader" "LVideoSuite$Reader;") (mu mw_640)) (fun _ h9 => h9) rfl dX1_readVectors_201 ?_
              refine lv_iconst (v := (2 : Int32)) hx hb dX1_readVectors_204 (by decide) ?_
              refine lv_aload_n hx hb dX1_readVectors_205 rfl (lv_at hl 6 rfl) ?_
              refine va_get (D := D) (ci := 1) (v := va_re ad (y43.2 a 0)) (C := RX1) (T := TX1) (N := 22) hx hb hts (mus hf_X1) hown hK hP a (wld_o ct ad G y43 hc hk (by decide)) rfl 0 (by decide) (hts (.fieldLink RX1 12 "VideoSuite$Decoder" "reader" "LVideoSuite$Reader;") (mu mw_640)) (fun _ h9 => h9) rfl dX1_readVectors_206 ?_
              obtain ⟨b48, ho48, hc48, hk48, hF⟩ := dr_some hF
              refine W_st (st' := [.ref (ad b48), .int (2 : Int32), .ref (ad b48)]) (by rw [va_some ho48]) ?_
              refine va_get (D := D) (ci := 5) (v := .int (y43.1 b48 4)) (C := RX5) (T := TX5) (N := 17) hx hb hts (mus hf_X5) hown hK hP b48 (wld_o ct ad G y43 hc48 hk48 (by decide)) rfl 4 (by decide) (hts (.fieldLink RX1 194 "VideoSuite$Reader" "begin" "I") (mu mw_293)) (fun _ h9 => h9) rfl dX1_readVectors_209 ?_
              obtain ⟨x49, ex49, hF⟩ := ltt_some hF
              refine lv_topi (fun zx49 ezx49 => ?_)
              obtain rfl : x49 = zx49 := ex49.trans ezx49.symm
              cases hF
          clear hF
          have hF := hy43
          clear hy43
          refine lv_icmp_lt (tgt := 200) hx hb dX1_readVectors_189 (by decide) (fun c50 => ?_) (fun c50 => ?_)
          · rw [if_pos c50] at hF
            refine lv_aload_n hx hb dX1_readVectors_200 rfl (lv_at hl 6 rfl) ?_
            refine va_get (D := D) (ci := 1) (v := va_re ad (y41.1.2 a 0)) (C := RX1) (T := TX1) (N := 22) hx hb hts (mus hf_X1) hown hK hP a (wld_o ct ad G y41.1 hc hk (by decide)) rfl 0 (by decide) (hts (.fieldLink RX1 12 "VideoSuite$Decoder" "reader" "LVideoSuite$Reader;") (mu mw_640)) (fun _ h9 => h9) rfl dX1_readVectors_201 ?_
            refine lv_iconst (v := (2 : Int32)) hx hb dX1_readVectors_204 (by decide) ?_
            refine lv_aload_n hx hb dX1_readVectors_205 rfl (lv_at hl 6 rfl) ?_
            refine va_get (D := D) (ci := 1) (v := va_re ad (y41.1.2 a 0)) (C := RX1) (T := TX1) (N := 22) hx hb hts (mus hf_X1) hown hK hP a (wld_o ct ad G y41.1 hc hk (by decide)) rfl 0 (by decide) (hts (.fieldLink RX1 12 "VideoSuite$Decoder" "reader" "LVideoSuite$Reader;") (mu mw_640)) (fun _ h9 => h9) rfl dX1_readVectors_206 ?_
            obtain ⟨b51, ho51, hc51, hk51, hF⟩ := dr_some hF
            refine W_st (st' := [.ref (ad b51), .int (2 : Int32), .ref (ad b51)]) (by rw [va_some ho51]) ?_
            refine va_get (D := D) (ci := 5) (v := .int (y41.1.1 b51 4)) (C := RX5) (T := TX5) (N := 17) hx hb hts (mus hf_X5) hown hK hP b51 (wld_o ct ad G y41.1 hc51 hk51 (by decide)) rfl 4 (by decide) (hts (.fieldLink RX1 194 "VideoSuite$Reader" "begin" "I") (mu mw_293)) (fun _ h9 => h9) rfl dX1_readVectors_209 ?_
            obtain ⟨x52, ex52, hF⟩ := ltt_some hF
            refine lv_topi (fun zx52 ezx52 => ?_)
            obtain rfl : x52 = zx52 := ex52.trans ezx52.symm
            cases hF
          · rw [if_neg c50] at hF
            obtain rfl := Option.some.inj hF
            exact J43 _ _ _ hP hD hS (lv_sub hl [0, 1, 2, 3, 4, 5, 6, 7, 8] rfl)
        clear hF
        have hF := hy37
        clear hy37
        refine lv_icmp_le (tgt := 158) hx hb dX1_readVectors_140 (by decide) (fun c53 => ?_) (fun c53 => ?_)
        · rw [if_pos c53] at hF
          obtain rfl := Option.some.inj hF
          exact J37 _ _ _ hP hD hS (lv_sub hl [0, 1, 2, 3, 4, 5, 6, 7] rfl)
        · rw [if_neg c53] at hF
          refine lv_aload_n hx hb dX1_readVectors_143 rfl (lv_at hl 5 rfl) ?_
          refine va_get (D := D) (ci := 1) (v := va_re ad (y36.2 a 0)) (C := RX1) (T := TX1) (N := 22) hx hb hts (mus hf_X1) hown hK hP a (wld_o ct ad G y36 hc hk (by decide)) rfl 0 (by decide) (hts (.fieldLink RX1 12 "VideoSuite$Decoder" "reader" "LVideoSuite$Reader;") (mu mw_640)) (fun _ h9 => h9) rfl dX1_readVectors_144 ?_
          refine lv_iconst (v := (2 : Int32)) hx hb dX1_readVectors_147 (by decide) ?_
          refine lv_aload_n hx hb dX1_readVectors_148 rfl (lv_at hl 5 rfl) ?_
          refine va_get (D := D) (ci := 1) (v := va_re ad (y36.2 a 0)) (C := RX1) (T := TX1) (N := 22) hx hb hts (mus hf_X1) hown hK hP a (wld_o ct ad G y36 hc hk (by decide)) rfl 0 (by decide) (hts (.fieldLink RX1 12 "VideoSuite$Decoder" "reader" "LVideoSuite$Reader;") (mu mw_640)) (fun _ h9 => h9) rfl dX1_readVectors_149 ?_
          obtain ⟨b54, ho54, hc54, hk54, hF⟩ := dr_some hF
          refine W_st (st' := [.ref (ad b54), .int (2 : Int32), .ref (ad b54)]) (by rw [va_some ho54]) ?_
          refine va_get (D := D) (ci := 5) (v := .int (y36.1 b54 4)) (C := RX5) (T := TX5) (N := 17) hx hb hts (mus hf_X5) hown hK hP b54 (wld_o ct ad G y36 hc54 hk54 (by decide)) rfl 4 (by decide) (hts (.fieldLink RX1 194 "VideoSuite$Reader" "begin" "I") (mu mw_293)) (fun _ h9 => h9) rfl dX1_readVectors_152 ?_
          obtain ⟨x55, ex55, hF⟩ := ltt_some hF
          refine lv_topi (fun zx55 ezx55 => ?_)
          obtain rfl : x55 = zx55 := ex55.trans ezx55.symm
          cases hF
      clear hF
      have hF := hy36
      clear hy36
      refine lv_icmp_lt (tgt := 143) hx hb dX1_readVectors_132 (by decide) (fun c56 => ?_) (fun c56 => ?_)
      · rw [if_pos c56] at hF
        refine lv_aload_n hx hb dX1_readVectors_143 rfl (lv_at hl 5 rfl) ?_
        refine va_get (D := D) (ci := 1) (v := va_re ad (y34.1.2 a 0)) (C := RX1) (T := TX1) (N := 22) hx hb hts (mus hf_X1) hown hK hP a (wld_o ct ad G y34.1 hc hk (by decide)) rfl 0 (by decide) (hts (.fieldLink RX1 12 "VideoSuite$Decoder" "reader" "LVideoSuite$Reader;") (mu mw_640)) (fun _ h9 => h9) rfl dX1_readVectors_144 ?_
        refine lv_iconst (v := (2 : Int32)) hx hb dX1_readVectors_147 (by decide) ?_
        refine lv_aload_n hx hb dX1_readVectors_148 rfl (lv_at hl 5 rfl) ?_
        refine va_get (D := D) (ci := 1) (v := va_re ad (y34.1.2 a 0)) (C := RX1) (T := TX1) (N := 22) hx hb hts (mus hf_X1) hown hK hP a (wld_o ct ad G y34.1 hc hk (by decide)) rfl 0 (by decide) (hts (.fieldLink RX1 12 "VideoSuite$Decoder" "reader" "LVideoSuite$Reader;") (mu mw_640)) (fun _ h9 => h9) rfl dX1_readVectors_149 ?_
        obtain ⟨b57, ho57, hc57, hk57, hF⟩ := dr_some hF
        refine W_st (st' := [.ref (ad b57), .int (2 : Int32), .ref (ad b57)]) (by rw [va_some ho57]) ?_
        refine va_get (D := D) (ci := 5) (v := .int (y34.1.1 b57 4)) (C := RX5) (T := TX5) (N := 17) hx hb hts (mus hf_X5) hown hK hP b57 (wld_o ct ad G y34.1 hc57 hk57 (by decide)) rfl 4 (by decide) (hts (.fieldLink RX1 194 "VideoSuite$Reader" "begin" "I") (mu mw_293)) (fun _ h9 => h9) rfl dX1_readVectors_152 ?_
        obtain ⟨x58, ex58, hF⟩ := ltt_some hF
        refine lv_topi (fun zx58 ezx58 => ?_)
        obtain rfl : x58 = zx58 := ex58.trans ezx58.symm
        cases hF
      · rw [if_neg c56] at hF
        obtain rfl := Option.some.inj hF
        exact J36 _ _ _ hP hD hS (lv_sub hl [0, 1, 2, 3, 4, 5, 6, 7] rfl)
    · rw [if_pos c16] at hF
      refine lv_goto (tgt := 229) hx hb dX1_readVectors_41 (by decide) ?_
      obtain rfl := Option.some.inj hF
      exact J14 _ _ _ hP hD hS (lv_sub hl [0, 1, 2, 3, 4, 5] rfl)
set_option maxRecDepth 20000 in
theorem gX1_signed_X5_number : GoodIn wuX1_signed (wsV RX1 179 RX5 yX5_number wuX5_number) := gu_V mw_1327 mw_1328 mw_1329 mw_169 mw_1330
theorem dX1_signed_0 : decode cX1_signed 0 = .ok (.aload_n 0, 1) := by decide +kernel
theorem dX1_signed_1 : decode cX1_signed 1 = .ok (.getfield 12, 3) := by decide +kernel
theorem dX1_signed_4 : decode cX1_signed 4 = .ok (.iconst 0, 1) := by decide +kernel
theorem dX1_signed_5 : decode cX1_signed 5 = .ok (.iconst 1, 1) := by decide +kernel
theorem dX1_signed_6 : decode cX1_signed 6 = .ok (.iload_n 1, 1) := by decide +kernel
theorem dX1_signed_7 : decode cX1_signed 7 = .ok (.i2l, 1) := by decide +kernel
theorem dX1_signed_8 : decode cX1_signed 8 = .ok (.iload_n 2, 1) := by decide +kernel
theorem dX1_signed_9 : decode cX1_signed 9 = .ok (.i2l, 1) := by decide +kernel
theorem dX1_signed_10 : decode cX1_signed 10 = .ok (.invokevirtual 179, 3) := by decide +kernel
theorem dX1_signed_13 : decode cX1_signed 13 = .ok (.ireturn, 1) := by decide +kernel
def FX1_signed (G : GG) (M : DD) (a : Nat) (p0 : Int32) (p1 : Int32) : Option (DD × Int32) :=
  ltt (p0.toInt64) fun x1 =>
  ltt (p1.toInt64) fun x2 =>
  dr G 5 ((M.2 a 0)) fun b3 =>
  bnd (FX5_number G M b3 ((0 : Int32)) ((1 : Int32)) x1 x2) fun y4 =>
  some (y4.1, y4.2)
set_option maxHeartbeats 4000000 in
set_option maxRecDepth 100000 in
theorem kX1_signed (l : Launch) (D : va_G) (ct : CT) (ad : Nat → Nat) (Z : Nat → Nat) (G : GG) (M : DD) (sz : Nat) (a : Nat) (p0 : Int32) (p1 : Int32) (y : DD × Int32) (hc : a < G.1) (hk : G.2.1 a = 1) (hF : FX1_signed G M a p0 p1 = some y) : Met l yX1_signed wuX1_signed ({ frames := 2, cells := 0, slots := 0, locals := 59 }) (va_Pc [.ref (ad a), .int p0, .int p1] (kB D ct ad Z G M sz)) (va_Qi (fun (q : Int32) (_ : Unit) => q = y.2) (fun _ t => kE D ct ad G (wA ad G sz) y.1 t) (wA ad G sz)) 0 0 (wA ad G sz) := by
  refine Met.ofW (cc := cX1_signed) (maxL := 3) (ret := (some .int)) (by decide) rfl ?_
  intro p e s m args below meth c s₁ B hml hv
  obtain ⟨rfl, hsz, hP, hK, hD0, hZ, hN⟩ := hv
  have hx := B.exec
  have hb := B.bytes
  have hr := B.returns
  have hts := atoms_spec (ws := wuX1_signed) B.pre
  have hown : s.vm.findClass RX1 = some m.cls := findClass_of_methodNamed B.named
  have hlocks := B.notSynchronized
  subst hsz
  have hD := wD_self (sz := s.heap.size) hD0
  have hA9 : ∀ q, s.heap.size ≤ q → wA ad G s.heap.size q := fun q h => Or.inr h
  generalize hAe : wA ad G s.heap.size = A at hD hA9 hZ ⊢
  have hS : va_S A s.heap s.heap [] := va_S.rf
  have hl := lv_entry ([.ref (ad a), .int p0, .int p1]) (n := 3) (Nat.le_of_ble_eq_true rfl)
  rw [lg_entry_eq]
  generalize (lg_sl ([.ref (ad a), .int p0, .int p1]) ++ List.replicate (3 - (lg_sl ([.ref (ad a), .int p0, .int p1])).length) Slot.unset).toArray = ls at hl ⊢
  have hl : lv_has ls 3 [(0, .ref (ad a)), (1, .int p0), (2, .int p1)] := hl
  unfold FX1_signed at hF
  refine lv_aload_n hx hb dX1_signed_0 rfl (lv_at hl 0 rfl) ?_
  refine va_get (D := D) (ci := 1) (v := va_re ad (M.2 a 0)) (C := RX1) (T := TX1) (N := 22) hx hb hts (mus hf_X1) hown hK hP a (wld_o ct ad G M hc hk (by decide)) rfl 0 (by decide) (hts (.fieldLink RX1 12 "VideoSuite$Decoder" "reader" "LVideoSuite$Reader;") (mu mw_640)) (fun _ h9 => h9) rfl dX1_signed_1 ?_
  refine lv_iconst (v := (0 : Int32)) hx hb dX1_signed_4 (by decide) ?_
  refine lv_iconst (v := (1 : Int32)) hx hb dX1_signed_5 (by decide) ?_
  refine lv_iload_n hx hb dX1_signed_6 rfl (lv_at hl 1 rfl) ?_
  refine lv_i2l (v := p0.toInt64) hx hb dX1_signed_7 rfl ?_
  obtain ⟨x1, ex1, hF⟩ := ltt_some hF
  refine lv_topl (fun zx1 ezx1 => ?_)
  obtain rfl : x1 = zx1 := ex1.trans ezx1.symm
  refine lv_iload_n hx hb dX1_signed_8 rfl (lv_at hl 2 rfl) ?_
  refine lv_i2l (v := p1.toInt64) hx hb dX1_signed_9 rfl ?_
  obtain ⟨x2, ex2, hF⟩ := ltt_some hF
  refine lv_topl (fun zx2 ezx2 => ?_)
  obtain rfl : x2 = zx2 := ex2.trans ezx2.symm
  obtain ⟨b3, ho3, hc3, hk3, hF⟩ := dr_some hF
  refine W_st (st' := [.long x2, .long x1, .int (1 : Int32), .int (0 : Int32), .ref (ad b3)]) (by rw [va_some ho3]) ?_
  obtain ⟨y4, hy4, hF⟩ := bnd_some hF
  have hf9 := wA_in hD hA9 hS
  refine va_calli (va_runV (As := [.int (0 : Int32), .int (1 : Int32), .long x1, .long x2]) (rest := []) ⟨hx, hb, hml, hown, hts⟩ (kX5_number l D ct ad Z G M s.heap.size b3 ((0 : Int32)) ((1 : Int32)) x1 x2 y4 hc3 hk3 hy4) (cwV 4 hts gX1_signed_X5_number rfl rfl rfl (by decide +kernel) ⟨Nat.le_of_ble_eq_true rfl, Nat.le_of_ble_eq_true rfl⟩) ⟨fun a U g mk q => by obtain ⟨q0, q1, qP, qK, qD, qZ, qN⟩ := q; exact ⟨q0, q1, qP, va_K.moved (u := U) (U := U.calling g mk a) (Vm.Alike.refl U.vm) qK, qD, sF.moved (u := U) (U := U.calling g mk a) (Vm.Alike.refl U.vm) qZ, nF.same rfl qN⟩, va_recv hK hP (ci := 5) (q0 := b3) rfl (wld_o ct ad G M hc3 hk3 (by decide)), fun U hU hW => ⟨rfl, by rw [hU], by rw [hU]; exact hP, va_K.moved hW.alike hK, hD.weaken (fun _ _ _ _ => trivial), by rw [hU]; exact ((hZ.kept hS.2.1).narrow hf9).moved hW.alike, hN.warm hW⟩⟩ rfl rfl hl.1 rfl (lv_room (Nat.le_of_ble_eq_true rfl)) dX1_signed_10 ⟨(Nat.zero_le _), (Nat.zero_le _)⟩) hS (fun q _ h => hf9 q h) hf9 (fun r u t H locs ht hvm hw hB hz1 hk1 hS => ?_)
  obtain ⟨hP, hK9, hD9⟩ := hB
  rw [ht] at hP
  try dsimp only at hw
  subst hw
  have hD := hD9.weaken (fun _ q _ h => hf9 q.1 h)
  obtain rfl := Option.some.inj hF
  exact W.iret (v := y4.2) hx hb hr (fun t ht hW => ⟨⟨_, (), rfl, rfl, ⟨by rw [ht]; exact hP, va_K.moved hW.alike hK, hD⟩⟩, hS.F ht⟩) hS.2.2 dX1_signed_13
set_option maxRecDepth 20000 in
theorem gX1_unsigned_X5_number : GoodIn wuX1_unsigned (wsV RX1 179 RX5 yX5_number wuX5_number) := gu_V mw_1327 mw_1328 mw_1329 mw_169 mw_1330
theorem dX1_unsigned_0 : decode cX1_unsigned 0 = .ok (.aload_n 0, 1) := by decide +kernel
theorem dX1_unsigned_1 : decode cX1_unsigned 1 = .ok (.getfield 12, 3) := by decide +kernel
theorem dX1_unsigned_4 : decode cX1_unsigned 4 = .ok (.iconst 0, 1) := by decide +kernel
theorem dX1_unsigned_5 : decode cX1_unsigned 5 = .ok (.iconst 0, 1) := by decide +kernel
theorem dX1_unsigned_6 : decode cX1_unsigned 6 = .ok (.lconst 0, 1) := by decide +kernel
theorem dX1_unsigned_7 : decode cX1_unsigned 7 = .ok (.iload_n 1, 1) := by decide +kernel
theorem dX1_unsigned_8 : decode cX1_unsigned 8 = .ok (.i2l, 1) := by decide +kernel
theorem dX1_unsigned_9 : decode cX1_unsigned 9 = .ok (.invokevirtual 179, 3) := by decide +kernel
theorem dX1_unsigned_12 : decode cX1_unsigned 12 = .ok (.ireturn, 1) := by decide +kernel
def FX1_unsigned (G : GG) (M : DD) (a : Nat) (p0 : Int32) : Option (DD × Int32) :=
  ltt (p0.toInt64) fun x1 =>
  dr G 5 ((M.2 a 0)) fun b2 =>
  bnd (FX5_number G M b2 ((0 : Int32)) ((0 : Int32)) ((0 : Int64)) x1) fun y3 =>
  some (y3.1, y3.2)
set_option maxHeartbeats 4000000 in
set_option maxRecDepth 100000 in
theorem kX1_unsigned (l : Launch) (D : va_G) (ct : CT) (ad : Nat → Nat) (Z : Nat → Nat) (G : GG) (M : DD) (sz : Nat) (a : Nat) (p0 : Int32) (y : DD × Int32) (hc : a < G.1) (hk : G.2.1 a = 1) (hF : FX1_unsigned G M a p0 = some y) : Met l yX1_unsigned wuX1_unsigned ({ frames := 2, cells := 0, slots := 0, locals := 59 }) (va_Pc [.ref (ad a), .int p0] (kB D ct ad Z G M sz)) (va_Qi (fun (q : Int32) (_ : Unit) => q = y.2) (fun _ t => kE D ct ad G (wA ad G sz) y.1 t) (wA ad G sz)) 0 0 (wA ad G sz) := by
  refine Met.ofW (cc := cX1_unsigned) (maxL := 2) (ret := (some .int)) (by decide) rfl ?_
  intro p e s m args below meth c s₁ B hml hv
  obtain ⟨rfl, hsz, hP, hK, hD0, hZ, hN⟩ := hv
  have hx := B.exec
  have hb := B.bytes
  have hr := B.returns
  have hts := atoms_spec (ws := wuX1_unsigned) B.pre
  have hown : s.vm.findClass RX1 = some m.cls := findClass_of_methodNamed B.named
  have hlocks := B.notSynchronized
  subst hsz
  have hD := wD_self (sz := s.heap.size) hD0
  have hA9 : ∀ q, s.heap.size ≤ q → wA ad G s.heap.size q := fun q h => Or.inr h
  generalize hAe : wA ad G s.heap.size = A at hD hA9 hZ ⊢
  have hS : va_S A s.heap s.heap [] := va_S.rf
  have hl := lv_entry ([.ref (ad a), .int p0]) (n := 2) (Nat.le_of_ble_eq_true rfl)
  rw [lg_entry_eq]
  generalize (lg_sl ([.ref (ad a), .int p0]) ++ List.replicate (2 - (lg_sl ([.ref (ad a), .int p0])).length) Slot.unset).toArray = ls at hl ⊢
  have hl : lv_has ls 2 [(0, .ref (ad a)), (1, .int p0)] := hl
  unfold FX1_unsigned at hF
  refine lv_aload_n hx hb dX1_unsigned_0 rfl (lv_at hl 0 rfl) ?_
  refine va_get (D := D) (ci := 1) (v := va_re ad (M.2 a 0)) (C := RX1) (T := TX1) (N := 22) hx hb hts (mus hf_X1) hown hK hP a (wld_o ct ad G M hc hk (by decide)) rfl 0 (by decide) (hts (.fieldLink RX1 12 "VideoSuite$Decoder" "reader" "LVideoSuite$Reader;") (mu mw_640)) (fun _ h9 => h9) rfl dX1_unsigned_1 ?_
  refine lv_iconst (v := (0 : Int32)) hx hb dX1_unsigned_4 (by decide) ?_
  refine lv_iconst (v := (0 : Int32)) hx hb dX1_unsigned_5 (by decide) ?_
  refine lv_lconst (v := (0 : Int64)) hx hb dX1_unsigned_6 rfl ?_
  refine lv_iload_n hx hb dX1_unsigned_7 rfl (lv_at hl 1 rfl) ?_
  refine lv_i2l (v := p0.toInt64) hx hb dX1_unsigned_8 rfl ?_
  obtain ⟨x1, ex1, hF⟩ := ltt_some hF
  refine lv_topl (fun zx1 ezx1 => ?_)
  obtain rfl : x1 = zx1 := ex1.trans ezx1.symm
  obtain ⟨b2, ho2, hc2, hk2, hF⟩ := dr_some hF
  refine W_st (st' := [.long x1, .long (0 : Int64), .int (0 : Int32), .int (0 : Int32), .ref (ad b2)]) (by rw [va_some ho2]) ?_
  obtain ⟨y3, hy3, hF⟩ := bnd_some hF
  have hf9 := wA_in hD hA9 hS
  refine va_calli (va_runV (As := [.int (0 : Int32), .int (0 : Int32), .long (0 : Int64), .long x1]) (rest := []) ⟨hx, hb, hml, hown, hts⟩ (kX5_number l D ct ad Z G M s.heap.size b2 ((0 : Int32)) ((0 : Int32)) ((0 : Int64)) x1 y3 hc2 hk2 hy3) (cwV 4 hts gX1_unsigned_X5_number rfl rfl rfl (by decide +kernel) ⟨Nat.le_of_ble_eq_true rfl, Nat.le_of_ble_eq_true rfl⟩) ⟨fun a U g mk q => by obtain ⟨q0, q1, qP, qK, qD, qZ, qN⟩ := q; exact ⟨q0, q1, qP, va_K.moved (u := U) (U := U.calling g mk a) (Vm.Alike.refl U.vm) qK, qD, sF.moved (u := U) (U := U.calling g mk a) (Vm.Alike.refl U.vm) qZ, nF.same rfl qN⟩, va_recv hK hP (ci := 5) (q0 := b2) rfl (wld_o ct ad G M hc2 hk2 (by decide)), fun U hU hW => ⟨rfl, by rw [hU], by rw [hU]; exact hP, va_K.moved hW.alike hK, hD.weaken (fun _ _ _ _ => trivial), by rw [hU]; exact ((hZ.kept hS.2.1).narrow hf9).moved hW.alike, hN.warm hW⟩⟩ rfl rfl hl.1 rfl (lv_room (Nat.le_of_ble_eq_true rfl)) dX1_unsigned_9 ⟨(Nat.zero_le _), (Nat.zero_le _)⟩) hS (fun q _ h => hf9 q h) hf9 (fun r u t H locs ht hvm hw hB hz1 hk1 hS => ?_)
  obtain ⟨hP, hK9, hD9⟩ := hB
  rw [ht] at hP
  try dsimp only at hw
  subst hw
  have hD := hD9.weaken (fun _ q _ h => hf9 q.1 h)
  obtain rfl := Option.some.inj hF
  exact W.iret (v := y3.2) hx hb hr (fun t ht hW => ⟨⟨_, (), rfl, rfl, ⟨by rw [ht]; exact hP, va_K.moved hW.alike hK, hD⟩⟩, hS.F ht⟩) hS.2.2 dX1_unsigned_12
set_option maxRecDepth 20000 in
theorem gX2_filterEdge_X2_setThresholds : GoodIn wuX2_filterEdge (wsV RX2 96 RX2 yX2_setThresholds wuX2_setThresholds) := gu_V mw_970 mw_972 mw_6 mw_173 mw_973
set_option maxRecDepth 20000 in
set_option maxRecDepth 20000 in
theorem gX2_filterEdge_X2_filterLine : GoodIn wuX2_filterEdge (wsV RX2 100 RX2 yX2_filterLine wuX2_filterLine) := gu_V mw_985 mw_987 mw_7 mw_173 mw_988
theorem dX2_filterEdge_0 : decode cX2_filterEdge 0 = .ok (.aload_n 1, 1) := by decide +kernel
theorem dX2_filterEdge_1 : decode cX2_filterEdge 1 = .ok (.getfield 15, 3) := by decide +kernel
theorem dX2_filterEdge_4 : decode cX2_filterEdge 4 = .ok (.astore 6, 2) := by decide +kernel
theorem dX2_filterEdge_6 : decode cX2_filterEdge 6 = .ok (.iload_n 3, 1) := by decide +kernel
theorem dX2_filterEdge_7 : decode cX2_filterEdge 7 = .ok (.ifCond .ne 8, 3) := by decide +kernel
theorem dX2_filterEdge_10 : decode cX2_filterEdge 10 = .ok (.bipush 16, 2) := by decide +kernel
theorem dX2_filterEdge_12 : decode cX2_filterEdge 12 = .ok (.goto 5, 3) := by decide +kernel
theorem dX2_filterEdge_15 : decode cX2_filterEdge 15 = .ok (.bipush 8, 2) := by decide +kernel
theorem dX2_filterEdge_17 : decode cX2_filterEdge 17 = .ok (.istore 7, 2) := by decide +kernel
theorem dX2_filterEdge_19 : decode cX2_filterEdge 19 = .ok (.iload 5, 2) := by decide +kernel
theorem dX2_filterEdge_21 : decode cX2_filterEdge 21 = .ok (.ifCond .le 7, 3) := by decide +kernel
theorem dX2_filterEdge_24 : decode cX2_filterEdge 24 = .ok (.iload_n 2, 1) := by decide +kernel
theorem dX2_filterEdge_25 : decode cX2_filterEdge 25 = .ok (.goto 21, 3) := by decide +kernel
theorem dX2_filterEdge_28 : decode cX2_filterEdge 28 = .ok (.iload 4, 2) := by decide +kernel
theorem dX2_filterEdge_30 : decode cX2_filterEdge 30 = .ok (.ifCond .ne 9, 3) := by decide +kernel
theorem dX2_filterEdge_33 : decode cX2_filterEdge 33 = .ok (.iload_n 2, 1) := by decide +kernel
theorem dX2_filterEdge_34 : decode cX2_filterEdge 34 = .ok (.iconst 1, 1) := by decide +kernel
theorem dX2_filterEdge_35 : decode cX2_filterEdge 35 = .ok (.isub, 1) := by decide +kernel
theorem dX2_filterEdge_36 : decode cX2_filterEdge 36 = .ok (.goto 10, 3) := by decide +kernel
theorem dX2_filterEdge_39 : decode cX2_filterEdge 39 = .ok (.iload_n 2, 1) := by decide +kernel
theorem dX2_filterEdge_40 : decode cX2_filterEdge 40 = .ok (.aload 6, 2) := by decide +kernel
theorem dX2_filterEdge_42 : decode cX2_filterEdge 42 = .ok (.getfield 49, 3) := by decide +kernel
theorem dX2_filterEdge_45 : decode cX2_filterEdge 45 = .ok (.isub, 1) := by decide +kernel
theorem dX2_filterEdge_46 : decode cX2_filterEdge 46 = .ok (.istore 8, 2) := by decide +kernel
theorem dX2_filterEdge_48 : decode cX2_filterEdge 48 = .ok (.iload 5, 2) := by decide +kernel
theorem dX2_filterEdge_50 : decode cX2_filterEdge 50 = .ok (.ifCond .ne 27, 3) := by decide +kernel
theorem dX2_filterEdge_53 : decode cX2_filterEdge 53 = .ok (.iload 4, 2) := by decide +kernel
theorem dX2_filterEdge_55 : decode cX2_filterEdge 55 = .ok (.ifCond .ne 16, 3) := by decide +kernel
theorem dX2_filterEdge_58 : decode cX2_filterEdge 58 = .ok (.iload_n 2, 1) := by decide +kernel
theorem dX2_filterEdge_59 : decode cX2_filterEdge 59 = .ok (.aload 6, 2) := by decide +kernel
theorem dX2_filterEdge_61 : decode cX2_filterEdge 61 = .ok (.getfield 49, 3) := by decide +kernel
theorem dX2_filterEdge_64 : decode cX2_filterEdge 64 = .ok (.irem, 1) := by decide +kernel
theorem dX2_filterEdge_65 : decode cX2_filterEdge 65 = .ok (.ifCond .ne 12, 3) := by decide +kernel
theorem dX2_filterEdge_68 : decode cX2_filterEdge 68 = .ok (.goto 8, 3) := by decide +kernel
theorem dX2_filterEdge_71 : decode cX2_filterEdge 71 = .ok (.iload 8, 2) := by decide +kernel
theorem dX2_filterEdge_73 : decode cX2_filterEdge 73 = .ok (.ifCond .ge 4, 3) := by decide +kernel
theorem dX2_filterEdge_76 : decode cX2_filterEdge 76 = .ok (.return_, 1) := by decide +kernel
theorem dX2_filterEdge_77 : decode cX2_filterEdge 77 = .ok (.aload_n 0, 1) := by decide +kernel
theorem dX2_filterEdge_78 : decode cX2_filterEdge 78 = .ok (.aload_n 1, 1) := by decide +kernel
theorem dX2_filterEdge_79 : decode cX2_filterEdge 79 = .ok (.iload 8, 2) := by decide +kernel
theorem dX2_filterEdge_81 : decode cX2_filterEdge 81 = .ok (.iload_n 2, 1) := by decide +kernel
theorem dX2_filterEdge_82 : decode cX2_filterEdge 82 = .ok (.iload_n 3, 1) := by decide +kernel
theorem dX2_filterEdge_83 : decode cX2_filterEdge 83 = .ok (.invokevirtual 96, 3) := by decide +kernel
theorem dX2_filterEdge_86 : decode cX2_filterEdge 86 = .ok (.iload 7, 2) := by decide +kernel
theorem dX2_filterEdge_88 : decode cX2_filterEdge 88 = .ok (.aload 6, 2) := by decide +kernel
theorem dX2_filterEdge_90 : decode cX2_filterEdge 90 = .ok (.getfield 49, 3) := by decide +kernel
theorem dX2_filterEdge_93 : decode cX2_filterEdge 93 = .ok (.imul, 1) := by decide +kernel
theorem dX2_filterEdge_94 : decode cX2_filterEdge 94 = .ok (.istore 9, 2) := by decide +kernel
theorem dX2_filterEdge_96 : decode cX2_filterEdge 96 = .ok (.iload 7, 2) := by decide +kernel
theorem dX2_filterEdge_98 : decode cX2_filterEdge 98 = .ok (.iload_n 2, 1) := by decide +kernel
theorem dX2_filterEdge_99 : decode cX2_filterEdge 99 = .ok (.aload 6, 2) := by decide +kernel
theorem dX2_filterEdge_101 : decode cX2_filterEdge 101 = .ok (.getfield 49, 3) := by decide +kernel
theorem dX2_filterEdge_104 : decode cX2_filterEdge 104 = .ok (.idiv, 1) := by decide +kernel
theorem dX2_filterEdge_105 : decode cX2_filterEdge 105 = .ok (.imul, 1) := by decide +kernel
theorem dX2_filterEdge_106 : decode cX2_filterEdge 106 = .ok (.iload 9, 2) := by decide +kernel
theorem dX2_filterEdge_108 : decode cX2_filterEdge 108 = .ok (.imul, 1) := by decide +kernel
theorem dX2_filterEdge_109 : decode cX2_filterEdge 109 = .ok (.iload 7, 2) := by decide +kernel
theorem dX2_filterEdge_111 : decode cX2_filterEdge 111 = .ok (.iload_n 2, 1) := by decide +kernel
theorem dX2_filterEdge_112 : decode cX2_filterEdge 112 = .ok (.aload 6, 2) := by decide +kernel
theorem dX2_filterEdge_114 : decode cX2_filterEdge 114 = .ok (.getfield 49, 3) := by decide +kernel
theorem dX2_filterEdge_117 : decode cX2_filterEdge 117 = .ok (.irem, 1) := by decide +kernel
theorem dX2_filterEdge_118 : decode cX2_filterEdge 118 = .ok (.imul, 1) := by decide +kernel
theorem dX2_filterEdge_119 : decode cX2_filterEdge 119 = .ok (.iadd, 1) := by decide +kernel
theorem dX2_filterEdge_120 : decode cX2_filterEdge 120 = .ok (.iconst 4, 1) := by decide +kernel
theorem dX2_filterEdge_121 : decode cX2_filterEdge 121 = .ok (.iload 5, 2) := by decide +kernel
theorem dX2_filterEdge_123 : decode cX2_filterEdge 123 = .ok (.imul, 1) := by decide +kernel
theorem dX2_filterEdge_124 : decode cX2_filterEdge 124 = .ok (.iload 4, 2) := by decide +kernel
theorem dX2_filterEdge_126 : decode cX2_filterEdge 126 = .ok (.ifCond .ne 7, 3) := by decide +kernel
theorem dX2_filterEdge_129 : decode cX2_filterEdge 129 = .ok (.iconst 1, 1) := by decide +kernel
theorem dX2_filterEdge_130 : decode cX2_filterEdge 130 = .ok (.goto 5, 3) := by decide +kernel
theorem dX2_filterEdge_133 : decode cX2_filterEdge 133 = .ok (.iload 9, 2) := by decide +kernel
theorem dX2_filterEdge_135 : decode cX2_filterEdge 135 = .ok (.imul, 1) := by decide +kernel
theorem dX2_filterEdge_136 : decode cX2_filterEdge 136 = .ok (.iadd, 1) := by decide +kernel
theorem dX2_filterEdge_137 : decode cX2_filterEdge 137 = .ok (.istore 10, 2) := by decide +kernel
theorem dX2_filterEdge_139 : decode cX2_filterEdge 139 = .ok (.iload 4, 2) := by decide +kernel
theorem dX2_filterEdge_141 : decode cX2_filterEdge 141 = .ok (.ifCond .ne 7, 3) := by decide +kernel
theorem dX2_filterEdge_144 : decode cX2_filterEdge 144 = .ok (.iconst 1, 1) := by decide +kernel
theorem dX2_filterEdge_145 : decode cX2_filterEdge 145 = .ok (.goto 5, 3) := by decide +kernel
theorem dX2_filterEdge_148 : decode cX2_filterEdge 148 = .ok (.iload 9, 2) := by decide +kernel
theorem dX2_filterEdge_150 : decode cX2_filterEdge 150 = .ok (.istore 11, 2) := by decide +kernel
theorem dX2_filterEdge_152 : decode cX2_filterEdge 152 = .ok (.iload 4, 2) := by decide +kernel
theorem dX2_filterEdge_154 : decode cX2_filterEdge 154 = .ok (.ifCond .ne 8, 3) := by decide +kernel
theorem dX2_filterEdge_157 : decode cX2_filterEdge 157 = .ok (.iload 9, 2) := by decide +kernel
theorem dX2_filterEdge_159 : decode cX2_filterEdge 159 = .ok (.goto 4, 3) := by decide +kernel
theorem dX2_filterEdge_162 : decode cX2_filterEdge 162 = .ok (.iconst 1, 1) := by decide +kernel
theorem dX2_filterEdge_163 : decode cX2_filterEdge 163 = .ok (.istore 12, 2) := by decide +kernel
theorem dX2_filterEdge_165 : decode cX2_filterEdge 165 = .ok (.iconst 0, 1) := by decide +kernel
theorem dX2_filterEdge_166 : decode cX2_filterEdge 166 = .ok (.istore 13, 2) := by decide +kernel
theorem dX2_filterEdge_168 : decode cX2_filterEdge 168 = .ok (.iload 13, 2) := by decide +kernel
theorem dX2_filterEdge_170 : decode cX2_filterEdge 170 = .ok (.iload 7, 2) := by decide +kernel
theorem dX2_filterEdge_172 : decode cX2_filterEdge 172 = .ok (.if_icmp .ge 158, 3) := by decide +kernel
theorem dX2_filterEdge_175 : decode cX2_filterEdge 175 = .ok (.iload_n 3, 1) := by decide +kernel
theorem dX2_filterEdge_176 : decode cX2_filterEdge 176 = .ok (.ifCond .ne 8, 3) := by decide +kernel
theorem dX2_filterEdge_179 : decode cX2_filterEdge 179 = .ok (.iload 13, 2) := by decide +kernel
theorem dX2_filterEdge_181 : decode cX2_filterEdge 181 = .ok (.goto 7, 3) := by decide +kernel
theorem dX2_filterEdge_184 : decode cX2_filterEdge 184 = .ok (.iconst 2, 1) := by decide +kernel
theorem dX2_filterEdge_185 : decode cX2_filterEdge 185 = .ok (.iload 13, 2) := by decide +kernel
theorem dX2_filterEdge_187 : decode cX2_filterEdge 187 = .ok (.imul, 1) := by decide +kernel
theorem dX2_filterEdge_188 : decode cX2_filterEdge 188 = .ok (.istore 14, 2) := by decide +kernel
theorem dX2_filterEdge_190 : decode cX2_filterEdge 190 = .ok (.iload_n 3, 1) := by decide +kernel
theorem dX2_filterEdge_191 : decode cX2_filterEdge 191 = .ok (.ifCond .ne 10, 3) := by decide +kernel
theorem dX2_filterEdge_194 : decode cX2_filterEdge 194 = .ok (.iconst 4, 1) := by decide +kernel
theorem dX2_filterEdge_195 : decode cX2_filterEdge 195 = .ok (.iload 5, 2) := by decide +kernel
theorem dX2_filterEdge_197 : decode cX2_filterEdge 197 = .ok (.imul, 1) := by decide +kernel
theorem dX2_filterEdge_198 : decode cX2_filterEdge 198 = .ok (.goto 8, 3) := by decide +kernel
theorem dX2_filterEdge_201 : decode cX2_filterEdge 201 = .ok (.bipush 8, 2) := by decide +kernel
theorem dX2_filterEdge_203 : decode cX2_filterEdge 203 = .ok (.iload 5, 2) := by decide +kernel
theorem dX2_filterEdge_205 : decode cX2_filterEdge 205 = .ok (.imul, 1) := by decide +kernel
theorem dX2_filterEdge_206 : decode cX2_filterEdge 206 = .ok (.istore 15, 2) := by decide +kernel
theorem dX2_filterEdge_208 : decode cX2_filterEdge 208 = .ok (.iload 4, 2) := by decide +kernel
theorem dX2_filterEdge_210 : decode cX2_filterEdge 210 = .ok (.ifCond .ne 8, 3) := by decide +kernel
theorem dX2_filterEdge_213 : decode cX2_filterEdge 213 = .ok (.iload 15, 2) := by decide +kernel
theorem dX2_filterEdge_215 : decode cX2_filterEdge 215 = .ok (.goto 5, 3) := by decide +kernel
theorem dX2_filterEdge_218 : decode cX2_filterEdge 218 = .ok (.iload 14, 2) := by decide +kernel
theorem dX2_filterEdge_220 : decode cX2_filterEdge 220 = .ok (.istore 16, 2) := by decide +kernel
theorem dX2_filterEdge_222 : decode cX2_filterEdge 222 = .ok (.iload 4, 2) := by decide +kernel
theorem dX2_filterEdge_224 : decode cX2_filterEdge 224 = .ok (.ifCond .ne 8, 3) := by decide +kernel
theorem dX2_filterEdge_227 : decode cX2_filterEdge 227 = .ok (.iload 14, 2) := by decide +kernel
theorem dX2_filterEdge_229 : decode cX2_filterEdge 229 = .ok (.goto 5, 3) := by decide +kernel
theorem dX2_filterEdge_232 : decode cX2_filterEdge 232 = .ok (.iload 15, 2) := by decide +kernel
theorem dX2_filterEdge_234 : decode cX2_filterEdge 234 = .ok (.istore 17, 2) := by decide +kernel
theorem dX2_filterEdge_236 : decode cX2_filterEdge 236 = .ok (.iload 17, 2) := by decide +kernel
theorem dX2_filterEdge_238 : decode cX2_filterEdge 238 = .ok (.iconst 3, 1) := by decide +kernel
theorem dX2_filterEdge_239 : decode cX2_filterEdge 239 = .ok (.ishr, 1) := by decide +kernel
theorem dX2_filterEdge_240 : decode cX2_filterEdge 240 = .ok (.bipush 8, 2) := by decide +kernel
theorem dX2_filterEdge_242 : decode cX2_filterEdge 242 = .ok (.imul, 1) := by decide +kernel
theorem dX2_filterEdge_243 : decode cX2_filterEdge 243 = .ok (.iload 16, 2) := by decide +kernel
theorem dX2_filterEdge_245 : decode cX2_filterEdge 245 = .ok (.iconst 3, 1) := by decide +kernel
theorem dX2_filterEdge_246 : decode cX2_filterEdge 246 = .ok (.ishr, 1) := by decide +kernel
theorem dX2_filterEdge_247 : decode cX2_filterEdge 247 = .ok (.iconst 4, 1) := by decide +kernel
theorem dX2_filterEdge_248 : decode cX2_filterEdge 248 = .ok (.imul, 1) := by decide +kernel
theorem dX2_filterEdge_249 : decode cX2_filterEdge 249 = .ok (.iadd, 1) := by decide +kernel
theorem dX2_filterEdge_250 : decode cX2_filterEdge 250 = .ok (.iload 17, 2) := by decide +kernel
theorem dX2_filterEdge_252 : decode cX2_filterEdge 252 = .ok (.iconst 2, 1) := by decide +kernel
theorem dX2_filterEdge_253 : decode cX2_filterEdge 253 = .ok (.ishr, 1) := by decide +kernel
theorem dX2_filterEdge_254 : decode cX2_filterEdge 254 = .ok (.iconst 1, 1) := by decide +kernel
theorem dX2_filterEdge_255 : decode cX2_filterEdge 255 = .ok (.iand, 1) := by decide +kernel
theorem dX2_filterEdge_256 : decode cX2_filterEdge 256 = .ok (.iconst 2, 1) := by decide +kernel
theorem dX2_filterEdge_257 : decode cX2_filterEdge 257 = .ok (.imul, 1) := by decide +kernel
theorem dX2_filterEdge_258 : decode cX2_filterEdge 258 = .ok (.iadd, 1) := by decide +kernel
theorem dX2_filterEdge_259 : decode cX2_filterEdge 259 = .ok (.iload 16, 2) := by decide +kernel
theorem dX2_filterEdge_261 : decode cX2_filterEdge 261 = .ok (.iconst 2, 1) := by decide +kernel
theorem dX2_filterEdge_262 : decode cX2_filterEdge 262 = .ok (.ishr, 1) := by decide +kernel
theorem dX2_filterEdge_263 : decode cX2_filterEdge 263 = .ok (.iconst 1, 1) := by decide +kernel
theorem dX2_filterEdge_264 : decode cX2_filterEdge 264 = .ok (.iand, 1) := by decide +kernel
theorem dX2_filterEdge_265 : decode cX2_filterEdge 265 = .ok (.iadd, 1) := by decide +kernel
theorem dX2_filterEdge_266 : decode cX2_filterEdge 266 = .ok (.istore 18, 2) := by decide +kernel
theorem dX2_filterEdge_268 : decode cX2_filterEdge 268 = .ok (.aload_n 0, 1) := by decide +kernel
theorem dX2_filterEdge_269 : decode cX2_filterEdge 269 = .ok (.getfield 9, 3) := by decide +kernel
theorem dX2_filterEdge_272 : decode cX2_filterEdge 272 = .ok (.iconst 2, 1) := by decide +kernel
theorem dX2_filterEdge_273 : decode cX2_filterEdge 273 = .ok (.bipush 16, 2) := by decide +kernel
theorem dX2_filterEdge_275 : decode cX2_filterEdge 275 = .ok (.iload_n 2, 1) := by decide +kernel
theorem dX2_filterEdge_276 : decode cX2_filterEdge 276 = .ok (.imul, 1) := by decide +kernel
theorem dX2_filterEdge_277 : decode cX2_filterEdge 277 = .ok (.iload 18, 2) := by decide +kernel
theorem dX2_filterEdge_279 : decode cX2_filterEdge 279 = .ok (.iadd, 1) := by decide +kernel
theorem dX2_filterEdge_280 : decode cX2_filterEdge 280 = .ok (.imul, 1) := by decide +kernel
theorem dX2_filterEdge_281 : decode cX2_filterEdge 281 = .ok (.iload 4, 2) := by decide +kernel
theorem dX2_filterEdge_283 : decode cX2_filterEdge 283 = .ok (.iadd, 1) := by decide +kernel
theorem dX2_filterEdge_284 : decode cX2_filterEdge 284 = .ok (.iaload, 1) := by decide +kernel
theorem dX2_filterEdge_285 : decode cX2_filterEdge 285 = .ok (.istore 19, 2) := by decide +kernel
theorem dX2_filterEdge_287 : decode cX2_filterEdge 287 = .ok (.iload 19, 2) := by decide +kernel
theorem dX2_filterEdge_289 : decode cX2_filterEdge 289 = .ok (.ifCond .le 35, 3) := by decide +kernel
theorem dX2_filterEdge_292 : decode cX2_filterEdge 292 = .ok (.aload_n 0, 1) := by decide +kernel
theorem dX2_filterEdge_293 : decode cX2_filterEdge 293 = .ok (.aload 6, 2) := by decide +kernel
theorem dX2_filterEdge_295 : decode cX2_filterEdge 295 = .ok (.getfield 58, 3) := by decide +kernel
theorem dX2_filterEdge_298 : decode cX2_filterEdge 298 = .ok (.iload_n 3, 1) := by decide +kernel
theorem dX2_filterEdge_299 : decode cX2_filterEdge 299 = .ok (.aaload, 1) := by decide +kernel
theorem dX2_filterEdge_300 : decode cX2_filterEdge 300 = .ok (.iload 10, 2) := by decide +kernel
theorem dX2_filterEdge_302 : decode cX2_filterEdge 302 = .ok (.iload 13, 2) := by decide +kernel
theorem dX2_filterEdge_304 : decode cX2_filterEdge 304 = .ok (.iload 12, 2) := by decide +kernel
theorem dX2_filterEdge_306 : decode cX2_filterEdge 306 = .ok (.imul, 1) := by decide +kernel
theorem dX2_filterEdge_307 : decode cX2_filterEdge 307 = .ok (.iadd, 1) := by decide +kernel
theorem dX2_filterEdge_308 : decode cX2_filterEdge 308 = .ok (.iload 11, 2) := by decide +kernel
theorem dX2_filterEdge_310 : decode cX2_filterEdge 310 = .ok (.iload 19, 2) := by decide +kernel
theorem dX2_filterEdge_312 : decode cX2_filterEdge 312 = .ok (.iload_n 3, 1) := by decide +kernel
theorem dX2_filterEdge_313 : decode cX2_filterEdge 313 = .ok (.ifCond .ne 7, 3) := by decide +kernel
theorem dX2_filterEdge_316 : decode cX2_filterEdge 316 = .ok (.iconst 1, 1) := by decide +kernel
theorem dX2_filterEdge_317 : decode cX2_filterEdge 317 = .ok (.goto 4, 3) := by decide +kernel
theorem dX2_filterEdge_320 : decode cX2_filterEdge 320 = .ok (.iconst 0, 1) := by decide +kernel
theorem dX2_filterEdge_321 : decode cX2_filterEdge 321 = .ok (.invokevirtual 100, 3) := by decide +kernel
theorem dX2_filterEdge_324 : decode cX2_filterEdge 324 = .ok (.iinc 13 1, 3) := by decide +kernel
theorem dX2_filterEdge_327 : decode cX2_filterEdge 327 = .ok (.goto (-159), 3) := by decide +kernel
theorem dX2_filterEdge_330 : decode cX2_filterEdge 330 = .ok (.return_, 1) := by decide +kernel
def FX2_filterEdge (G : GG) (M : DD) (a : Nat) (p0 : Option Nat) (p1 : Int32) (p2 : Int32) (p3 : Int32) (p4 : Int32) : Option (DD) :=
  dr G 9 p0 fun b2 =>
  bnd (if p2 = ((0 : Int32)) then (some ((16 : Int32))) else
  (some ((8 : Int32)))) fun (y3 : Int32) =>
  bnd (if p4 ≤ ((0 : Int32)) then (bnd (if p3 = ((0 : Int32)) then (ltt ((p1 - ((1 : Int32)))) fun x209 =>
  some (x209)) else
  (dr G 4 ((M.2 b2 0)) fun b206 =>
  ltt (M.1 b206 1) fun x207 =>
  ltt ((p1 - x207)) fun x208 =>
  some (x208))) fun (y204 : Int32) =>
  some (y204)) else
  (some (p1))) fun (y4 : Int32) =>
  if p4 = ((0 : Int32)) then (if p3 = ((0 : Int32)) then (dr G 4 ((M.2 b2 0)) fun b136 =>
  ltt (M.1 b136 1) fun x137 =>
  chk (¬ x137 = 0) <|
  ltt (p1 - p1 / x137 * x137) fun x138 =>
  if x138 = ((0 : Int32)) then (some M) else
  (bnd (FX2_setThresholds G M a p0 y4 p1 p2) fun y140 =>
  ltt (y140.1 b136 1) fun x141 =>
  ltt ((y3 * x141)) fun x142 =>
  ltt (y140.1 b136 1) fun x143 =>
  chk (¬ x143 = 0) <|
  ltt (p1 / x143) fun x144 =>
  ltt ((y3 * x144)) fun x145 =>
  ltt ((x145 * x142)) fun x146 =>
  ltt (y140.1 b136 1) fun x147 =>
  chk (¬ x147 = 0) <|
  ltt (p1 - p1 / x147 * x147) fun x148 =>
  ltt ((y3 * x148)) fun x149 =>
  ltt ((x146 + x149)) fun x150 =>
  ltt ((((4 : Int32)) * p4)) fun x151 =>
  bnd (if p3 = ((0 : Int32)) then (some ((1 : Int32))) else
  (some (x142))) fun (y152 : Int32) =>
  ltt ((x151 * y152)) fun x153 =>
  ltt ((x150 + x153)) fun x154 =>
  bnd (if p3 = ((0 : Int32)) then (some ((1 : Int32))) else
  (some (x142))) fun (y155 : Int32) =>
  bnd (if p3 = ((0 : Int32)) then (some (x142)) else
  (some ((1 : Int32)))) fun (y156 : Int32) =>
  bnd (itr (fun (s158 : Int32 × DD) => ((if y3 ≤ s158.1 then (some (.inr (s158.1, s158.2))) else
  (bnd (if p2 = ((0 : Int32)) then (some (s158.1)) else
  (ltt ((((2 : Int32)) * s158.1)) fun x199 =>
  some (x199))) fun (y162 : Int32) =>
  bnd (if p2 = ((0 : Int32)) then (ltt ((((4 : Int32)) * p4)) fun x197 =>
  some (x197)) else
  (ltt ((((8 : Int32)) * p4)) fun x196 =>
  some (x196))) fun (y163 : Int32) =>
  bnd (if p3 = ((0 : Int32)) then (some (y163)) else
  (some (y162))) fun (y164 : Int32) =>
  bnd (if p3 = ((0 : Int32)) then (some (y162)) else
  (some (y163))) fun (y165 : Int32) =>
  ltt ((y165 >>> (((3 : Int32)) &&& 31))) fun x166 =>
  ltt ((x166 * ((8 : Int32)))) fun x167 =>
  ltt ((y164 >>> (((3 : Int32)) &&& 31))) fun x168 =>
  ltt ((x168 * ((4 : Int32)))) fun x169 =>
  ltt ((x167 + x169)) fun x170 =>
  ltt ((y165 >>> (((2 : Int32)) &&& 31))) fun x171 =>
  ltt ((x171 &&& ((1 : Int32)))) fun x172 =>
  ltt ((x172 * ((2 : Int32)))) fun x173 =>
  ltt ((x170 + x173)) fun x174 =>
  ltt ((y164 >>> (((2 : Int32)) &&& 31))) fun x175 =>
  ltt ((x175 &&& ((1 : Int32)))) fun x176 =>
  ltt ((x174 + x176)) fun x177 =>
  ltt ((((16 : Int32)) * p1)) fun x178 =>
  ltt ((x178 + x177)) fun x179 =>
  ltt ((((2 : Int32)) * x179)) fun x180 =>
  ltt ((x180 + p3)) fun x181 =>
  dr G 13 ((s158.2.2 a 0)) fun b182 =>
  chk (¬ (x181 < 0 ∨ G.2.2 b182 ≤ x181.toNatClampNeg)) <|
  ltt (s158.2.1 b182 x181.toNatClampNeg) fun x183 =>
  bnd (if x183 ≤ ((0 : Int32)) then (some (s158.2)) else
  (dr G 15 ((s158.2.2 b136 4)) fun b187 =>
  chk (¬ (p2 < 0 ∨ G.2.2 b187 ≤ p2.toNatClampNeg)) <|
  ltt ((s158.1 * y156)) fun x188 =>
  ltt ((x154 + x188)) fun x189 =>
  bnd (if p2 = ((0 : Int32)) then (some ((1 : Int32))) else
  (some ((0 : Int32)))) fun (y190 : Int32) =>
  bnd (FX2_filterLine G s158.2 a ((s158.2.2 b187 p2.toNatClampNeg)) x189 y155 x183 y190) fun y191 =>
  some (y191))) fun (y184 : DD) =>
  ltt (s158.1 + (1 : Int32)) fun x185 =>
  some (.inl (x185, y184)))) : Option ((Int32 × DD) ⊕ (Int32 × DD)))) 1000000 ((0 : Int32), y140)) fun (y157 : Int32 × DD) =>
  some y157.2)) else
  (if ((0 : Int32)) ≤ y4 then (bnd (FX2_setThresholds G M a p0 y4 p1 p2) fun y72 =>
  dr G 4 ((M.2 b2 0)) fun b73 =>
  ltt (y72.1 b73 1) fun x74 =>
  ltt ((y3 * x74)) fun x75 =>
  ltt (y72.1 b73 1) fun x76 =>
  chk (¬ x76 = 0) <|
  ltt (p1 / x76) fun x77 =>
  ltt ((y3 * x77)) fun x78 =>
  ltt ((x78 * x75)) fun x79 =>
  ltt (y72.1 b73 1) fun x80 =>
  chk (¬ x80 = 0) <|
  ltt (p1 - p1 / x80 * x80) fun x81 =>
  ltt ((y3 * x81)) fun x82 =>
  ltt ((x79 + x82)) fun x83 =>
  ltt ((((4 : Int32)) * p4)) fun x84 =>
  bnd (if p3 = ((0 : Int32)) then (some ((1 : Int32))) else
  (some (x75))) fun (y85 : Int32) =>
  ltt ((x84 * y85)) fun x86 =>
  ltt ((x83 + x86)) fun x87 =>
  bnd (if p3 = ((0 : Int32)) then (some ((1 : Int32))) else
  (some (x75))) fun (y88 : Int32) =>
  bnd (if p3 = ((0 : Int32)) then (some (x75)) else
  (some ((1 : Int32)))) fun (y89 : Int32) =>
  bnd (itr (fun (s91 : Int32 × DD) => ((if y3 ≤ s91.1 then (some (.inr (s91.1, s91.2))) else
  (bnd (if p2 = ((0 : Int32)) then (some (s91.1)) else
  (ltt ((((2 : Int32)) * s91.1)) fun x132 =>
  some (x132))) fun (y95 : Int32) =>
  bnd (if p2 = ((0 : Int32)) then (ltt ((((4 : Int32)) * p4)) fun x130 =>
  some (x130)) else
  (ltt ((((8 : Int32)) * p4)) fun x129 =>
  some (x129))) fun (y96 : Int32) =>
  bnd (if p3 = ((0 : Int32)) then (some (y96)) else
  (some (y95))) fun (y97 : Int32) =>
  bnd (if p3 = ((0 : Int32)) then (some (y95)) else
  (some (y96))) fun (y98 : Int32) =>
  ltt ((y98 >>> (((3 : Int32)) &&& 31))) fun x99 =>
  ltt ((x99 * ((8 : Int32)))) fun x100 =>
  ltt ((y97 >>> (((3 : Int32)) &&& 31))) fun x101 =>
  ltt ((x101 * ((4 : Int32)))) fun x102 =>
  ltt ((x100 + x102)) fun x103 =>
  ltt ((y98 >>> (((2 : Int32)) &&& 31))) fun x104 =>
  ltt ((x104 &&& ((1 : Int32)))) fun x105 =>
  ltt ((x105 * ((2 : Int32)))) fun x106 =>
  ltt ((x103 + x106)) fun x107 =>
  ltt ((y97 >>> (((2 : Int32)) &&& 31))) fun x108 =>
  ltt ((x108 &&& ((1 : Int32)))) fun x109 =>
  ltt ((x107 + x109)) fun x110 =>
  ltt ((((16 : Int32)) * p1)) fun x111 =>
  ltt ((x111 + x110)) fun x112 =>
  ltt ((((2 : Int32)) * x112)) fun x113 =>
  ltt ((x113 + p3)) fun x114 =>
  dr G 13 ((s91.2.2 a 0)) fun b115 =>
  chk (¬ (x114 < 0 ∨ G.2.2 b115 ≤ x114.toNatClampNeg)) <|
  ltt (s91.2.1 b115 x114.toNatClampNeg) fun x116 =>
  bnd (if x116 ≤ ((0 : Int32)) then (some (s91.2)) else
  (dr G 15 ((s91.2.2 b73 4)) fun b120 =>
  chk (¬ (p2 < 0 ∨ G.2.2 b120 ≤ p2.toNatClampNeg)) <|
  ltt ((s91.1 * y89)) fun x121 =>
  ltt ((x87 + x121)) fun x122 =>
  bnd (if p2 = ((0 : Int32)) then (some ((1 : Int32))) else
  (some ((0 : Int32)))) fun (y123 : Int32) =>
  bnd (FX2_filterLine G s91.2 a ((s91.2.2 b120 p2.toNatClampNeg)) x122 y88 x116 y123) fun y124 =>
  some (y124))) fun (y117 : DD) =>
  ltt (s91.1 + (1 : Int32)) fun x118 =>
  some (.inl (x118, y117)))) : Option ((Int32 × DD) ⊕ (Int32 × DD)))) 1000000 ((0 : Int32), y72)) fun (y90 : Int32 × DD) =>
  some y90.2) else
  (some M))) else
  (bnd (FX2_setThresholds G M a p0 y4 p1 p2) fun y6 =>
  dr G 4 ((M.2 b2 0)) fun b7 =>
  ltt (y6.1 b7 1) fun x8 =>
  ltt ((y3 * x8)) fun x9 =>
  ltt (y6.1 b7 1) fun x10 =>
  chk (¬ x10 = 0) <|
  ltt (p1 / x10) fun x11 =>
  ltt ((y3 * x11)) fun x12 =>
  ltt ((x12 * x9)) fun x13 =>
  ltt (y6.1 b7 1) fun x14 =>
  chk (¬ x14 = 0) <|
  ltt (p1 - p1 / x14 * x14) fun x15 =>
  ltt ((y3 * x15)) fun x16 =>
  ltt ((x13 + x16)) fun x17 =>
  ltt ((((4 : Int32)) * p4)) fun x18 =>
  bnd (if p3 = ((0 : Int32)) then (some ((1 : Int32))) else
  (some (x9))) fun (y19 : Int32) =>
  ltt ((x18 * y19)) fun x20 =>
  ltt ((x17 + x20)) fun x21 =>
  bnd (if p3 = ((0 : Int32)) then (some ((1 : Int32))) else
  (some (x9))) fun (y22 : Int32) =>
  bnd (if p3 = ((0 : Int32)) then (some (x9)) else
  (some ((1 : Int32)))) fun (y23 : Int32) =>
  bnd (itr (fun (s25 : Int32 × DD) => ((if y3 ≤ s25.1 then (some (.inr (s25.1, s25.2))) else
  (bnd (if p2 = ((0 : Int32)) then (some (s25.1)) else
  (ltt ((((2 : Int32)) * s25.1)) fun x66 =>
  some (x66))) fun (y29 : Int32) =>
  bnd (if p2 = ((0 : Int32)) then (ltt ((((4 : Int32)) * p4)) fun x64 =>
  some (x64)) else
  (ltt ((((8 : Int32)) * p4)) fun x63 =>
  some (x63))) fun (y30 : Int32) =>
  bnd (if p3 = ((0 : Int32)) then (some (y30)) else
  (some (y29))) fun (y31 : Int32) =>
  bnd (if p3 = ((0 : Int32)) then (some (y29)) else
  (some (y30))) fun (y32 : Int32) =>
  ltt ((y32 >>> (((3 : Int32)) &&& 31))) fun x33 =>
  ltt ((x33 * ((8 : Int32)))) fun x34 =>
  ltt ((y31 >>> (((3 : Int32)) &&& 31))) fun x35 =>
  ltt ((x35 * ((4 : Int32)))) fun x36 =>
  ltt ((x34 + x36)) fun x37 =>
  ltt ((y32 >>> (((2 : Int32)) &&& 31))) fun x38 =>
  ltt ((x38 &&& ((1 : Int32)))) fun x39 =>
  ltt ((x39 * ((2 : Int32)))) fun x40 =>
  ltt ((x37 + x40)) fun x41 =>
  ltt ((y31 >>> (((2 : Int32)) &&& 31))) fun x42 =>
  ltt ((x42 &&& ((1 : Int32)))) fun x43 =>
  ltt ((x41 + x43)) fun x44 =>
  ltt ((((16 : Int32)) * p1)) fun x45 =>
  ltt ((x45 + x44)) fun x46 =>
  ltt ((((2 : Int32)) * x46)) fun x47 =>
  ltt ((x47 + p3)) fun x48 =>
  dr G 13 ((s25.2.2 a 0)) fun b49 =>
  chk (¬ (x48 < 0 ∨ G.2.2 b49 ≤ x48.toNatClampNeg)) <|
  ltt (s25.2.1 b49 x48.toNatClampNeg) fun x50 =>
  bnd (if x50 ≤ ((0 : Int32)) then (some (s25.2)) else
  (dr G 15 ((s25.2.2 b7 4)) fun b54 =>
  chk (¬ (p2 < 0 ∨ G.2.2 b54 ≤ p2.toNatClampNeg)) <|
  ltt ((s25.1 * y23)) fun x55 =>
  ltt ((x21 + x55)) fun x56 =>
  bnd (if p2 = ((0 : Int32)) then (some ((1 : Int32))) else
  (some ((0 : Int32)))) fun (y57 : Int32) =>
  bnd (FX2_filterLine G s25.2 a ((s25.2.2 b54 p2.toNatClampNeg)) x56 y22 x50 y57) fun y58 =>
  some (y58))) fun (y51 : DD) =>
  ltt (s25.1 + (1 : Int32)) fun x52 =>
  some (.inl (x52, y51)))) : Option ((Int32 × DD) ⊕ (Int32 × DD)))) 1000000 ((0 : Int32), y6)) fun (y24 : Int32 × DD) =>
  some y24.2)
set_option maxHeartbeats 4000000 in
set_option maxRecDepth 100000 in
theorem kX2_filterEdge (l : Launch) (D : va_G) (ct : CT) (ad : Nat → Nat) (Z : Nat → Nat) (G : GG) (M : DD) (sz : Nat) (a : Nat) (p0 : Option Nat) (p1 : Int32) (p2 : Int32) (p3 : Int32) (p4 : Int32) (y : DD) (hc : a < G.1) (hk : G.2.1 a = 2) (hF : FX2_filterEdge G M a p0 p1 p2 p3 p4 = some y) : Met l yX2_filterEdge wuX2_filterEdge ({ frames := 3, cells := 0, slots := 0, locals := 72 }) (va_Pc [.ref (ad a), va_re ad p0, .int p1, .int p2, .int p3, .int p4] (kB D ct ad Z G M sz)) (va_Qv (fun (_ : Unit) => True) (fun _ t => kE D ct ad G (wA ad G sz) y t) (wA ad G sz)) 0 0 (wA ad G sz) := by
  refine Met.ofW (cc := cX2_filterEdge) (maxL := 20) (ret := none) (by decide) rfl ?_
  intro p e s m args below meth c s₁ B hml hv
  obtain ⟨rfl, hsz, hP, hK, hD0, hZ, hN⟩ := hv
  have hx := B.exec
  have hb := B.bytes
  have hr := B.returns
  have hts := atoms_spec (ws := wuX2_filterEdge) B.pre
  have hown : s.vm.findClass RX2 = some m.cls := findClass_of_methodNamed B.named
  have hlocks := B.notSynchronized
  subst hsz
  have hD := wD_self (sz := s.heap.size) hD0
  have hA9 : ∀ q, s.heap.size ≤ q → wA ad G s.heap.size q := fun q h => Or.inr h
  generalize hAe : wA ad G s.heap.size = A at hD hA9 hZ ⊢
  have hS : va_S A s.heap s.heap [] := va_S.rf
  have hl := lv_entry ([.ref (ad a), va_re ad p0, .int p1, .int p2, .int p3, .int p4]) (n := 20) (by cases p0 <;> exact Nat.le_of_ble_eq_true rfl)
  rw [lg_entry_eq]
  generalize (lg_sl ([.ref (ad a), va_re ad p0, .int p1, .int p2, .int p3, .int p4]) ++ List.replicate (20 - (lg_sl ([.ref (ad a), va_re ad p0, .int p1, .int p2, .int p3, .int p4])).length) Slot.unset).toArray = ls at hl ⊢
  have hl : lv_has ls 20 [(0, .ref (ad a)), (1, va_re ad p0), (2, .int p1), (3, .int p2), (4, .int p3), (5, .int p4)] := by have e9 : lv_args 0 [.ref (ad a), va_re ad p0, .int p1, .int p2, .int p3, .int p4] = [(0, .ref (ad a)), (1, va_re ad p0), (2, .int p1), (3, .int p2), (4, .int p3), (5, .int p4)] := (by cases p0 <;> rfl); rw [e9] at hl; exact hl
  unfold FX2_filterEdge at hF
  refine lv_aloadq_n hx hb dX2_filterEdge_0 rfl (lv_at hl 1 rfl) ?_
  obtain ⟨b2, ho2, hc2, hk2, hF⟩ := dr_some hF
  refine W_st (st' := [.ref (ad b2)]) (by rw [va_some ho2]) ?_
  refine va_get (D := D) (ci := 9) (v := va_re ad (M.2 b2 0)) (C := RX9) (T := TX9) (N := 20) hx hb hts (mus hf_X9) hown hK hP b2 (wld_o ct ad G M hc2 hk2 (by decide)) rfl 0 (by decide) (hts (.fieldLink RX2 15 "VideoSuite$Work" "pic" "LVideoSuite$Picture;") (mu mw_419)) (fun _ h9 => h9) rfl dX2_filterEdge_1 ?_
  refine lv_astoreq (lv' := [(6, va_re ad (M.2 b2 0)), (0, .ref (ad a)), (1, va_re ad p0), (2, .int p1), (3, .int p2), (4, .int p3), (5, .int p4)]) hx hb dX2_filterEdge_4 hl (by decide) rfl (fun ls hl => ?_)
  refine lv_iload_n hx hb dX2_filterEdge_6 rfl (lv_at hl 4 rfl) ?_
  obtain ⟨y3, hy3, hF⟩ := bnd_some hF
  have J3 : ∀ (H : Heap) (locs : List Loc) (ls : Array Slot), va_P D classes (wld ct ad G M) H → va_D A (wld ct ad G M) → va_S A s.heap H locs → lv_has ls 20 [(6, va_re ad (M.2 b2 0)), (0, .ref (ad a)), (1, va_re ad p0), (2, .int p1), (3, .int p2), (4, .int p3), (5, .int p4)] → W p l e (headSpec wuX2_filterEdge ({ frames := 3, cells := 0, slots := 0, locals := 72 })).room s m ([.ref (ad a), va_re ad p0, .int p1, .int p2, .int p3, .int p4] : List Value).toArray below meth c H locs 0 0 (MQ below (va_Qv (fun (_ : Unit) => True) (fun _ t => kE D ct ad G A y t) A) ([.ref (ad a), va_re ad p0, .int p1, .int p2, .int p3, .int p4] : List Value).toArray s 0 0 A) (F0 m 17 ls [.int y3]) := by
    intro H locs ls hP hD hS hl
    refine lv_istore (lv' := [(7, .int y3), (6, va_re ad (M.2 b2 0)), (0, .ref (ad a)), (1, va_re ad p0), (2, .int p1), (3, .int p2), (4, .int p3), (5, .int p4)]) hx hb dX2_filterEdge_17 hl (by decide) (by generalize ((M.2 b2 0)) = o9; cases o9 <;> rfl) (fun ls hl => ?_)
    refine lv_iload hx hb dX2_filterEdge_19 (lv_at hl 7 rfl) ?_
    obtain ⟨y4, hy4, hF⟩ := bnd_some hF
    have J4 : ∀ (H : Heap) (locs : List Loc) (ls : Array Slot), va_P D classes (wld ct ad G M) H → va_D A (wld ct ad G M) → va_S A s.heap H locs → lv_has ls 20 [(7, .int y3), (6, va_re ad (M.2 b2 0)), (0, .ref (ad a)), (1, va_re ad p0), (2, .int p1), (3, .int p2), (4, .int p3), (5, .int p4)] → W p l e (headSpec wuX2_filterEdge ({ frames := 3, cells := 0, slots := 0, locals := 72 })).room s m ([.ref (ad a), va_re ad p0, .int p1, .int p2, .int p3, .int p4] : List Value).toArray below meth c H locs 0 0 (MQ below (va_Qv (fun (_ : Unit) => True) (fun _ t => kE D ct ad G A y t) A) ([.ref (ad a), va_re ad p0, .int p1, .int p2, .int p3, .int p4] : List Value).toArray s 0 0 A) (F0 m 46 ls [.int y4]) := by
      intro H locs ls hP hD hS hl
      refine lv_istore (lv' := [(8, .int y4), (7, .int y3), (6, va_re ad (M.2 b2 0)), (0, .ref (ad a)), (1, va_re ad p0), (2, .int p1), (3, .int p2), (4, .int p3), (5, .int p4)]) hx hb dX2_filterEdge_46 hl (by decide) rfl (fun ls hl => ?_)
      refine lv_iload hx hb dX2_filterEdge_48 (lv_at hl 8 rfl) ?_
      refine lv_if_ne (tgt := 77) hx hb dX2_filterEdge_50 (by decide) (fun c5 => ?_) (fun c5 => ?_)
      · rw [if_neg c5] at hF
        refine lv_aload_n hx hb dX2_filterEdge_77 rfl (lv_at hl 3 rfl) ?_
        refine lv_aloadq_n hx hb dX2_filterEdge_78 rfl (lv_at hl 4 rfl) ?_
        refine lv_iload hx hb dX2_filterEdge_79 (lv_at hl 0 rfl) ?_
        refine lv_iload_n hx hb dX2_filterEdge_81 rfl (lv_at hl 5 rfl) ?_
        refine lv_iload_n hx hb dX2_filterEdge_82 rfl (lv_at hl 6 rfl) ?_
        obtain ⟨y6, hy6, hF⟩ := bnd_some hF
        have hf9 := wA_in hD hA9 hS
        refine va_callv (va_runV (As := [va_re ad p0, .int y4, .int p1, .int p2]) (rest := []) ⟨hx, hb, hml, hown, hts⟩ (kX2_setThresholds l D ct ad Z G M H.size a p0 y4 p1 p2 y6 hc hk hy6) (cwV 4 hts gX2_filterEdge_X2_setThresholds rfl rfl rfl (by decide +kernel) ⟨Nat.le_of_ble_eq_true rfl, Nat.le_of_ble_eq_true rfl⟩) ⟨fun a U g mk q => by obtain ⟨q0, q1, qP, qK, qD, qZ, qN⟩ := q; exact ⟨q0, q1, qP, va_K.moved (u := U) (U := U.calling g mk a) (Vm.Alike.refl U.vm) qK, qD, sF.moved (u := U) (U := U.calling g mk a) (Vm.Alike.refl U.vm) qZ, nF.same rfl qN⟩, va_recv hK hP (ci := 2) (q0 := a) rfl (wld_o ct ad G M hc hk (by decide)), fun U hU hW => ⟨rfl, by rw [hU], by rw [hU]; exact hP, va_K.moved hW.alike hK, hD.weaken (fun _ _ _ _ => trivial), by rw [hU]; exact ((hZ.kept hS.2.1).narrow hf9).moved hW.alike, hN.warm hW⟩⟩ rfl rfl hl.1 rfl (lv_room (Nat.le_of_ble_eq_true rfl)) dX2_filterEdge_83 ⟨(Nat.zero_le _), (Nat.zero_le _)⟩) hS (fun q _ h => hf9 q h) hf9 (fun u t H locs ht hvm hw hB hz1 hk1 hS => ?_)
        obtain ⟨hP, hK9, hD9⟩ := hB
        rw [ht] at hP
        have hD := hD9.weaken (fun _ q _ h => hf9 q.1 h)
        refine lv_iload hx hb dX2_filterEdge_86 (lv_at hl 1 rfl) ?_
        refine lv_aloadq hx hb dX2_filterEdge_88 (lv_at hl 2 rfl) ?_
        obtain ⟨b7, ho7, hc7, hk7, hF⟩ := dr_some hF
        refine W_st (st' := [.ref (ad b7), .int y3]) (by rw [va_some ho7]) ?_
        refine va_get (D := D) (ci := 4) (v := .int (y6.1 b7 1)) (C := RX4) (T := TX4) (N := 18) hx hb hts (mus hf_X4) hown hK hP b7 (wld_o ct ad G y6 hc7 hk7 (by decide)) rfl 1 (by decide) (hts (.fieldLink RX2 49 "VideoSuite$Picture" "width" "I") (mu mw_1420)) (fun _ h9 => h9) rfl dX2_filterEdge_90 ?_
        obtain ⟨x8, ex8, hF⟩ := ltt_some hF
        refine lv_topi (fun zx8 ezx8 => ?_)
        obtain rfl : x8 = zx8 := ex8.trans ezx8.symm
        refine lv_imul hx hb dX2_filterEdge_93 ?_
        obtain ⟨x9, ex9, hF⟩ := ltt_some hF
        refine lv_topi (fun zx9 ezx9 => ?_)
        obtain rfl : x9 = zx9 := ex9.trans ezx9.symm
        refine lv_istore (lv' := [(9, .int x9), (8, .int y4), (7, .int y3), (6, va_re ad (M.2 b2 0)), (0, .ref (ad a)), (1, va_re ad p0), (2, .int p1), (3, .int p2), (4, .int p3), (5, .int p4)]) hx hb dX2_filterEdge_94 hl (by decide) rfl (fun ls hl => ?_)
        refine lv_iload hx hb dX2_filterEdge_96 (lv_at hl 2 rfl) ?_
        refine lv_iload_n hx hb dX2_filterEdge_98 rfl (lv_at hl 6 rfl) ?_
        refine lv_aloadq hx hb dX2_filterEdge_99 (lv_at hl 3 rfl) ?_
        refine W_st (st' := [.ref (ad b7), .int p1, .int y3]) (by rw [va_some ho7]) ?_
        refine va_get (D := D) (ci := 4) (v := .int (y6.1 b7 1)) (C := RX4) (T := TX4) (N := 18) hx hb hts (mus hf_X4) hown hK hP b7 (wld_o ct ad G y6 hc7 hk7 (by decide)) rfl 1 (by decide) (hts (.fieldLink RX2 49 "VideoSuite$Picture" "width" "I") (mu mw_1420)) (fun _ h9 => h9) rfl dX2_filterEdge_101 ?_
        obtain ⟨x10, ex10, hF⟩ := ltt_some hF
        refine lv_topi (fun zx10 ezx10 => ?_)
        obtain rfl : x10 = zx10 := ex10.trans ezx10.symm
        obtain ⟨hne, hF⟩ := chk_some hF
        refine lv_idiv hx hb dX2_filterEdge_104 hne ?_
        obtain ⟨x11, ex11, hF⟩ := ltt_some hF
        refine lv_topi (fun zx11 ezx11 => ?_)
        obtain rfl : x11 = zx11 := ex11.trans ezx11.symm
        refine lv_imul hx hb dX2_filterEdge_105 ?_
        obtain ⟨x12, ex12, hF⟩ := ltt_some hF
        refine lv_topi (fun zx12 ezx12 => ?_)
        obtain rfl : x12 = zx12 := ex12.trans ezx12.symm
        refine lv_iload hx hb dX2_filterEdge_106 (lv_at hl 0 rfl) ?_
        refine lv_imul hx hb dX2_filterEdge_108 ?_
        obtain ⟨x13, ex13, hF⟩ := ltt_some hF
        refine lv_topi (fun zx13 ezx13 => ?_)
        obtain rfl : x13 = zx13 := ex13.trans ezx13.symm
        refine lv_iload hx hb dX2_filterEdge_109 (lv_at hl 2 rfl) ?_
        refine lv_iload_n hx hb dX2_filterEdge_111 rfl (lv_at hl 6 rfl) ?_
        refine lv_aloadq hx hb dX2_filterEdge_112 (lv_at hl 3 rfl) ?_
        refine W_st (st' := [.ref (ad b7), .int p1, .int y3, .int x13]) (by rw [va_some ho7]) ?_
        refine va_get (D := D) (ci := 4) (v := .int (y6.1 b7 1)) (C := RX4) (T := TX4) (N := 18) hx hb hts (mus hf_X4) hown hK hP b7 (wld_o ct ad G y6 hc7 hk7 (by decide)) rfl 1 (by decide) (hts (.fieldLink RX2 49 "VideoSuite$Picture" "width" "I") (mu mw_1420)) (fun _ h9 => h9) rfl dX2_filterEdge_114 ?_
        obtain ⟨x14, ex14, hF⟩ := ltt_some hF
        refine lv_topi (fun zx14 ezx14 => ?_)
        obtain rfl : x14 = zx14 := ex14.trans ezx14.symm
        obtain ⟨hne, hF⟩ := chk_some hF
        refine lv_irem hx hb dX2_filterEdge_117 hne ?_
        obtain ⟨x15, ex15, hF⟩ := ltt_some hF
        refine lv_topi (fun zx15 ezx15 => ?_)
        obtain rfl : x15 = zx15 := ex15.trans ezx15.symm
        refine lv_imul hx hb dX2_filterEdge_118 ?_
        obtain ⟨x16, ex16, hF⟩ := ltt_some hF
        refine lv_topi (fun zx16 ezx16 => ?_)
        obtain rfl : x16 = zx16 := ex16.trans ezx16.symm
        refine lv_iadd hx hb dX2_filterEdge_119 ?_
        obtain ⟨x17, ex17, hF⟩ := ltt_some hF
        refine lv_topi (fun zx17 ezx17 => ?_)
        obtain rfl : x17 = zx17 := ex17.trans ezx17.symm
        refine lv_iconst (v := (4 : Int32)) hx hb dX2_filterEdge_120 (by decide) ?_
        refine lv_iload hx hb dX2_filterEdge_121 (lv_at hl 9 rfl) ?_
        refine lv_imul hx hb dX2_filterEdge_123 ?_
        obtain ⟨x18, ex18, hF⟩ := ltt_some hF
        refine lv_topi (fun zx18 ezx18 => ?_)
        obtain rfl : x18 = zx18 := ex18.trans ezx18.symm
        refine lv_iload hx hb dX2_filterEdge_124 (lv_at hl 8 rfl) ?_
        obtain ⟨y19, hy19, hF⟩ := bnd_some hF
        have J19 : ∀ (H : Heap) (locs : List Loc) (ls : Array Slot), va_P D classes (wld ct ad G y6) H → va_D A (wld ct ad G y6) → va_S A s.heap H locs → lv_has ls 20 [(9, .int x9), (8, .int y4), (7, .int y3), (6, va_re ad (M.2 b2 0)), (0, .ref (ad a)), (1, va_re ad p0), (2, .int p1), (3, .int p2), (4, .int p3), (5, .int p4)] → W p l e (headSpec wuX2_filterEdge ({ frames := 3, cells := 0, slots := 0, locals := 72 })).room s m ([.ref (ad a), va_re ad p0, .int p1, .int p2, .int p3, .int p4] : List Value).toArray below meth c H locs 0 0 (MQ below (va_Qv (fun (_ : Unit) => True) (fun _ t => kE D ct ad G A y t) A) ([.ref (ad a), va_re ad p0, .int p1, .int p2, .int p3, .int p4] : List Value).toArray s 0 0 A) (F0 m 135 ls [.int y19, .int x18, .int x17]) := by
          intro H locs ls hP hD hS hl
          refine lv_imul hx hb dX2_filterEdge_135 ?_
          obtain ⟨x20, ex20, hF⟩ := ltt_some hF
          refine lv_topi (fun zx20 ezx20 => ?_)
          obtain rfl : x20 = zx20 := ex20.trans ezx20.symm
          refine lv_iadd hx hb dX2_filterEdge_136 ?_
          obtain ⟨x21, ex21, hF⟩ := ltt_some hF
          refine lv_topi (fun zx21 ezx21 => ?_)
          obtain rfl : x21 = zx21 := ex21.trans ezx21.symm
          refine lv_istore (lv' := [(10, .int x21), (9, .int x9), (8, .int y4), (7, .int y3), (6, va_re ad (M.2 b2 0)), (0, .ref (ad a)), (1, va_re ad p0), (2, .int p1), (3, .int p2), (4, .int p3), (5, .int p4)]) hx hb dX2_filterEdge_137 hl (by decide) rfl (fun ls hl => ?_)
          refine lv_iload hx hb dX2_filterEdge_139 (lv_at hl 9 rfl) ?_
          obtain ⟨y22, hy22, hF⟩ := bnd_some hF
          have J22 : ∀ (H : Heap) (locs : List Loc) (ls : Array Slot), va_P D classes (wld ct ad G y6) H → va_D A (wld ct ad G y6) → va_S A s.heap H locs → lv_has ls 20 [(10, .int x21), (9, .int x9), (8, .int y4), (7, .int y3), (6, va_re ad (M.2 b2 0)), (0, .ref (ad a)), (1, va_re ad p0), (2, .int p1), (3, .int p2), (4, .int p3), (5, .int p4)] → W p l e (headSpec wuX2_filterEdge ({ frames := 3, cells := 0, slots := 0, locals := 72 })).room s m ([.ref (ad a), va_re ad p0, .int p1, .int p2, .int p3, .int p4] : List Value).toArray below meth c H locs 0 0 (MQ below (va_Qv (fun (_ : Unit) => True) (fun _ t => kE D ct ad G A y t) A) ([.ref (ad a), va_re ad p0, .int p1, .int p2, .int p3, .int p4] : List Value).toArray s 0 0 A) (F0 m 150 ls [.int y22]) := by
            intro H locs ls hP hD hS hl
            refine lv_istore (lv' := [(11, .int y22), (10, .int x21), (9, .int x9), (8, .int y4), (7, .int y3), (6, va_re ad (M.2 b2 0)), (0, .ref (ad a)), (1, va_re ad p0), (2, .int p1), (3, .int p2), (4, .int p3), (5, .int p4)]) hx hb dX2_filterEdge_150 hl (by decide) rfl (fun ls hl => ?_)
            refine lv_iload hx hb dX2_filterEdge_152 (lv_at hl 10 rfl) ?_
            obtain ⟨y23, hy23, hF⟩ := bnd_some hF
            have J23 : ∀ (H : Heap) (locs : List Loc) (ls : Array Slot), va_P D classes (wld ct ad G y6) H → va_D A (wld ct ad G y6) → va_S A s.heap H locs → lv_has ls 20 [(11, .int y22), (10, .int x21), (9, .int x9), (8, .int y4), (7, .int y3), (6, va_re ad (M.2 b2 0)), (0, .ref (ad a)), (1, va_re ad p0), (2, .int p1), (3, .int p2), (4, .int p3), (5, .int p4)] → W p l e (headSpec wuX2_filterEdge ({ frames := 3, cells := 0, slots := 0, locals := 72 })).room s m ([.ref (ad a), va_re ad p0, .int p1, .int p2, .int p3, .int p4] : List Value).toArray below meth c H locs 0 0 (MQ below (va_Qv (fun (_ : Unit) => True) (fun _ t => kE D ct ad G A y t) A) ([.ref (ad a), va_re ad p0, .int p1, .int p2, .int p3, .int p4] : List Value).toArray s 0 0 A) (F0 m 163 ls [.int y23]) := by
              intro H locs ls hP hD hS hl
              refine lv_istore (lv' := [(12, .int y23), (11, .int y22), (10, .int x21), (9, .int x9), (8, .int y4), (7, .int y3), (6, va_re ad (M.2 b2 0)), (0, .ref (ad a)), (1, va_re ad p0), (2, .int p1), (3, .int p2), (4, .int p3), (5, .int p4)]) hx hb dX2_filterEdge_163 hl (by decide) rfl (fun ls hl => ?_)
              refine lv_iconst (v := (0 : Int32)) hx hb dX2_filterEdge_165 (by decide) ?_
              refine lv_istore (lv' := [(13, .int (0 : Int32)), (12, .int y23), (11, .int y22), (10, .int x21), (9, .int x9), (8, .int y4), (7, .int y3), (6, va_re ad (M.2 b2 0)), (0, .ref (ad a)), (1, va_re ad p0), (2, .int p1), (3, .int p2), (4, .int p3), (5, .int p4)]) hx hb dX2_filterEdge_166 hl (by decide) rfl (fun ls hl => ?_)
              obtain ⟨y24, hy24, hF⟩ := bnd_some hF
              have K24 : ∀ (H : Heap) (locs : List Loc) (ls : Array Slot), va_P D classes (wld ct ad G y24.2) H → va_D A (wld ct ad G y24.2) → va_S A s.heap H locs → lv_has ls 20 [(13, .int y24.1), (12, .int y23), (11, .int y22), (10, .int x21), (9, .int x9), (8, .int y4), (7, .int y3), (6, va_re ad (M.2 b2 0)), (0, .ref (ad a)), (1, va_re ad p0), (2, .int p1), (3, .int p2), (4, .int p3), (5, .int p4)] → W p l e (headSpec wuX2_filterEdge ({ frames := 3, cells := 0, slots := 0, locals := 72 })).room s m ([.ref (ad a), va_re ad p0, .int p1, .int p2, .int p3, .int p4] : List Value).toArray below meth c H locs 0 0 (MQ below (va_Qv (fun (_ : Unit) => True) (fun _ t => kE D ct ad G A y t) A) ([.ref (ad a), va_re ad p0, .int p1, .int p2, .int p3, .int p4] : List Value).toArray s 0 0 A) (F0 m 330 ls []) := by
                intro H locs ls hP hD hS hl
                obtain rfl := Option.some.inj hF
                exact W.vret hx hb hr (fun t ht hW => ⟨⟨(), rfl, trivial, ⟨by rw [ht]; exact hP, va_K.moved hW.alike hK, hD⟩⟩, hS.F ht⟩) hS.2.2 dX2_filterEdge_330
              clear hF
              refine itr_rule (fun (s25 : Int32 × DD) => ∀ (H : Heap) (locs : List Loc) (ls : Array Slot), va_P D classes (wld ct ad G s25.2) H → va_D A (wld ct ad G s25.2) → va_S A s.heap H locs → lv_has ls 20 [(13, .int s25.1), (12, .int y23), (11, .int y22), (10, .int x21), (9, .int x9), (8, .int y4), (7, .int y3), (6, va_re ad (M.2 b2 0)), (0, .ref (ad a)), (1, va_re ad p0), (2, .int p1), (3, .int p2), (4, .int p3), (5, .int p4)] → W p l e (headSpec wuX2_filterEdge ({ frames := 3, cells := 0, slots := 0, locals := 72 })).room s m ([.ref (ad a), va_re ad p0, .int p1, .int p2, .int p3, .int p4] : List Value).toArray below meth c H locs 0 0 (MQ below (va_Qv (fun (_ : Unit) => True) (fun _ t => kE D ct ad G A y t) A) ([.ref (ad a), va_re ad p0, .int p1, .int p2, .int p3, .int p4] : List Value).toArray s 0 0 A) (F0 m 168 ls [])) ?_ _ _ hy24 _ _ _ hP hD hS (lv_sub hl [0, 1, 2, 3, 4, 5, 6, 7, 8, 9, 10, 11, 12, 13] rfl)
              rintro s25 ⟨z27, hF, hwz27⟩ H locs ls hP hD hS hl
              try dsimp only at hF
              refine lv_iload hx hb dX2_filterEdge_168 (lv_at hl 0 rfl) ?_
              refine lv_iload hx hb dX2_filterEdge_170 (lv_at hl 6 rfl) ?_
              refine lv_icmp_ge (tgt := 330) hx hb dX2_filterEdge_172 (by decide) (fun c28 => ?_) (fun c28 => ?_)
              · rw [if_pos c28] at hF
                obtain rfl := Option.some.inj hF
                subst hwz27
                exact K24 _ _ _ hP hD hS (lv_sub hl [0, 1, 2, 3, 4, 5, 6, 7, 8, 9, 10, 11, 12, 13] rfl)
              · rw [if_neg c28] at hF
                refine lv_iload_n hx hb dX2_filterEdge_175 rfl (lv_at hl 11 rfl) ?_
                obtain ⟨y29, hy29, hF⟩ := bnd_some hF
                have J29 : ∀ (H : Heap) (locs : List Loc) (ls : Array Slot), va_P D classes (wld ct ad G s25.2) H → va_D A (wld ct ad G s25.2) → va_S A s.heap H locs → lv_has ls 20 [(13, .int s25.1), (12, .int y23), (11, .int y22), (10, .int x21), (9, .int x9), (8, .int y4), (7, .int y3), (6, va_re ad (M.2 b2 0)), (0, .ref (ad a)), (1, va_re ad p0), (2, .int p1), (3, .int p2), (4, .int p3), (5, .int p4)] → W p l e (headSpec wuX2_filterEdge ({ frames := 3, cells := 0, slots := 0, locals := 72 })).room s m ([.ref (ad a), va_re ad p0, .int p1, .int p2, .int p3, .int p4] : List Value).toArray below meth c H locs 0 0 (MQ below (va_Qv (fun (_ : Unit) => True) (fun _ t => kE D ct ad G A y t) A) ([.ref (ad a), va_re ad p0, .int p1, .int p2, .int p3, .int p4] : List Value).toArray s 0 0 A) (F0 m 188 ls [.int y29]) := by
                  intro H locs ls hP hD hS hl
                  refine lv_istore (lv' := [(14, .int y29), (13, .int s25.1), (12, .int y23), (11, .int y22), (10, .int x21), (9, .int x9), (8, .int y4), (7, .int y3), (6, va_re ad (M.2 b2 0)), (0, .ref (ad a)), (1, va_re ad p0), (2, .int p1), (3, .int p2), (4, .int p3), (5, .int p4)]) hx hb dX2_filterEdge_188 hl (by decide) rfl (fun ls hl => ?_)
                  refine lv_iload_n hx hb dX2_filterEdge_190 rfl (lv_at hl 12 rfl) ?_
                  obtain ⟨y30, hy30, hF⟩ := bnd_some hF
                  have J30 : ∀ (H : Heap) (locs : List Loc) (ls : Array Slot), va_P D classes (wld ct ad G s25.2) H → va_D A (wld ct ad G s25.2) → va_S A s.heap H locs → lv_has ls 20 [(14, .int y29), (13, .int s25.1), (12, .int y23), (11, .int y22), (10, .int x21), (9, .int x9), (8, .int y4), (7, .int y3), (6, va_re ad (M.2 b2 0)), (0, .ref (ad a)), (1, va_re ad p0), (2, .int p1), (3, .int p2), (4, .int p3), (5, .int p4)] → W p l e (headSpec wuX2_filterEdge ({ frames := 3, cells := 0, slots := 0, locals := 72 })).room s m ([.ref (ad a), va_re ad p0, .int p1, .int p2, .int p3, .int p4] : List Value).toArray below meth c H locs 0 0 (MQ below (va_Qv (fun (_ : Unit) => True) (fun _ t => kE D ct ad G A y t) A) ([.ref (ad a), va_re ad p0, .int p1, .int p2, .int p3, .int p4] : List Value).toArray s 0 0 A) (F0 m 206 ls [.int y30]) := by
                    intro H locs ls hP hD hS hl
                    refine lv_istore (lv' := [(15, .int y30), (14, .int y29), (13, .int s25.1), (12, .int y23), (11, .int y22), (10, .int x21), (9, .int x9), (8, .int y4), (7, .int y3), (6, va_re ad (M.2 b2 0)), (0, .ref (ad a)), (1, va_re ad p0), (2, .int p1), (3, .int p2), (4, .int p3), (5, .int p4)]) hx hb dX2_filterEdge_206 hl (by decide) rfl (fun ls hl => ?_)
                    refine lv_iload hx hb dX2_filterEdge_208 (lv_at hl 14 rfl) ?_
                    obtain ⟨y31, hy31, hF⟩ := bnd_some hF
                    have J31 : ∀ (H : Heap) (locs : List Loc) (ls : Array Slot), va_P D classes (wld ct ad G s25.2) H → va_D A (wld ct ad G s25.2) → va_S A s.heap H locs → lv_has ls 20 [(15, .int y30), (14, .int y29), (13, .int s25.1), (12, .int y23), (11, .int y22), (10, .int x21), (9, .int x9), (8, .int y4), (7, .int y3), (6, va_re ad (M.2 b2 0)), (0, .ref (ad a)), (1, va_re ad p0), (2, .int p1), (3, .int p2), (4, .int p3), (5, .int p4)] → W p l e (headSpec wuX2_filterEdge ({ frames := 3, cells := 0, slots := 0, locals := 72 })).room s m ([.ref (ad a), va_re ad p0, .int p1, .int p2, .int p3, .int p4] : List Value).toArray below meth c H locs 0 0 (MQ below (va_Qv (fun (_ : Unit) => True) (fun _ t => kE D ct ad G A y t) A) ([.ref (ad a), va_re ad p0, .int p1, .int p2, .int p3, .int p4] : List Value).toArray s 0 0 A) (F0 m 220 ls [.int y31]) := by
                      intro H locs ls hP hD hS hl
                      refine lv_istore (lv' := [(16, .int y31), (15, .int y30), (14, .int y29), (13, .int s25.1), (12, .int y23), (11, .int y22), (10, .int x21), (9, .int x9), (8, .int y4), (7, .int y3), (6, va_re ad (M.2 b2 0)), (0, .ref (ad a)), (1, va_re ad p0), (2, .int p1), (3, .int p2), (4, .int p3), (5, .int p4)]) hx hb dX2_filterEdge_220 hl (by decide) rfl (fun ls hl => ?_)
                      refine lv_iload hx hb dX2_filterEdge_222 (lv_at hl 15 rfl) ?_
                      obtain ⟨y32, hy32, hF⟩ := bnd_some hF
                      have J32 : ∀ (H : Heap) (locs : List Loc) (ls : Array Slot), va_P D classes (wld ct ad G s25.2) H → va_D A (wld ct ad G s25.2) → va_S A s.heap H locs → lv_has ls 20 [(16, .int y31), (15, .int y30), (14, .int y29), (13, .int s25.1), (12, .int y23), (11, .int y22), (10, .int x21), (9, .int x9), (8, .int y4), (7, .int y3), (6, va_re ad (M.2 b2 0)), (0, .ref (ad a)), (1, va_re ad p0), (2, .int p1), (3, .int p2), (4, .int p3), (5, .int p4)] → W p l e (headSpec wuX2_filterEdge ({ frames := 3, cells := 0, slots := 0, locals := 72 })).room s m ([.ref (ad a), va_re ad p0, .int p1, .int p2, .int p3, .int p4] : List Value).toArray below meth c H locs 0 0 (MQ below (va_Qv (fun (_ : Unit) => True) (fun _ t => kE D ct ad G A y t) A) ([.ref (ad a), va_re ad p0, .int p1, .int p2, .int p3, .int p4] : List Value).toArray s 0 0 A) (F0 m 234 ls [.int y32]) := by
                        intro H locs ls hP hD hS hl
                        refine lv_istore (lv' := [(17, .int y32), (16, .int y31), (15, .int y30), (14, .int y29), (13, .int s25.1), (12, .int y23), (11, .int y22), (10, .int x21), (9, .int x9), (8, .int y4), (7, .int y3), (6, va_re ad (M.2 b2 0)), (0, .ref (ad a)), (1, va_re ad p0), (2, .int p1), (3, .int p2), (4, .int p3), (5, .int p4)]) hx hb dX2_filterEdge_234 hl (by decide) rfl (fun ls hl => ?_)
                        refine lv_iload hx hb dX2_filterEdge_236 (lv_at hl 0 rfl) ?_
                        refine lv_iconst (v := (3 : Int32)) hx hb dX2_filterEdge_238 (by decide) ?_
                        refine lv_ishr hx hb dX2_filterEdge_239 ?_
                        obtain ⟨x33, ex33, hF⟩ := ltt_some hF
                        refine lv_topi (fun zx33 ezx33 => ?_)
                        obtain rfl : x33 = zx33 := ex33.trans ezx33.symm
                        refine lv_bipush (v := (8 : Int32)) hx hb dX2_filterEdge_240 (by decide) ?_
                        refine lv_imul hx hb dX2_filterEdge_242 ?_
                        obtain ⟨x34, ex34, hF⟩ := ltt_some hF
                        refine lv_topi (fun zx34 ezx34 => ?_)
                        obtain rfl : x34 = zx34 := ex34.trans ezx34.symm
                        refine lv_iload hx hb dX2_filterEdge_243 (lv_at hl 1 rfl) ?_
                        refine lv_iconst (v := (3 : Int32)) hx hb dX2_filterEdge_245 (by decide) ?_
                        refine lv_ishr hx hb dX2_filterEdge_246 ?_
                        obtain ⟨x35, ex35, hF⟩ := ltt_some hF
                        refine lv_topi (fun zx35 ezx35 => ?_)
                        obtain rfl : x35 = zx35 := ex35.trans ezx35.symm
                        refine lv_iconst (v := (4 : Int32)) hx hb dX2_filterEdge_247 (by decide) ?_
                        refine lv_imul hx hb dX2_filterEdge_248 ?_
                        obtain ⟨x36, ex36, hF⟩ := ltt_some hF
                        refine lv_topi (fun zx36 ezx36 => ?_)
                        obtain rfl : x36 = zx36 := ex36.trans ezx36.symm
                        refine lv_iadd hx hb dX2_filterEdge_249 ?_
                        obtain ⟨x37, ex37, hF⟩ := ltt_some hF
                        refine lv_topi (fun zx37 ezx37 => ?_)
                        obtain rfl : x37 = zx37 := ex37.trans ezx37.symm
                        refine lv_iload hx hb dX2_filterEdge_250 (lv_at hl 0 rfl) ?_
                        refine lv_iconst (v := (2 : Int32)) hx hb dX2_filterEdge_252 (by decide) ?_
                        refine lv_ishr hx hb dX2_filterEdge_253 ?_
                        obtain ⟨x38, ex38, hF⟩ := ltt_some hF
                        refine lv_topi (fun zx38 ezx38 => ?_)
                        obtain rfl : x38 = zx38 := ex38.trans ezx38.symm
                        refine lv_iconst (v := (1 : Int32)) hx hb dX2_filterEdge_254 (by decide) ?_
                        refine lv_iand hx hb dX2_filterEdge_255 ?_
                        obtain ⟨x39, ex39, hF⟩ := ltt_some hF
                        refine lv_topi (fun zx39 ezx39 => ?_)
                        obtain rfl : x39 = zx39 := ex39.trans ezx39.symm
                        refine lv_iconst (v := (2 : Int32)) hx hb dX2_filterEdge_256 (by decide) ?_
                        refine lv_imul hx hb dX2_filterEdge_257 ?_
                        obtain ⟨x40, ex40, hF⟩ := ltt_some hF
                        refine lv_topi (fun zx40 ezx40 => ?_)
                        obtain rfl : x40 = zx40 := ex40.trans ezx40.symm
                        refine lv_iadd hx hb dX2_filterEdge_258 ?_
                        obtain ⟨x41, ex41, hF⟩ := ltt_some hF
                        refine lv_topi (fun zx41 ezx41 => ?_)
                        obtain rfl : x41 = zx41 := ex41.trans ezx41.symm
                        refine lv_iload hx hb dX2_filterEdge_259 (lv_at hl 1 rfl) ?_
                        refine lv_iconst (v := (2 : Int32)) hx hb dX2_filterEdge_261 (by decide) ?_
                        refine lv_ishr hx hb dX2_filterEdge_262 ?_
                        obtain ⟨x42, ex42, hF⟩ := ltt_some hF
                        refine lv_topi (fun zx42 ezx42 => ?_)
                        obtain rfl : x42 = zx42 := ex42.trans ezx42.symm
                        refine lv_iconst (v := (1 : Int32)) hx hb dX2_filterEdge_263 (by decide) ?_
                        refine lv_iand hx hb dX2_filterEdge_264 ?_
                        obtain ⟨x43, ex43, hF⟩ := ltt_some hF
                        refine lv_topi (fun zx43 ezx43 => ?_)
                        obtain rfl : x43 = zx43 := ex43.trans ezx43.symm
                        refine lv_iadd hx hb dX2_filterEdge_265 ?_
                        obtain ⟨x44, ex44, hF⟩ := ltt_some hF
                        refine lv_topi (fun zx44 ezx44 => ?_)
                        obtain rfl : x44 = zx44 := ex44.trans ezx44.symm
                        refine lv_istore (lv' := [(18, .int x44), (17, .int y32), (16, .int y31), (15, .int y30), (14, .int y29), (13, .int s25.1), (12, .int y23), (11, .int y22), (10, .int x21), (9, .int x9), (8, .int y4), (7, .int y3), (6, va_re ad (M.2 b2 0)), (0, .ref (ad a)), (1, va_re ad p0), (2, .int p1), (3, .int p2), (4, .int p3), (5, .int p4)]) hx hb dX2_filterEdge_266 hl (by decide) rfl (fun ls hl => ?_)
                        refine lv_aload_n hx hb dX2_filterEdge_268 rfl (lv_at hl 13 rfl) ?_
                        refine va_get (D := D) (ci := 2) (v := va_re ad (s25.2.2 a 0)) (C := RX2) (T := TX2) (N := 7) hx hb hts (mus hf_X2) hown hK hP a (wld_o ct ad G s25.2 hc hk (by decide)) rfl 0 (by decide) (hts (.fieldLink RX2 9 "VideoSuite$Edges" "strength" "[I") (mu mw_585)) (fun _ h9 => h9) rfl dX2_filterEdge_269 ?_
                        refine lv_iconst (v := (2 : Int32)) hx hb dX2_filterEdge_272 (by decide) ?_
                        refine lv_bipush (v := (16 : Int32)) hx hb dX2_filterEdge_273 (by decide) ?_
                        refine lv_iload_n hx hb dX2_filterEdge_275 rfl (lv_at hl 15 rfl) ?_
                        refine lv_imul hx hb dX2_filterEdge_276 ?_
                        obtain ⟨x45, ex45, hF⟩ := ltt_some hF
                        refine lv_topi (fun zx45 ezx45 => ?_)
                        obtain rfl : x45 = zx45 := ex45.trans ezx45.symm
                        refine lv_iload hx hb dX2_filterEdge_277 (lv_at hl 0 rfl) ?_
                        refine lv_iadd hx hb dX2_filterEdge_279 ?_
                        obtain ⟨x46, ex46, hF⟩ := ltt_some hF
                        refine lv_topi (fun zx46 ezx46 => ?_)
                        obtain rfl : x46 = zx46 := ex46.trans ezx46.symm
                        refine lv_imul hx hb dX2_filterEdge_280 ?_
                        obtain ⟨x47, ex47, hF⟩ := ltt_some hF
                        refine lv_topi (fun zx47 ezx47 => ?_)
                        obtain rfl : x47 = zx47 := ex47.trans ezx47.symm
                        refine lv_iload hx hb dX2_filterEdge_281 (lv_at hl 17 rfl) ?_
                        refine lv_iadd hx hb dX2_filterEdge_283 ?_
                        obtain ⟨x48, ex48, hF⟩ := ltt_some hF
                        refine lv_topi (fun zx48 ezx48 => ?_)
                        obtain rfl : x48 = zx48 := ex48.trans ezx48.symm
                        obtain ⟨b49, ho49, hc49, hk49, hF⟩ := dr_some hF
                        refine W_st (st' := [.int x48, .ref (ad b49)]) (by rw [va_some ho49]) ?_
                        obtain ⟨hvc, hF⟩ := chk_some hF
                        refine va_iald hx hb hK hP b49 1 (wld_i ct ad G s25.2 hc49 hk49) rfl hvc dX2_filterEdge_284 ?_
                        obtain ⟨x50, ex50, hF⟩ := ltt_some hF
                        refine lv_topi (fun zx50 ezx50 => ?_)
                        obtain rfl : x50 = zx50 := ex50.trans ezx50.symm
                        refine lv_istore (lv' := [(19, .int x50), (18, .int x44), (17, .int y32), (16, .int y31), (15, .int y30), (14, .int y29), (13, .int s25.1), (12, .int y23), (11, .int y22), (10, .int x21), (9, .int x9), (8, .int y4), (7, .int y3), (6, va_re ad (M.2 b2 0)), (0, .ref (ad a)), (1, va_re ad p0), (2, .int p1), (3, .int p2), (4, .int p3), (5, .int p4)]) hx hb dX2_filterEdge_285 hl (by decide) rfl (fun ls hl => ?_)
                        refine lv_iload hx hb dX2_filterEdge_287 (lv_at hl 0 rfl) ?_
                        obtain ⟨y51, hy51, hF⟩ := bnd_some hF
                        have J51 : ∀ (H : Heap) (locs : List Loc) (ls : Array Slot), va_P D classes (wld ct ad G y51) H → va_D A (wld ct ad G y51) → va_S A s.heap H locs → lv_has ls 20 [(19, .int x50), (18, .int x44), (17, .int y32), (16, .int y31), (15, .int y30), (14, .int y29), (13, .int s25.1), (12, .int y23), (11, .int y22), (10, .int x21), (9, .int x9), (8, .int y4), (7, .int y3), (6, va_re ad (M.2 b2 0)), (0, .ref (ad a)), (1, va_re ad p0), (2, .int p1), (3, .int p2), (4, .int p3), (5, .int p4)] → W p l e (headSpec wuX2_filterEdge ({ frames := 3, cells := 0, slots := 0, locals := 72 })).room s m ([.ref (ad a), va_re ad p0, .int p1, .int p2, .int p3, .int p4] : List Value).toArray below meth c H locs 0 0 (MQ below (va_Qv (fun (_ : Unit) => True) (fun _ t => kE D ct ad G A y t) A) ([.ref (ad a), va_re ad p0, .int p1, .int p2, .int p3, .int p4] : List Value).toArray s 0 0 A) (F0 m 324 ls []) := by
                          intro H locs ls hP hD hS hl
                          obtain ⟨x52, ex52, hF⟩ := ltt_some hF
                          refine lv_iinc (v := x52) (lv' := [(13, .int x52), (19, .int x50), (18, .int x44), (17, .int y32), (16, .int y31), (15, .int y30), (14, .int y29), (12, .int y23), (11, .int y22), (10, .int x21), (9, .int x9), (8, .int y4), (7, .int y3), (6, va_re ad (M.2 b2 0)), (0, .ref (ad a)), (1, va_re ad p0), (2, .int p1), (3, .int p2), (4, .int p3), (5, .int p4)]) hx hb dX2_filterEdge_324 hl (k := 6) rfl (by rw [ex52]; rfl) (by decide) rfl (fun ls hl => ?_)
                          refine lv_goto (tgt := 168) hx hb dX2_filterEdge_327 (by decide) ?_
                          obtain rfl := Option.some.inj hF
                          exact hwz27 _ _ _ hP hD hS (lv_sub hl [0, 7, 8, 9, 10, 11, 12, 13, 14, 15, 16, 17, 18, 19] rfl)
                        clear hF
                        have hF := hy51
                        clear hy51
                        refine lv_if_le (tgt := 324) hx hb dX2_filterEdge_289 (by decide) (fun c53 => ?_) (fun c53 => ?_)
                        · rw [if_pos c53] at hF
                          obtain rfl := Option.some.inj hF
                          exact J51 _ _ _ hP hD hS (lv_sub hl [0, 1, 2, 3, 4, 5, 6, 7, 8, 9, 10, 11, 12, 13, 14, 15, 16, 17, 18, 19] rfl)
                        · rw [if_neg c53] at hF
                          refine lv_aload_n hx hb dX2_filterEdge_292 rfl (lv_at hl 14 rfl) ?_
                          refine lv_aloadq hx hb dX2_filterEdge_293 (lv_at hl 13 rfl) ?_
                          refine W_st (st' := [.ref (ad b7), .ref (ad a)]) (by rw [va_some ho7]) ?_
                          refine va_get (D := D) (ci := 4) (v := va_re ad (s25.2.2 b7 4)) (C := RX4) (T := TX4) (N := 18) hx hb hts (mus hf_X4) hown hK hP b7 (wld_o ct ad G s25.2 hc7 hk7 (by decide)) rfl 4 (by decide) (hts (.fieldLink RX2 58 "VideoSuite$Picture" "plane" "[[I") (mu mw_1432)) (fun _ h9 => h9) rfl dX2_filterEdge_295 ?_
                          refine lv_iload_n hx hb dX2_filterEdge_298 rfl (lv_at hl 17 rfl) ?_
                          obtain ⟨b54, ho54, hc54, hk54, hF⟩ := dr_some hF
                          refine W_st (st' := [.int p2, .ref (ad b54), .ref (ad a)]) (by rw [va_some ho54]) ?_
                          obtain ⟨hvc, hF⟩ := chk_some hF
                          refine ld_g hx hb hK hP hc54 hk54 hvc dX2_filterEdge_299 ?_
                          refine lv_iload hx hb dX2_filterEdge_300 (lv_at hl 9 rfl) ?_
                          refine lv_iload hx hb dX2_filterEdge_302 (lv_at hl 6 rfl) ?_
                          refine lv_iload hx hb dX2_filterEdge_304 (lv_at hl 7 rfl) ?_
                          refine lv_imul hx hb dX2_filterEdge_306 ?_
                          obtain ⟨x55, ex55, hF⟩ := ltt_some hF
                          refine lv_topi (fun zx55 ezx55 => ?_)
                          obtain rfl : x55 = zx55 := ex55.trans ezx55.symm
                          refine lv_iadd hx hb dX2_filterEdge_307 ?_
                          obtain ⟨x56, ex56, hF⟩ := ltt_some hF
                          refine lv_topi (fun zx56 ezx56 => ?_)
                          obtain rfl : x56 = zx56 := ex56.trans ezx56.symm
                          refine lv_iload hx hb dX2_filterEdge_308 (lv_at hl 8 rfl) ?_
                          refine lv_iload hx hb dX2_filterEdge_310 (lv_at hl 0 rfl) ?_
                          refine lv_iload_n hx hb dX2_filterEdge_312 rfl (lv_at hl 17 rfl) ?_
                          obtain ⟨y57, hy57, hF⟩ := bnd_some hF
                          have J57 : ∀ (H : Heap) (locs : List Loc) (ls : Array Slot), va_P D classes (wld ct ad G s25.2) H → va_D A (wld ct ad G s25.2) → va_S A s.heap H locs → lv_has ls 20 [(19, .int x50), (18, .int x44), (17, .int y32), (16, .int y31), (15, .int y30), (14, .int y29), (13, .int s25.1), (12, .int y23), (11, .int y22), (10, .int x21), (9, .int x9), (8, .int y4), (7, .int y3), (6, va_re ad (M.2 b2 0)), (0, .ref (ad a)), (1, va_re ad p0), (2, .int p1), (3, .int p2), (4, .int p3), (5, .int p4)] → W p l e (headSpec wuX2_filterEdge ({ frames := 3, cells := 0, slots := 0, locals := 72 })).room s m ([.ref (ad a), va_re ad p0, .int p1, .int p2, .int p3, .int p4] : List Value).toArray below meth c H locs 0 0 (MQ below (va_Qv (fun (_ : Unit) => True) (fun _ t => kE D ct ad G A y t) A) ([.ref (ad a), va_re ad p0, .int p1, .int p2, .int p3, .int p4] : List Value).toArray s 0 0 A) (F0 m 321 ls [.int y57, .int x50, .int y22, .int x56, va_re ad (s25.2.2 b54 p2.toNatClampNeg), .ref (ad a)]) := by
                            intro H locs ls hP hD hS hl
                            obtain ⟨y58, hy58, hF⟩ := bnd_some hF
                            have hf9 := wA_in hD hA9 hS
                            refine va_callv (va_runV (As := [va_re ad (s25.2.2 b54 p2.toNatClampNeg), .int x56, .int y22, .int x50, .int y57]) (rest := []) ⟨hx, hb, hml, hown, hts⟩ (kX2_filterLine l D ct ad Z G s25.2 H.size a ((s25.2.2 b54 p2.toNatClampNeg)) x56 y22 x50 y57 y58 hc hk hy58) (cwV 5 hts gX2_filterEdge_X2_filterLine rfl rfl rfl (by decide +kernel) ⟨Nat.le_of_ble_eq_true rfl, Nat.le_of_ble_eq_true rfl⟩) ⟨fun a U g mk q => by obtain ⟨q0, q1, qP, qK, qD, qZ, qN⟩ := q; exact ⟨q0, q1, qP, va_K.moved (u := U) (U := U.calling g mk a) (Vm.Alike.refl U.vm) qK, qD, sF.moved (u := U) (U := U.calling g mk a) (Vm.Alike.refl U.vm) qZ, nF.same rfl qN⟩, va_recv hK hP (ci := 2) (q0 := a) rfl (wld_o ct ad G s25.2 hc hk (by decide)), fun U hU hW => ⟨rfl, by rw [hU], by rw [hU]; exact hP, va_K.moved hW.alike hK, hD.weaken (fun _ _ _ _ => trivial), by rw [hU]; exact ((hZ.kept hS.2.1).narrow hf9).moved hW.alike, hN.warm hW⟩⟩ rfl rfl hl.1 rfl (lv_room (Nat.le_of_ble_eq_true rfl)) dX2_filterEdge_321 ⟨(Nat.zero_le _), (Nat.zero_le _)⟩) hS (fun q _ h => hf9 q h) hf9 (fun u t H locs ht hvm hw hB hz1 hk1 hS => ?_)
                            obtain ⟨hP, hK9, hD9⟩ := hB
                            rw [ht] at hP
                            have hD := hD9.weaken (fun _ q _ h => hf9 q.1 h)
                            obtain rfl := Option.some.inj hF
                            exact J51 _ _ _ hP hD hS (lv_sub hl [0, 1, 2, 3, 4, 5, 6, 7, 8, 9, 10, 11, 12, 13, 14, 15, 16, 17, 18, 19] rfl)
                          clear hF
                          have hF := hy57
                          clear hy57
                          refine lv_if_ne (tgt := 320) hx hb dX2_filterEdge_313 (by decide) (fun c59 => ?_) (fun c59 => ?_)
                          · rw [if_neg c59] at hF
                            refine lv_iconst (v := (0 : Int32)) hx hb dX2_filterEdge_320 (by decide) ?_
                            obtain rfl := Option.some.inj hF
                            exact J57 _ _ _ hP hD hS (lv_sub hl [0, 1, 2, 3, 4, 5, 6, 7, 8, 9, 10, 11, 12, 13, 14, 15, 16, 17, 18, 19] rfl)
                          · rw [if_pos c59] at hF
                            refine lv_iconst (v := (1 : Int32)) hx hb dX2_filterEdge_316 (by decide) ?_
                            refine lv_goto (tgt := 321) hx hb dX2_filterEdge_317 (by decide) ?_
                            obtain rfl := Option.some.inj hF
                            exact J57 _ _ _ hP hD hS (lv_sub hl [0, 1, 2, 3, 4, 5, 6, 7, 8, 9, 10, 11, 12, 13, 14, 15, 16, 17, 18, 19] rfl)
                      clear hF
                      have hF := hy32
                      clear hy32
                      refine lv_if_ne (tgt := 232) hx hb dX2_filterEdge_224 (by decide) (fun c60 => ?_) (fun c60 => ?_)
                      · rw [if_neg c60] at hF
                        refine lv_iload hx hb dX2_filterEdge_232 (lv_at hl 1 rfl) ?_
                        obtain rfl := Option.some.inj hF
                        exact J32 _ _ _ hP hD hS (lv_sub hl [0, 1, 2, 3, 4, 5, 6, 7, 8, 9, 10, 11, 12, 13, 14, 15, 16] rfl)
                      · rw [if_pos c60] at hF
                        refine lv_iload hx hb dX2_filterEdge_227 (lv_at hl 2 rfl) ?_
                        refine lv_goto (tgt := 234) hx hb dX2_filterEdge_229 (by decide) ?_
                        obtain rfl := Option.some.inj hF
                        exact J32 _ _ _ hP hD hS (lv_sub hl [0, 1, 2, 3, 4, 5, 6, 7, 8, 9, 10, 11, 12, 13, 14, 15, 16] rfl)
                    clear hF
                    have hF := hy31
                    clear hy31
                    refine lv_if_ne (tgt := 218) hx hb dX2_filterEdge_210 (by decide) (fun c61 => ?_) (fun c61 => ?_)
                    · rw [if_neg c61] at hF
                      refine lv_iload hx hb dX2_filterEdge_218 (lv_at hl 1 rfl) ?_
                      obtain rfl := Option.some.inj hF
                      exact J31 _ _ _ hP hD hS (lv_sub hl [0, 1, 2, 3, 4, 5, 6, 7, 8, 9, 10, 11, 12, 13, 14, 15] rfl)
                    · rw [if_pos c61] at hF
                      refine lv_iload hx hb dX2_filterEdge_213 (lv_at hl 0 rfl) ?_
                      refine lv_goto (tgt := 220) hx hb dX2_filterEdge_215 (by decide) ?_
                      obtain rfl := Option.some.inj hF
                      exact J31 _ _ _ hP hD hS (lv_sub hl [0, 1, 2, 3, 4, 5, 6, 7, 8, 9, 10, 11, 12, 13, 14, 15] rfl)
                  clear hF
                  have hF := hy30
                  clear hy30
                  refine lv_if_ne (tgt := 201) hx hb dX2_filterEdge_191 (by decide) (fun c62 => ?_) (fun c62 => ?_)
                  · rw [if_neg c62] at hF
                    refine lv_bipush (v := (8 : Int32)) hx hb dX2_filterEdge_201 (by decide) ?_
                    refine lv_iload hx hb dX2_filterEdge_203 (lv_at hl 14 rfl) ?_
                    refine lv_imul hx hb dX2_filterEdge_205 ?_
                    obtain ⟨x63, ex63, hF⟩ := ltt_some hF
                    refine lv_topi (fun zx63 ezx63 => ?_)
                    obtain rfl : x63 = zx63 := ex63.trans ezx63.symm
                    obtain rfl := Option.some.inj hF
                    exact J30 _ _ _ hP hD hS (lv_sub hl [0, 1, 2, 3, 4, 5, 6, 7, 8, 9, 10, 11, 12, 13, 14] rfl)
                  · rw [if_pos c62] at hF
                    refine lv_iconst (v := (4 : Int32)) hx hb dX2_filterEdge_194 (by decide) ?_
                    refine lv_iload hx hb dX2_filterEdge_195 (lv_at hl 14 rfl) ?_
                    refine lv_imul hx hb dX2_filterEdge_197 ?_
                    obtain ⟨x64, ex64, hF⟩ := ltt_some hF
                    refine lv_topi (fun zx64 ezx64 => ?_)
                    obtain rfl : x64 = zx64 := ex64.trans ezx64.symm
                    refine lv_goto (tgt := 206) hx hb dX2_filterEdge_198 (by decide) ?_
                    obtain rfl := Option.some.inj hF
                    exact J30 _ _ _ hP hD hS (lv_sub hl [0, 1, 2, 3, 4, 5, 6, 7, 8, 9, 10, 11, 12, 13, 14] rfl)
                clear hF
                have hF := hy29
                clear hy29
                refine lv_if_ne (tgt := 184) hx hb dX2_filterEdge_176 (by decide) (fun c65 => ?_) (fun c65 => ?_)
                · rw [if_neg c65] at hF
                  refine lv_iconst (v := (2 : Int32)) hx hb dX2_filterEdge_184 (by decide) ?_
                  refine lv_iload hx hb dX2_filterEdge_185 (lv_at hl 0 rfl) ?_
                  refine lv_imul hx hb dX2_filterEdge_187 ?_
                  obtain ⟨x66, ex66, hF⟩ := ltt_some hF
                  refine lv_topi (fun zx66 ezx66 => ?_)
                  obtain rfl : x66 = zx66 := ex66.trans ezx66.symm
                  obtain rfl := Option.some.inj hF
                  exact J29 _ _ _ hP hD hS (lv_sub hl [0, 1, 2, 3, 4, 5, 6, 7, 8, 9, 10, 11, 12, 13] rfl)
                · rw [if_pos c65] at hF
                  refine lv_iload hx hb dX2_filterEdge_179 (lv_at hl 0 rfl) ?_
                  refine lv_goto (tgt := 188) hx hb dX2_filterEdge_181 (by decide) ?_
                  obtain rfl := Option.some.inj hF
                  exact J29 _ _ _ hP hD hS (lv_sub hl [0, 1, 2, 3, 4, 5, 6, 7, 8, 9, 10, 11, 12, 13] rfl)
            clear hF
            have hF := hy23
            clear hy23
            refine lv_if_ne (tgt := 162) hx hb dX2_filterEdge_154 (by decide) (fun c67 => ?_) (fun c67 => ?_)
            · rw [if_neg c67] at hF
              refine lv_iconst (v := (1 : Int32)) hx hb dX2_filterEdge_162 (by decide) ?_
              obtain rfl := Option.some.inj hF
              exact J23 _ _ _ hP hD hS (lv_sub hl [0, 1, 2, 3, 4, 5, 6, 7, 8, 9, 10, 11] rfl)
            · rw [if_pos c67] at hF
              refine lv_iload hx hb dX2_filterEdge_157 (lv_at hl 2 rfl) ?_
              refine lv_goto (tgt := 163) hx hb dX2_filterEdge_159 (by decide) ?_
              obtain rfl := Option.some.inj hF
              exact J23 _ _ _ hP hD hS (lv_sub hl [0, 1, 2, 3, 4, 5, 6, 7, 8, 9, 10, 11] rfl)
          clear hF
          have hF := hy22
          clear hy22
          refine lv_if_ne (tgt := 148) hx hb dX2_filterEdge_141 (by decide) (fun c68 => ?_) (fun c68 => ?_)
          · rw [if_neg c68] at hF
            refine lv_iload hx hb dX2_filterEdge_148 (lv_at hl 1 rfl) ?_
            obtain rfl := Option.some.inj hF
            exact J22 _ _ _ hP hD hS (lv_sub hl [0, 1, 2, 3, 4, 5, 6, 7, 8, 9, 10] rfl)
          · rw [if_pos c68] at hF
            refine lv_iconst (v := (1 : Int32)) hx hb dX2_filterEdge_144 (by decide) ?_
            refine lv_goto (tgt := 150) hx hb dX2_filterEdge_145 (by decide) ?_
            obtain rfl := Option.some.inj hF
            exact J22 _ _ _ hP hD hS (lv_sub hl [0, 1, 2, 3, 4, 5, 6, 7, 8, 9, 10] rfl)
        clear hF
        have hF := hy19
        clear hy19
        refine lv_if_ne (tgt := 133) hx hb dX2_filterEdge_126 (by decide) (fun c69 => ?_) (fun c69 => ?_)
        · rw [if_neg c69] at hF
          refine lv_iload hx hb dX2_filterEdge_133 (lv_at hl 0 rfl) ?_
          obtain rfl := Option.some.inj hF
          exact J19 _ _ _ hP hD hS (lv_sub hl [0, 1, 2, 3, 4, 5, 6, 7, 8, 9] rfl)
        · rw [if_pos c69] at hF
          refine lv_iconst (v := (1 : Int32)) hx hb dX2_filterEdge_129 (by decide) ?_
          refine lv_goto (tgt := 135) hx hb dX2_filterEdge_130 (by decide) ?_
          obtain rfl := Option.some.inj hF
          exact J19 _ _ _ hP hD hS (lv_sub hl [0, 1, 2, 3, 4, 5, 6, 7, 8, 9] rfl)
      · rw [if_pos c5] at hF
        refine lv_iload hx hb dX2_filterEdge_53 (lv_at hl 7 rfl) ?_
        refine lv_if_ne (tgt := 71) hx hb dX2_filterEdge_55 (by decide) (fun c70 => ?_) (fun c70 => ?_)
        · rw [if_neg c70] at hF
          refine lv_iload hx hb dX2_filterEdge_71 (lv_at hl 0 rfl) ?_
          refine lv_if_ge (tgt := 77) hx hb dX2_filterEdge_73 (by decide) (fun c71 => ?_) (fun c71 => ?_)
          · rw [if_pos c71] at hF
            refine lv_aload_n hx hb dX2_filterEdge_77 rfl (lv_at hl 3 rfl) ?_
            refine lv_aloadq_n hx hb dX2_filterEdge_78 rfl (lv_at hl 4 rfl) ?_
            refine lv_iload hx hb dX2_filterEdge_79 (lv_at hl 0 rfl) ?_
            refine lv_iload_n hx hb dX2_filterEdge_81 rfl (lv_at hl 5 rfl) ?_
            refine lv_iload_n hx hb dX2_filterEdge_82 rfl (lv_at hl 6 rfl) ?_
            obtain ⟨y72, hy72, hF⟩ := bnd_some hF
            have hf9 := wA_in hD hA9 hS
            refine va_callv (va_runV (As := [va_re ad p0, .int y4, .int p1, .int p2]) (rest := []) ⟨hx, hb, hml, hown, hts⟩ (kX2_setThresholds l D ct ad Z G M H.size a p0 y4 p1 p2 y72 hc hk hy72) (cwV 4 hts gX2_filterEdge_X2_setThresholds rfl rfl rfl (by decide +kernel) ⟨Nat.le_of_ble_eq_true rfl, Nat.le_of_ble_eq_true rfl⟩) ⟨fun a U g mk q => by obtain ⟨q0, q1, qP, qK, qD, qZ, qN⟩ := q; exact ⟨q0, q1, qP, va_K.moved (u := U) (U := U.calling g mk a) (Vm.Alike.refl U.vm) qK, qD, sF.moved (u := U) (U := U.calling g mk a) (Vm.Alike.refl U.vm) qZ, nF.same rfl qN⟩, va_recv hK hP (ci := 2) (q0 := a) rfl (wld_o ct ad G M hc hk (by decide)), fun U hU hW => ⟨rfl, by rw [hU], by rw [hU]; exact hP, va_K.moved hW.alike hK, hD.weaken (fun _ _ _ _ => trivial), by rw [hU]; exact ((hZ.kept hS.2.1).narrow hf9).moved hW.alike, hN.warm hW⟩⟩ rfl rfl hl.1 rfl (lv_room (Nat.le_of_ble_eq_true rfl)) dX2_filterEdge_83 ⟨(Nat.zero_le _), (Nat.zero_le _)⟩) hS (fun q _ h => hf9 q h) hf9 (fun u t H locs ht hvm hw hB hz1 hk1 hS => ?_)
            obtain ⟨hP, hK9, hD9⟩ := hB
            rw [ht] at hP
            have hD := hD9.weaken (fun _ q _ h => hf9 q.1 h)
            refine lv_iload hx hb dX2_filterEdge_86 (lv_at hl 1 rfl) ?_
            refine lv_aloadq hx hb dX2_filterEdge_88 (lv_at hl 2 rfl) ?_
            obtain ⟨b73, ho73, hc73, hk73, hF⟩ := dr_some hF
            refine W_st (st' := [.ref (ad b73), .int y3]) (by rw [va_some ho73]) ?_
            refine va_get (D := D) (ci := 4) (v := .int (y72.1 b73 1)) (C := RX4) (T := TX4) (N := 18) hx hb hts (mus hf_X4) hown hK hP b73 (wld_o ct ad G y72 hc73 hk73 (by decide)) rfl 1 (by decide) (hts (.fieldLink RX2 49 "VideoSuite$Picture" "width" "I") (mu mw_1420)) (fun _ h9 => h9) rfl dX2_filterEdge_90 ?_
            obtain ⟨x74, ex74, hF⟩ := ltt_some hF
            refine lv_topi (fun zx74 ezx74 => ?_)
            obtain rfl : x74 = zx74 := ex74.trans ezx74.symm
            refine lv_imul hx hb dX2_filterEdge_93 ?_
            obtain ⟨x75, ex75, hF⟩ := ltt_some hF
            refine lv_topi (fun zx75 ezx75 => ?_)
            obtain rfl : x75 = zx75 := ex75.trans ezx75.symm
            refine lv_istore (lv' := [(9, .int x75), (8, .int y4), (7, .int y3), (6, va_re ad (M.2 b2 0)), (0, .ref (ad a)), (1, va_re ad p0), (2, .int p1), (3, .int p2), (4, .int p3), (5, .int p4)]) hx hb dX2_filterEdge_94 hl (by decide) rfl (fun ls hl => ?_)
            refine lv_iload hx hb dX2_filterEdge_96 (lv_at hl 2 rfl) ?_
            refine lv_iload_n hx hb dX2_filterEdge_98 rfl (lv_at hl 6 rfl) ?_
            refine lv_aloadq hx hb dX2_filterEdge_99 (lv_at hl 3 rfl) ?_
            refine W_st (st' := [.ref (ad b73), .int p1, .int y3]) (by rw [va_some ho73]) ?_
            refine va_get (D := D) (ci := 4) (v := .int (y72.1 b73 1)) (C := RX4) (T := TX4) (N := 18) hx hb hts (mus hf_X4) hown hK hP b73 (wld_o ct ad G y72 hc73 hk73 (by decide)) rfl 1 (by decide) (hts (.fieldLink RX2 49 "VideoSuite$Picture" "width" "I") (mu mw_1420)) (fun _ h9 => h9) rfl dX2_filterEdge_101 ?_
            obtain ⟨x76, ex76, hF⟩ := ltt_some hF
            refine lv_topi (fun zx76 ezx76 => ?_)
            obtain rfl : x76 = zx76 := ex76.trans ezx76.symm
            obtain ⟨hne, hF⟩ := chk_some hF
            refine lv_idiv hx hb dX2_filterEdge_104 hne ?_
            obtain ⟨x77, ex77, hF⟩ := ltt_some hF
            refine lv_topi (fun zx77 ezx77 => ?_)
            obtain rfl : x77 = zx77 := ex77.trans ezx77.symm
            refine lv_imul hx hb dX2_filterEdge_105 ?_
            obtain ⟨x78, ex78, hF⟩ := ltt_some hF
            refine lv_topi (fun zx78 ezx78 => ?_)
            obtain rfl : x78 = zx78 := ex78.trans ezx78.symm
            refine lv_iload hx hb dX2_filterEdge_106 (lv_at hl 0 rfl) ?_
            refine lv_imul hx hb dX2_filterEdge_108 ?_
            obtain ⟨x79, ex79, hF⟩ := ltt_some hF
            refine lv_topi (fun zx79 ezx79 => ?_)
            obtain rfl : x79 = zx79 := ex79.trans ezx79.symm
            refine lv_iload hx hb dX2_filterEdge_109 (lv_at hl 2 rfl) ?_
            refine lv_iload_n hx hb dX2_filterEdge_111 rfl (lv_at hl 6 rfl) ?_
            refine lv_aloadq hx hb dX2_filterEdge_112 (lv_at hl 3 rfl) ?_
            refine W_st (st' := [.ref (ad b73), .int p1, .int y3, .int x79]) (by rw [va_some ho73]) ?_
            refine va_get (D := D) (ci := 4) (v := .int (y72.1 b73 1)) (C := RX4) (T := TX4) (N := 18) hx hb hts (mus hf_X4) hown hK hP b73 (wld_o ct ad G y72 hc73 hk73 (by decide)) rfl 1 (by decide) (hts (.fieldLink RX2 49 "VideoSuite$Picture" "width" "I") (mu mw_1420)) (fun _ h9 => h9) rfl dX2_filterEdge_114 ?_
            obtain ⟨x80, ex80, hF⟩ := ltt_some hF
            refine lv_topi (fun zx80 ezx80 => ?_)
            obtain rfl : x80 = zx80 := ex80.trans ezx80.symm
            obtain ⟨hne, hF⟩ := chk_some hF
            refine lv_irem hx hb dX2_filterEdge_117 hne ?_
            obtain ⟨x81, ex81, hF⟩ := ltt_some hF
            refine lv_topi (fun zx81 ezx81 => ?_)
            obtain rfl : x81 = zx81 := ex81.trans ezx81.symm
            refine lv_imul hx hb dX2_filterEdge_118 ?_
            obtain ⟨x82, ex82, hF⟩ := ltt_some hF
            refine lv_topi (fun zx82 ezx82 => ?_)
            obtain rfl : x82 = zx82 := ex82.trans ezx82.symm
            refine lv_iadd hx hb dX2_filterEdge_119 ?_
            obtain ⟨x83, ex83, hF⟩ := ltt_some hF
            refine lv_topi (fun zx83 ezx83 => ?_)
            obtain rfl : x83 = zx83 := ex83.trans ezx83.symm
            refine lv_iconst (v := (4 : Int32)) hx hb dX2_filterEdge_120 (by decide) ?_
            refine lv_iload hx hb dX2_filterEdge_121 (lv_at hl 9 rfl) ?_
            refine lv_imul hx hb dX2_filterEdge_123 ?_
            obtain ⟨x84, ex84, hF⟩ := ltt_some hF
            refine lv_topi (fun zx84 ezx84 => ?_)
            obtain rfl : x84 = zx84 := ex84.trans ezx84.symm
            refine lv_iload hx hb dX2_filterEdge_124 (lv_at hl 8 rfl) ?_
            obtain ⟨y85, hy85, hF⟩ := bnd_some hF
            have J85 : ∀ (H : Heap) (locs : List Loc) (ls : Array Slot), va_P D classes (wld ct ad G y72) H → va_D A (wld ct ad G y72) → va_S A s.heap H locs → lv_has ls 20 [(9, .int x75), (8, .int y4), (7, .int y3), (6, va_re ad (M.2 b2 0)), (0, .ref (ad a)), (1, va_re ad p0), (2, .int p1), (3, .int p2), (4, .int p3), (5, .int p4)] → W p l e (headSpec wuX2_filterEdge ({ frames := 3, cells := 0, slots := 0, locals := 72 })).room s m ([.ref (ad a), va_re ad p0, .int p1, .int p2, .int p3, .int p4] : List Value).toArray below meth c H locs 0 0 (MQ below (va_Qv (fun (_ : Unit) => True) (fun _ t => kE D ct ad G A y t) A) ([.ref (ad a), va_re ad p0, .int p1, .int p2, .int p3, .int p4] : List Value).toArray s 0 0 A) (F0 m 135 ls [.int y85, .int x84, .int x83]) := by
              intro H locs ls hP hD hS hl
              refine lv_imul hx hb dX2_filterEdge_135 ?_
              obtain ⟨x86, ex86, hF⟩ := ltt_some hF
              refine lv_topi (fun zx86 ezx86 => ?_)
              obtain rfl : x86 = zx86 := ex86.trans ezx86.symm
              refine lv_iadd hx hb dX2_filterEdge_136 ?_
              obtain ⟨x87, ex87, hF⟩ := ltt_some hF
              refine lv_topi (fun zx87 ezx87 => ?_)
              obtain rfl : x87 = zx87 := ex87.trans ezx87.symm
              refine lv_istore (lv' := [(10, .int x87), (9, .int x75), (8, .int y4), (7, .int y3), (6, va_re ad (M.2 b2 0)), (0, .ref (ad a)), (1, va_re ad p0), (2, .int p1), (3, .int p2), (4, .int p3), (5, .int p4)]) hx hb dX2_filterEdge_137 hl (by decide) rfl (fun ls hl => ?_)
              refine lv_iload hx hb dX2_filterEdge_139 (lv_at hl 9 rfl) ?_
              obtain ⟨y88, hy88, hF⟩ := bnd_some hF
              have J88 : ∀ (H : Heap) (locs : List Loc) (ls : Array Slot), va_P D classes (wld ct ad G y72) H → va_D A (wld ct ad G y72) → va_S A s.heap H locs → lv_has ls 20 [(10, .int x87), (9, .int x75), (8, .int y4), (7, .int y3), (6, va_re ad (M.2 b2 0)), (0, .ref (ad a)), (1, va_re ad p0), (2, .int p1), (3, .int p2), (4, .int p3), (5, .int p4)] → W p l e (headSpec wuX2_filterEdge ({ frames := 3, cells := 0, slots := 0, locals := 72 })).room s m ([.ref (ad a), va_re ad p0, .int p1, .int p2, .int p3, .int p4] : List Value).toArray below meth c H locs 0 0 (MQ below (va_Qv (fun (_ : Unit) => True) (fun _ t => kE D ct ad G A y t) A) ([.ref (ad a), va_re ad p0, .int p1, .int p2, .int p3, .int p4] : List Value).toArray s 0 0 A) (F0 m 150 ls [.int y88]) := by
                intro H locs ls hP hD hS hl
                refine lv_istore (lv' := [(11, .int y88), (10, .int x87), (9, .int x75), (8, .int y4), (7, .int y3), (6, va_re ad (M.2 b2 0)), (0, .ref (ad a)), (1, va_re ad p0), (2, .int p1), (3, .int p2), (4, .int p3), (5, .int p4)]) hx hb dX2_filterEdge_150 hl (by decide) rfl (fun ls hl => ?_)
                refine lv_iload hx hb dX2_filterEdge_152 (lv_at hl 10 rfl) ?_
                obtain ⟨y89, hy89, hF⟩ := bnd_some hF
                have J89 : ∀ (H : Heap) (locs : List Loc) (ls : Array Slot), va_P D classes (wld ct ad G y72) H → va_D A (wld ct ad G y72) → va_S A s.heap H locs → lv_has ls 20 [(11, .int y88), (10, .int x87), (9, .int x75), (8, .int y4), (7, .int y3), (6, va_re ad (M.2 b2 0)), (0, .ref (ad a)), (1, va_re ad p0), (2, .int p1), (3, .int p2), (4, .int p3), (5, .int p4)] → W p l e (headSpec wuX2_filterEdge ({ frames := 3, cells := 0, slots := 0, locals := 72 })).room s m ([.ref (ad a), va_re ad p0, .int p1, .int p2, .int p3, .int p4] : List Value).toArray below meth c H locs 0 0 (MQ below (va_Qv (fun (_ : Unit) => True) (fun _ t => kE D ct ad G A y t) A) ([.ref (ad a), va_re ad p0, .int p1, .int p2, .int p3, .int p4] : List Value).toArray s 0 0 A) (F0 m 163 ls [.int y89]) := by
                  intro H locs ls hP hD hS hl
                  refine lv_istore (lv' := [(12, .int y89), (11, .int y88), (10, .int x87), (9, .int x75), (8, .int y4), (7, .int y3), (6, va_re ad (M.2 b2 0)), (0, .ref (ad a)), (1, va_re ad p0), (2, .int p1), (3, .int p2), (4, .int p3), (5, .int p4)]) hx hb dX2_filterEdge_163 hl (by decide) rfl (fun ls hl => ?_)
                  refine lv_iconst (v := (0 : Int32)) hx hb dX2_filterEdge_165 (by decide) ?_
                  refine lv_istore (lv' := [(13, .int (0 : Int32)), (12, .int y89), (11, .int y88), (10, .int x87), (9, .int x75), (8, .int y4), (7, .int y3), (6, va_re ad (M.2 b2 0)), (0, .ref (ad a)), (1, va_re ad p0), (2, .int p1), (3, .int p2), (4, .int p3), (5, .int p4)]) hx hb dX2_filterEdge_166 hl (by decide) rfl (fun ls hl => ?_)
                  obtain ⟨y90, hy90, hF⟩ := bnd_some hF
                  have K90 : ∀ (H : Heap) (locs : List Loc) (ls : Array Slot), va_P D classes (wld ct ad G y90.2) H → va_D A (wld ct ad G y90.2) → va_S A s.heap H locs → lv_has ls 20 [(13, .int y90.1), (12, .int y89), (11, .int y88), (10, .int x87), (9, .int x75), (8, .int y4), (7, .int y3), (6, va_re ad (M.2 b2 0)), (0, .ref (ad a)), (1, va_re ad p0), (2, .int p1), (3, .int p2), (4, .int p3), (5, .int p4)] → W p l e (headSpec wuX2_filterEdge ({ frames := 3, cells := 0, slots := 0, locals := 72 })).room s m ([.ref (ad a), va_re ad p0, .int p1, .int p2, .int p3, .int p4] : List Value).toArray below meth c H locs 0 0 (MQ below (va_Qv (fun (_ : Unit) => True) (fun _ t => kE D ct ad G A y t) A) ([.ref (ad a), va_re ad p0, .int p1, .int p2, .int p3, .int p4] : List Value).toArray s 0 0 A) (F0 m 330 ls []) := by
                    intro H locs ls hP hD hS hl
                    obtain rfl := Option.some.inj hF
                    exact W.vret hx hb hr (fun t ht hW => ⟨⟨(), rfl, trivial, ⟨by rw [ht]; exact hP, va_K.moved hW.alike hK, hD⟩⟩, hS.F ht⟩) hS.2.2 dX2_filterEdge_330
                  clear hF
                  refine itr_rule (fun (s91 : Int32 × DD) => ∀ (H : Heap) (locs : List Loc) (ls : Array Slot), va_P D classes (wld ct ad G s91.2) H → va_D A (wld ct ad G s91.2) → va_S A s.heap H locs → lv_has ls 20 [(13, .int s91.1), (12, .int y89), (11, .int y88), (10, .int x87), (9, .int x75), (8, .int y4), (7, .int y3), (6, va_re ad (M.2 b2 0)), (0, .ref (ad a)), (1, va_re ad p0), (2, .int p1), (3, .int p2), (4, .int p3), (5, .int p4)] → W p l e (headSpec wuX2_filterEdge ({ frames := 3, cells := 0, slots := 0, locals := 72 })).room s m ([.ref (ad a), va_re ad p0, .int p1, .int p2, .int p3, .int p4] : List Value).toArray below meth c H locs 0 0 (MQ below (va_Qv (fun (_ : Unit) => True) (fun _ t => kE D ct ad G A y t) A) ([.ref (ad a), va_re ad p0, .int p1, .int p2, .int p3, .int p4] : List Value).toArray s 0 0 A) (F0 m 168 ls [])) ?_ _ _ hy90 _ _ _ hP hD hS (lv_sub hl [0, 1, 2, 3, 4, 5, 6, 7, 8, 9, 10, 11, 12, 13] rfl)
                  rintro s91 ⟨z93, hF, hwz93⟩ H locs ls hP hD hS hl
                  try dsimp only at hF
                  refine lv_iload hx hb dX2_filterEdge_168 (lv_at hl 0 rfl) ?_
                  refine lv_iload hx hb dX2_filterEdge_170 (lv_at hl 6 rfl) ?_
                  refine lv_icmp_ge (tgt := 330) hx hb dX2_filterEdge_172 (by decide) (fun c94 => ?_) (fun c94 => ?_)
                  · rw [if_pos c94] at hF
                    obtain rfl := Option.some.inj hF
                    subst hwz93
                    exact K90 _ _ _ hP hD hS (lv_sub hl [0, 1, 2, 3, 4, 5, 6, 7, 8, 9, 10, 11, 12, 13] rfl)
                  · rw [if_neg c94] at hF
                    refine lv_iload_n hx hb dX2_filterEdge_175 rfl (lv_at hl 11 rfl) ?_
                    obtain ⟨y95, hy95, hF⟩ := bnd_some hF
                    have J95 : ∀ (H : Heap) (locs : List Loc) (ls : Array Slot), va_P D classes (wld ct ad G s91.2) H → va_D A (wld ct ad G s91.2) → va_S A s.heap H locs → lv_has ls 20 [(13, .int s91.1), (12, .int y89), (11, .int y88), (10, .int x87), (9, .int x75), (8, .int y4), (7, .int y3), (6, va_re ad (M.2 b2 0)), (0, .ref (ad a)), (1, va_re ad p0), (2, .int p1), (3, .int p2), (4, .int p3), (5, .int p4)] → W p l e (headSpec wuX2_filterEdge ({ frames := 3, cells := 0, slots := 0, locals := 72 })).room s m ([.ref (ad a), va_re ad p0, .int p1, .int p2, .int p3, .int p4] : List Value).toArray below meth c H locs 0 0 (MQ below (va_Qv (fun (_ : Unit) => True) (fun _ t => kE D ct ad G A y t) A) ([.ref (ad a), va_re ad p0, .int p1, .int p2, .int p3, .int p4] : List Value).toArray s 0 0 A) (F0 m 188 ls [.int y95]) := by
                      intro H locs ls hP hD hS hl
                      refine lv_istore (lv' := [(14, .int y95), (13, .int s91.1), (12, .int y89), (11, .int y88), (10, .int x87), (9, .int x75), (8, .int y4), (7, .int y3), (6, va_re ad (M.2 b2 0)), (0, .ref (ad a)), (1, va_re ad p0), (2, .int p1), (3, .int p2), (4, .int p3), (5, .int p4)]) hx hb dX2_filterEdge_188 hl (by decide) rfl (fun ls hl => ?_)
                      refine lv_iload_n hx hb dX2_filterEdge_190 rfl (lv_at hl 12 rfl) ?_
                      obtain ⟨y96, hy96, hF⟩ := bnd_some hF
                      have J96 : ∀ (H : Heap) (locs : List Loc) (ls : Array Slot), va_P D classes (wld ct ad G s91.2) H → va_D A (wld ct ad G s91.2) → va_S A s.heap H locs → lv_has ls 20 [(14, .int y95), (13, .int s91.1), (12, .int y89), (11, .int y88), (10, .int x87), (9, .int x75), (8, .int y4), (7, .int y3), (6, va_re ad (M.2 b2 0)), (0, .ref (ad a)), (1, va_re ad p0), (2, .int p1), (3, .int p2), (4, .int p3), (5, .int p4)] → W p l e (headSpec wuX2_filterEdge ({ frames := 3, cells := 0, slots := 0, locals := 72 })).room s m ([.ref (ad a), va_re ad p0, .int p1, .int p2, .int p3, .int p4] : List Value).toArray below meth c H locs 0 0 (MQ below (va_Qv (fun (_ : Unit) => True) (fun _ t => kE D ct ad G A y t) A) ([.ref (ad a), va_re ad p0, .int p1, .int p2, .int p3, .int p4] : List Value).toArray s 0 0 A) (F0 m 206 ls [.int y96]) := by
                        intro H locs ls hP hD hS hl
                        refine lv_istore (lv' := [(15, .int y96), (14, .int y95), (13, .int s91.1), (12, .int y89), (11, .int y88), (10, .int x87), (9, .int x75), (8, .int y4), (7, .int y3), (6, va_re ad (M.2 b2 0)), (0, .ref (ad a)), (1, va_re ad p0), (2, .int p1), (3, .int p2), (4, .int p3), (5, .int p4)]) hx hb dX2_filterEdge_206 hl (by decide) rfl (fun ls hl => ?_)
                        refine lv_iload hx hb dX2_filterEdge_208 (lv_at hl 14 rfl) ?_
                        obtain ⟨y97, hy97, hF⟩ := bnd_some hF
                        have J97 : ∀ (H : Heap) (locs : List Loc) (ls : Array Slot), va_P D classes (wld ct ad G s91.2) H → va_D A (wld ct ad G s91.2) → va_S A s.heap H locs → lv_has ls 20 [(15, .int y96), (14, .int y95), (13, .int s91.1), (12, .int y89), (11, .int y88), (10, .int x87), (9, .int x75), (8, .int y4), (7, .int y3), (6, va_re ad (M.2 b2 0)), (0, .ref (ad a)), (1, va_re ad p0), (2, .int p1), (3, .int p2), (4, .int p3), (5, .int p4)] → W p l e (headSpec wuX2_filterEdge ({ frames := 3, cells := 0, slots := 0, locals := 72 })).room s m ([.ref (ad a), va_re ad p0, .int p1, .int p2, .int p3, .int p4] : List Value).toArray below meth c H locs 0 0 (MQ below (va_Qv (fun (_ : Unit) => True) (fun _ t => kE D ct ad G A y t) A) ([.ref (ad a), va_re ad p0, .int p1, .int p2, .int p3, .int p4] : List Value).toArray s 0 0 A) (F0 m 220 ls [.int y97]) := by
                          intro H locs ls hP hD hS hl
                          refine lv_istore (lv' := [(16, .int y97), (15, .int y96), (14, .int y95), (13, .int s91.1), (12, .int y89), (11, .int y88), (10, .int x87), (9, .int x75), (8, .int y4), (7, .int y3), (6, va_re ad (M.2 b2 0)), (0, .ref (ad a)), (1, va_re ad p0), (2, .int p1), (3, .int p2), (4, .int p3), (5, .int p4)]) hx hb dX2_filterEdge_220 hl (by decide) rfl (fun ls hl => ?_)
                          refine lv_iload hx hb dX2_filterEdge_222 (lv_at hl 15 rfl) ?_
                          obtain ⟨y98, hy98, hF⟩ := bnd_some hF
                          have J98 : ∀ (H : Heap) (locs : List Loc) (ls : Array Slot), va_P D classes (wld ct ad G s91.2) H → va_D A (wld ct ad G s91.2) → va_S A s.heap H locs → lv_has ls 20 [(16, .int y97), (15, .int y96), (14, .int y95), (13, .int s91.1), (12, .int y89), (11, .int y88), (10, .int x87), (9, .int x75), (8, .int y4), (7, .int y3), (6, va_re ad (M.2 b2 0)), (0, .ref (ad a)), (1, va_re ad p0), (2, .int p1), (3, .int p2), (4, .int p3), (5, .int p4)] → W p l e (headSpec wuX2_filterEdge ({ frames := 3, cells := 0, slots := 0, locals := 72 })).room s m ([.ref (ad a), va_re ad p0, .int p1, .int p2, .int p3, .int p4] : List Value).toArray below meth c H locs 0 0 (MQ below (va_Qv (fun (_ : Unit) => True) (fun _ t => kE D ct ad G A y t) A) ([.ref (ad a), va_re ad p0, .int p1, .int p2, .int p3, .int p4] : List Value).toArray s 0 0 A) (F0 m 234 ls [.int y98]) := by
                            intro H locs ls hP hD hS hl
                            refine lv_istore (lv' := [(17, .int y98), (16, .int y97), (15, .int y96), (14, .int y95), (13, .int s91.1), (12, .int y89), (11, .int y88), (10, .int x87), (9, .int x75), (8, .int y4), (7, .int y3), (6, va_re ad (M.2 b2 0)), (0, .ref (ad a)), (1, va_re ad p0), (2, .int p1), (3, .int p2), (4, .int p3), (5, .int p4)]) hx hb dX2_filterEdge_234 hl (by decide) rfl (fun ls hl => ?_)
                            refine lv_iload hx hb dX2_filterEdge_236 (lv_at hl 0 rfl) ?_
                            refine lv_iconst (v := (3 : Int32)) hx hb dX2_filterEdge_238 (by decide) ?_
                            refine lv_ishr hx hb dX2_filterEdge_239 ?_
                            obtain ⟨x99, ex99, hF⟩ := ltt_some hF
                            refine lv_topi (fun zx99 ezx99 => ?_)
                            obtain rfl : x99 = zx99 := ex99.trans ezx99.symm
                            refine lv_bipush (v := (8 : Int32)) hx hb dX2_filterEdge_240 (by decide) ?_
                            refine lv_imul hx hb dX2_filterEdge_242 ?_
                            obtain ⟨x100, ex100, hF⟩ := ltt_some hF
                            refine lv_topi (fun zx100 ezx100 => ?_)
                            obtain rfl : x100 = zx100 := ex100.trans ezx100.symm
                            refine lv_iload hx hb dX2_filterEdge_243 (lv_at hl 1 rfl) ?_
                            refine lv_iconst (v := (3 : Int32)) hx hb dX2_filterEdge_245 (by decide) ?_
                            refine lv_ishr hx hb dX2_filterEdge_246 ?_
                            obtain ⟨x101, ex101, hF⟩ := ltt_some hF
                            refine lv_topi (fun zx101 ezx101 => ?_)
                            obtain rfl : x101 = zx101 := ex101.trans ezx101.symm
                            refine lv_iconst (v := (4 : Int32)) hx hb dX2_filterEdge_247 (by decide) ?_
                            refine lv_imul hx hb dX2_filterEdge_248 ?_
                            obtain ⟨x102, ex102, hF⟩ := ltt_some hF
                            refine lv_topi (fun zx102 ezx102 => ?_)
                            obtain rfl : x102 = zx102 := ex102.trans ezx102.symm
                            refine lv_iadd hx hb dX2_filterEdge_249 ?_
                            obtain ⟨x103, ex103, hF⟩ := ltt_some hF
                            refine lv_topi (fun zx103 ezx103 => ?_)
                            obtain rfl : x103 = zx103 := ex103.trans ezx103.symm
                            refine lv_iload hx hb dX2_filterEdge_250 (lv_at hl 0 rfl) ?_
                            refine lv_iconst (v := (2 : Int32)) hx hb dX2_filterEdge_252 (by decide) ?_
                            refine lv_ishr hx hb dX2_filterEdge_253 ?_
                            obtain ⟨x104, ex104, hF⟩ := ltt_some hF
                            refine lv_topi (fun zx104 ezx104 => ?_)
                            obtain rfl : x104 = zx104 := ex104.trans ezx104.symm
                            refine lv_iconst (v := (1 : Int32)) hx hb dX2_filterEdge_254 (by decide) ?_
                            refine lv_iand hx hb dX2_filterEdge_255 ?_
                            obtain ⟨x105, ex105, hF⟩ := ltt_some hF
                            refine lv_topi (fun zx105 ezx105 => ?_)
                            obtain rfl : x105 = zx105 := ex105.trans ezx105.symm
                            refine lv_iconst (v := (2 : Int32)) hx hb dX2_filterEdge_256 (by decide) ?_
                            refine lv_imul hx hb dX2_filterEdge_257 ?_
                            obtain ⟨x106, ex106, hF⟩ := ltt_some hF
                            refine lv_topi (fun zx106 ezx106 => ?_)
                            obtain rfl : x106 = zx106 := ex106.trans ezx106.symm
                            refine lv_iadd hx hb dX2_filterEdge_258 ?_
                            obtain ⟨x107, ex107, hF⟩ := ltt_some hF
                            refine lv_topi (fun zx107 ezx107 => ?_)
                            obtain rfl : x107 = zx107 := ex107.trans ezx107.symm
                            refine lv_iload hx hb dX2_filterEdge_259 (lv_at hl 1 rfl) ?_
                            refine lv_iconst (v := (2 : Int32)) hx hb dX2_filterEdge_261 (by decide) ?_
                            refine lv_ishr hx hb dX2_filterEdge_262 ?_
                            obtain ⟨x108, ex108, hF⟩ := ltt_some hF
                            refine lv_topi (fun zx108 ezx108 => ?_)
                            obtain rfl : x108 = zx108 := ex108.trans ezx108.symm
                            refine lv_iconst (v := (1 : Int32)) hx hb dX2_filterEdge_263 (by decide) ?_
                            refine lv_iand hx hb dX2_filterEdge_264 ?_
                            obtain ⟨x109, ex109, hF⟩ := ltt_some hF
                            refine lv_topi (fun zx109 ezx109 => ?_)
                            obtain rfl : x109 = zx109 := ex109.trans ezx109.symm
                            refine lv_iadd hx hb dX2_filterEdge_265 ?_
                            obtain ⟨x110, ex110, hF⟩ := ltt_some hF
                            refine lv_topi (fun zx110 ezx110 => ?_)
                            obtain rfl : x110 = zx110 := ex110.trans ezx110.symm
                            refine lv_istore (lv' := [(18, .int x110), (17, .int y98), (16, .int y97), (15, .int y96), (14, .int y95), (13, .int s91.1), (12, .int y89), (11, .int y88), (10, .int x87), (9, .int x75), (8, .int y4), (7, .int y3), (6, va_re ad (M.2 b2 0)), (0, .ref (ad a)), (1, va_re ad p0), (2, .int p1), (3, .int p2), (4, .int p3), (5, .int p4)]) hx hb dX2_filterEdge_266 hl (by decide) rfl (fun ls hl => ?_)
                            refine lv_aload_n hx hb dX2_filterEdge_268 rfl (lv_at hl 13 rfl) ?_
                            refine va_get (D := D) (ci := 2) (v := va_re ad (s91.2.2 a 0)) (C := RX2) (T := TX2) (N := 7) hx hb hts (mus hf_X2) hown hK hP a (wld_o ct ad G s91.2 hc hk (by decide)) rfl 0 (by decide) (hts (.fieldLink RX2 9 "VideoSuite$Edges" "strength" "[I") (mu mw_585)) (fun _ h9 => h9) rfl dX2_filterEdge_269 ?_
                            refine lv_iconst (v := (2 : Int32)) hx hb dX2_filterEdge_272 (by decide) ?_
                            refine lv_bipush (v := (16 : Int32)) hx hb dX2_filterEdge_273 (by decide) ?_
                            refine lv_iload_n hx hb dX2_filterEdge_275 rfl (lv_at hl 15 rfl) ?_
                            refine lv_imul hx hb dX2_filterEdge_276 ?_
                            obtain ⟨x111, ex111, hF⟩ := ltt_some hF
                            refine lv_topi (fun zx111 ezx111 => ?_)
                            obtain rfl : x111 = zx111 := ex111.trans ezx111.symm
                            refine lv_iload hx hb dX2_filterEdge_277 (lv_at hl 0 rfl) ?_
                            refine lv_iadd hx hb dX2_filterEdge_279 ?_
                            obtain ⟨x112, ex112, hF⟩ := ltt_some hF
                            refine lv_topi (fun zx112 ezx112 => ?_)
                            obtain rfl : x112 = zx112 := ex112.trans ezx112.symm
                            refine lv_imul hx hb dX2_filterEdge_280 ?_
                            obtain ⟨x113, ex113, hF⟩ := ltt_some hF
                            refine lv_topi (fun zx113 ezx113 => ?_)
                            obtain rfl : x113 = zx113 := ex113.trans ezx113.symm
                            refine lv_iload hx hb dX2_filterEdge_281 (lv_at hl 17 rfl) ?_
                            refine lv_iadd hx hb dX2_filterEdge_283 ?_
                            obtain ⟨x114, ex114, hF⟩ := ltt_some hF
                            refine lv_topi (fun zx114 ezx114 => ?_)
                            obtain rfl : x114 = zx114 := ex114.trans ezx114.symm
                            obtain ⟨b115, ho115, hc115, hk115, hF⟩ := dr_some hF
                            refine W_st (st' := [.int x114, .ref (ad b115)]) (by rw [va_some ho115]) ?_
                            obtain ⟨hvc, hF⟩ := chk_some hF
                            refine va_iald hx hb hK hP b115 1 (wld_i ct ad G s91.2 hc115 hk115) rfl hvc dX2_filterEdge_284 ?_
                            obtain ⟨x116, ex116, hF⟩ := ltt_some hF
                            refine lv_topi (fun zx116 ezx116 => ?_)
                            obtain rfl : x116 = zx116 := ex116.trans ezx116.symm
                            refine lv_istore (lv' := [(19, .int x116), (18, .int x110), (17, .int y98), (16, .int y97), (15, .int y96), (14, .int y95), (13, .int s91.1), (12, .int y89), (11, .int y88), (10, .int x87), (9, .int x75), (8, .int y4), (7, .int y3), (6, va_re ad (M.2 b2 0)), (0, .ref (ad a)), (1, va_re ad p0), (2, .int p1), (3, .int p2), (4, .int p3), (5, .int p4)]) hx hb dX2_filterEdge_285 hl (by decide) rfl (fun ls hl => ?_)
                            refine lv_iload hx hb dX2_filterEdge_287 (lv_at hl 0 rfl) ?_
                            obtain ⟨y117, hy117, hF⟩ := bnd_some hF
                            have J117 : ∀ (H : Heap) (locs : List Loc) (ls : Array Slot), va_P D classes (wld ct ad G y117) H → va_D A (wld ct ad G y117) → va_S A s.heap H locs → lv_has ls 20 [(19, .int x116), (18, .int x110), (17, .int y98), (16, .int y97), (15, .int y96), (14, .int y95), (13, .int s91.1), (12, .int y89), (11, .int y88), (10, .int x87), (9, .int x75), (8, .int y4), (7, .int y3), (6, va_re ad (M.2 b2 0)), (0, .ref (ad a)), (1, va_re ad p0), (2, .int p1), (3, .int p2), (4, .int p3), (5, .int p4)] → W p l e (headSpec wuX2_filterEdge ({ frames := 3, cells := 0, slots := 0, locals := 72 })).room s m ([.ref (ad a), va_re ad p0, .int p1, .int p2, .int p3, .int p4] : List Value).toArray below meth c H locs 0 0 (MQ below (va_Qv (fun (_ : Unit) => True) (fun _ t => kE D ct ad G A y t) A) ([.ref (ad a), va_re ad p0, .int p1, .int p2, .int p3, .int p4] : List Value).toArray s 0 0 A) (F0 m 324 ls []) := by
                              intro H locs ls hP hD hS hl
                              obtain ⟨x118, ex118, hF⟩ := ltt_some hF
                              refine lv_iinc (v := x118) (lv' := [(13, .int x118), (19, .int x116), (18, .int x110), (17, .int y98), (16, .int y97), (15, .int y96), (14, .int y95), (12, .int y89), (11, .int y88), (10, .int x87), (9, .int x75), (8, .int y4), (7, .int y3), (6, va_re ad (M.2 b2 0)), (0, .ref (ad a)), (1, va_re ad p0), (2, .int p1), (3, .int p2), (4, .int p3), (5, .int p4)]) hx hb dX2_filterEdge_324 hl (k := 6) rfl (by rw [ex118]; rfl) (by decide) rfl (fun ls hl => ?_)
                              refine lv_goto (tgt := 168) hx hb dX2_filterEdge_327 (by decide) ?_
                              obtain rfl := Option.some.inj hF
                              exact hwz93 _ _ _ hP hD hS (lv_sub hl [0, 7, 8, 9, 10, 11, 12, 13, 14, 15, 16, 17, 18, 19] rfl)
                            clear hF
                            have hF := hy117
                            clear hy117
                            refine lv_if_le (tgt := 324) hx hb dX2_filterEdge_289 (by decide) (fun c119 => ?_) (fun c119 => ?_)
                            · rw [if_pos c119] at hF
                              obtain rfl := Option.some.inj hF
                              exact J117 _ _ _ hP hD hS (lv_sub hl [0, 1, 2, 3, 4, 5, 6, 7, 8, 9, 10, 11, 12, 13, 14, 15, 16, 17, 18, 19] rfl)
                            · rw [if_neg c119] at hF
                              refine lv_aload_n hx hb dX2_filterEdge_292 rfl (lv_at hl 14 rfl) ?_
                              refine lv_aloadq hx hb dX2_filterEdge_293 (lv_at hl 13 rfl) ?_
                              refine W_st (st' := [.ref (ad b73), .ref (ad a)]) (by rw [va_some ho73]) ?_
                              refine va_get (D := D) (ci := 4) (v := va_re ad (s91.2.2 b73 4)) (C := RX4) (T := TX4) (N := 18) hx hb hts (mus hf_X4) hown hK hP b73 (wld_o ct ad G s91.2 hc73 hk73 (by decide)) rfl 4 (by decide) (hts (.fieldLink RX2 58 "VideoSuite$Picture" "plane" "[[I") (mu mw_1432)) (fun _ h9 => h9) rfl dX2_filterEdge_295 ?_
                              refine lv_iload_n hx hb dX2_filterEdge_298 rfl (lv_at hl 17 rfl) ?_
                              obtain ⟨b120, ho120, hc120, hk120, hF⟩ := dr_some hF
                              refine W_st (st' := [.int p2, .ref (ad b120), .ref (ad a)]) (by rw [va_some ho120]) ?_
                              obtain ⟨hvc, hF⟩ := chk_some hF
                              refine ld_g hx hb hK hP hc120 hk120 hvc dX2_filterEdge_299 ?_
                              refine lv_iload hx hb dX2_filterEdge_300 (lv_at hl 9 rfl) ?_
                              refine lv_iload hx hb dX2_filterEdge_302 (lv_at hl 6 rfl) ?_
                              refine lv_iload hx hb dX2_filterEdge_304 (lv_at hl 7 rfl) ?_
                              refine lv_imul hx hb dX2_filterEdge_306 ?_
                              obtain ⟨x121, ex121, hF⟩ := ltt_some hF
                              refine lv_topi (fun zx121 ezx121 => ?_)
                              obtain rfl : x121 = zx121 := ex121.trans ezx121.symm
                              refine lv_iadd hx hb dX2_filterEdge_307 ?_
                              obtain ⟨x122, ex122, hF⟩ := ltt_some hF
                              refine lv_topi (fun zx122 ezx122 => ?_)
                              obtain rfl : x122 = zx122 := ex122.trans ezx122.symm
                              refine lv_iload hx hb dX2_filterEdge_308 (lv_at hl 8 rfl) ?_
                              refine lv_iload hx hb dX2_filterEdge_310 (lv_at hl 0 rfl) ?_
                              refine lv_iload_n hx hb dX2_filterEdge_312 rfl (lv_at hl 17 rfl) ?_
                              obtain ⟨y123, hy123, hF⟩ := bnd_some hF
                              have J123 : ∀ (H : Heap) (locs : List Loc) (ls : Array Slot), va_P D classes (wld ct ad G s91.2) H → va_D A (wld ct ad G s91.2) → va_S A s.heap H locs → lv_has ls 20 [(19, .int x116), (18, .int x110), (17, .int y98), (16, .int y97), (15, .int y96), (14, .int y95), (13, .int s91.1), (12, .int y89), (11, .int y88), (10, .int x87), (9, .int x75), (8, .int y4), (7, .int y3), (6, va_re ad (M.2 b2 0)), (0, .ref (ad a)), (1, va_re ad p0), (2, .int p1), (3, .int p2), (4, .int p3), (5, .int p4)] → W p l e (headSpec wuX2_filterEdge ({ frames := 3, cells := 0, slots := 0, locals := 72 })).room s m ([.ref (ad a), va_re ad p0, .int p1, .int p2, .int p3, .int p4] : List Value).toArray below meth c H locs 0 0 (MQ below (va_Qv (fun (_ : Unit) => True) (fun _ t => kE D ct ad G A y t) A) ([.ref (ad a), va_re ad p0, .int p1, .int p2, .int p3, .int p4] : List Value).toArray s 0 0 A) (F0 m 321 ls [.int y123, .int x116, .int y88, .int x122, va_re ad (s91.2.2 b120 p2.toNatClampNeg), .ref (ad a)]) := by
                                intro H locs ls hP hD hS hl
                                obtain ⟨y124, hy124, hF⟩ := bnd_some hF
                                have hf9 := wA_in hD hA9 hS
                                refine va_callv (va_runV (As := [va_re ad (s91.2.2 b120 p2.toNatClampNeg), .int x122, .int y88, .int x116, .int y123]) (rest := []) ⟨hx, hb, hml, hown, hts⟩ (kX2_filterLine l D ct ad Z G s91.2 H.size a ((s91.2.2 b120 p2.toNatClampNeg)) x122 y88 x116 y123 y124 hc hk hy124) (cwV 5 hts gX2_filterEdge_X2_filterLine rfl rfl rfl (by decide +kernel) ⟨Nat.le_of_ble_eq_true rfl, Nat.le_of_ble_eq_true rfl⟩) ⟨fun a U g mk q => by obtain ⟨q0, q1, qP, qK, qD, qZ, qN⟩ := q; exact ⟨q0, q1, qP, va_K.moved (u := U) (U := U.calling g mk a) (Vm.Alike.refl U.vm) qK, qD, sF.moved (u := U) (U := U.calling g mk a) (Vm.Alike.refl U.vm) qZ, nF.same rfl qN⟩, va_recv hK hP (ci := 2) (q0 := a) rfl (wld_o ct ad G s91.2 hc hk (by decide)), fun U hU hW => ⟨rfl, by rw [hU], by rw [hU]; exact hP, va_K.moved hW.alike hK, hD.weaken (fun _ _ _ _ => trivial), by rw [hU]; exact ((hZ.kept hS.2.1).narrow hf9).moved hW.alike, hN.warm hW⟩⟩ rfl rfl hl.1 rfl (lv_room (Nat.le_of_ble_eq_true rfl)) dX2_filterEdge_321 ⟨(Nat.zero_le _), (Nat.zero_le _)⟩) hS (fun q _ h => hf9 q h) hf9 (fun u t H locs ht hvm hw hB hz1 hk1 hS => ?_)
                                obtain ⟨hP, hK9, hD9⟩ := hB
                                rw [ht] at hP
                                have hD := hD9.weaken (fun _ q _ h => hf9 q.1 h)
                                obtain rfl := Option.some.inj hF
                                exact J117 _ _ _ hP hD hS (lv_sub hl [0, 1, 2, 3, 4, 5, 6, 7, 8, 9, 10, 11, 12, 13, 14, 15, 16, 17, 18, 19] rfl)
                              clear hF
                              have hF := hy123
                              clear hy123
                              refine lv_if_ne (tgt := 320) hx hb dX2_filterEdge_313 (by decide) (fun c125 => ?_) (fun c125 => ?_)
                              · rw [if_neg c125] at hF
                                refine lv_iconst (v := (0 : Int32)) hx hb dX2_filterEdge_320 (by decide) ?_
                                obtain rfl := Option.some.inj hF
                                exact J123 _ _ _ hP hD hS (lv_sub hl [0, 1, 2, 3, 4, 5, 6, 7, 8, 9, 10, 11, 12, 13, 14, 15, 16, 17, 18, 19] rfl)
                              · rw [if_pos c125] at hF
                                refine lv_iconst (v := (1 : Int32)) hx hb dX2_filterEdge_316 (by decide) ?_
                                refine lv_goto (tgt := 321) hx hb dX2_filterEdge_317 (by decide) ?_
                                obtain rfl := Option.some.inj hF
                                exact J123 _ _ _ hP hD hS (lv_sub hl [0, 1, 2, 3, 4, 5, 6, 7, 8, 9, 10, 11, 12, 13, 14, 15, 16, 17, 18, 19] rfl)
                          clear hF
                          have hF := hy98
                          clear hy98
                          refine lv_if_ne (tgt := 232) hx hb dX2_filterEdge_224 (by decide) (fun c126 => ?_) (fun c126 => ?_)
                          · rw [if_neg c126] at hF
                            refine lv_iload hx hb dX2_filterEdge_232 (lv_at hl 1 rfl) ?_
                            obtain rfl := Option.some.inj hF
                            exact J98 _ _ _ hP hD hS (lv_sub hl [0, 1, 2, 3, 4, 5, 6, 7, 8, 9, 10, 11, 12, 13, 14, 15, 16] rfl)
                          · rw [if_pos c126] at hF
                            refine lv_iload hx hb dX2_filterEdge_227 (lv_at hl 2 rfl) ?_
                            refine lv_goto (tgt := 234) hx hb dX2_filterEdge_229 (by decide) ?_
                            obtain rfl := Option.some.inj hF
                            exact J98 _ _ _ hP hD hS (lv_sub hl [0, 1, 2, 3, 4, 5, 6, 7, 8, 9, 10, 11, 12, 13, 14, 15, 16] rfl)
                        clear hF
                        have hF := hy97
                        clear hy97
                        refine lv_if_ne (tgt := 218) hx hb dX2_filterEdge_210 (by decide) (fun c127 => ?_) (fun c127 => ?_)
                        · rw [if_neg c127] at hF
                          refine lv_iload hx hb dX2_filterEdge_218 (lv_at hl 1 rfl) ?_
                          obtain rfl := Option.some.inj hF
                          exact J97 _ _ _ hP hD hS (lv_sub hl [0, 1, 2, 3, 4, 5, 6, 7, 8, 9, 10, 11, 12, 13, 14, 15] rfl)
                        · rw [if_pos c127] at hF
                          refine lv_iload hx hb dX2_filterEdge_213 (lv_at hl 0 rfl) ?_
                          refine lv_goto (tgt := 220) hx hb dX2_filterEdge_215 (by decide) ?_
                          obtain rfl := Option.some.inj hF
                          exact J97 _ _ _ hP hD hS (lv_sub hl [0, 1, 2, 3, 4, 5, 6, 7, 8, 9, 10, 11, 12, 13, 14, 15] rfl)
                      clear hF
                      have hF := hy96
                      clear hy96
                      refine lv_if_ne (tgt := 201) hx hb dX2_filterEdge_191 (by decide) (fun c128 => ?_) (fun c128 => ?_)
                      · rw [if_neg c128] at hF
                        refine lv_bipush (v := (8 : Int32)) hx hb dX2_filterEdge_201 (by decide) ?_
                        refine lv_iload hx hb dX2_filterEdge_203 (lv_at hl 14 rfl) ?_
                        refine lv_imul hx hb dX2_filterEdge_205 ?_
                        obtain ⟨x129, ex129, hF⟩ := ltt_some hF
                        refine lv_topi (fun zx129 ezx129 => ?_)
                        obtain rfl : x129 = zx129 := ex129.trans ezx129.symm
                        obtain rfl := Option.some.inj hF
                        exact J96 _ _ _ hP hD hS (lv_sub hl [0, 1, 2, 3, 4, 5, 6, 7, 8, 9, 10, 11, 12, 13, 14] rfl)
                      · rw [if_pos c128] at hF
                        refine lv_iconst (v := (4 : Int32)) hx hb dX2_filterEdge_194 (by decide) ?_
                        refine lv_iload hx hb dX2_filterEdge_195 (lv_at hl 14 rfl) ?_
                        refine lv_imul hx hb dX2_filterEdge_197 ?_
                        obtain ⟨x130, ex130, hF⟩ := ltt_some hF
                        refine lv_topi (fun zx130 ezx130 => ?_)
                        obtain rfl : x130 = zx130 := ex130.trans ezx130.symm
                        refine lv_goto (tgt := 206) hx hb dX2_filterEdge_198 (by decide) ?_
                        obtain rfl := Option.some.inj hF
                        exact J96 _ _ _ hP hD hS (lv_sub hl [0, 1, 2, 3, 4, 5, 6, 7, 8, 9, 10, 11, 12, 13, 14] rfl)
                    clear hF
                    have hF := hy95
                    clear hy95
                    refine lv_if_ne (tgt := 184) hx hb dX2_filterEdge_176 (by decide) (fun c131 => ?_) (fun c131 => ?_)
                    · rw [if_neg c131] at hF
                      refine lv_iconst (v := (2 : Int32)) hx hb dX2_filterEdge_184 (by decide) ?_
                      refine lv_iload hx hb dX2_filterEdge_185 (lv_at hl 0 rfl) ?_
                      refine lv_imul hx hb dX2_filterEdge_187 ?_
                      obtain ⟨x132, ex132, hF⟩ := ltt_some hF
                      refine lv_topi (fun zx132 ezx132 => ?_)
                      obtain rfl : x132 = zx132 := ex132.trans ezx132.symm
                      obtain rfl := Option.some.inj hF
                      exact J95 _ _ _ hP hD hS (lv_sub hl [0, 1, 2, 3, 4, 5, 6, 7, 8, 9, 10, 11, 12, 13] rfl)
                    · rw [if_pos c131] at hF
                      refine lv_iload hx hb dX2_filterEdge_179 (lv_at hl 0 rfl) ?_
                      refine lv_goto (tgt := 188) hx hb dX2_filterEdge_181 (by decide) ?_
                      obtain rfl := Option.some.inj hF
                      exact J95 _ _ _ hP hD hS (lv_sub hl [0, 1, 2, 3, 4, 5, 6, 7, 8, 9, 10, 11, 12, 13] rfl)
                clear hF
                have hF := hy89
                clear hy89
                refine lv_if_ne (tgt := 162) hx hb dX2_filterEdge_154 (by decide) (fun c133 => ?_) (fun c133 => ?_)
                · rw [if_neg c133] at hF
                  refine lv_iconst (v := (1 : Int32)) hx hb dX2_filterEdge_162 (by decide) ?_
                  obtain rfl := Option.some.inj hF
                  exact J89 _ _ _ hP hD hS (lv_sub hl [0, 1, 2, 3, 4, 5, 6, 7, 8, 9, 10, 11] rfl)
                · rw [if_pos c133] at hF
                  refine lv_iload hx hb dX2_filterEdge_157 (lv_at hl 2 rfl) ?_
                  refine lv_goto (tgt := 163) hx hb dX2_filterEdge_159 (by decide) ?_
                  obtain rfl := Option.some.inj hF
                  exact J89 _ _ _ hP hD hS (lv_sub hl [0, 1, 2, 3, 4, 5, 6, 7, 8, 9, 10, 11] rfl)
              clear hF
              have hF := hy88
              clear hy88
              refine lv_if_ne (tgt := 148) hx hb dX2_filterEdge_141 (by decide) (fun c134 => ?_) (fun c134 => ?_)
              · rw [if_neg c134] at hF
                refine lv_iload hx hb dX2_filterEdge_148 (lv_at hl 1 rfl) ?_
                obtain rfl := Option.some.inj hF
                exact J88 _ _ _ hP hD hS (lv_sub hl [0, 1, 2, 3, 4, 5, 6, 7, 8, 9, 10] rfl)
              · rw [if_pos c134] at hF
                refine lv_iconst (v := (1 : Int32)) hx hb dX2_filterEdge_144 (by decide) ?_
                refine lv_goto (tgt := 150) hx hb dX2_filterEdge_145 (by decide) ?_
                obtain rfl := Option.some.inj hF
                exact J88 _ _ _ hP hD hS (lv_sub hl [0, 1, 2, 3, 4, 5, 6, 7, 8, 9, 10] rfl)
            clear hF
            have hF := hy85
            clear hy85
            refine lv_if_ne (tgt := 133) hx hb dX2_filterEdge_126 (by decide) (fun c135 => ?_) (fun c135 => ?_)
            · rw [if_neg c135] at hF
              refine lv_iload hx hb dX2_filterEdge_133 (lv_at hl 0 rfl) ?_
              obtain rfl := Option.some.inj hF
              exact J85 _ _ _ hP hD hS (lv_sub hl [0, 1, 2, 3, 4, 5, 6, 7, 8, 9] rfl)
            · rw [if_pos c135] at hF
              refine lv_iconst (v := (1 : Int32)) hx hb dX2_filterEdge_129 (by decide) ?_
              refine lv_goto (tgt := 135) hx hb dX2_filterEdge_130 (by decide) ?_
              obtain rfl := Option.some.inj hF
              exact J85 _ _ _ hP hD hS (lv_sub hl [0, 1, 2, 3, 4, 5, 6, 7, 8, 9] rfl)
          · rw [if_neg c71] at hF
            obtain rfl := Option.some.inj hF
            exact W.vret hx hb hr (fun t ht hW => ⟨⟨(), rfl, trivial, ⟨by rw [ht]; exact hP, va_K.moved hW.alike hK, hD⟩⟩, hS.F ht⟩) hS.2.2 dX2_filterEdge_76
        · rw [if_pos c70] at hF
          refine lv_iload_n hx hb dX2_filterEdge_58 rfl (lv_at hl 5 rfl) ?_
          refine lv_aloadq hx hb dX2_filterEdge_59 (lv_at hl 2 rfl) ?_
          obtain ⟨b136, ho136, hc136, hk136, hF⟩ := dr_some hF
          refine W_st (st' := [.ref (ad b136), .int p1]) (by rw [va_some ho136]) ?_
          refine va_get (D := D) (ci := 4) (v := .int (M.1 b136 1)) (C := RX4) (T := TX4) (N := 18) hx hb hts (mus hf_X4) hown hK hP b136 (wld_o ct ad G M hc136 hk136 (by decide)) rfl 1 (by decide) (hts (.fieldLink RX2 49 "VideoSuite$Picture" "width" "I") (mu mw_1420)) (fun _ h9 => h9) rfl dX2_filterEdge_61 ?_
          obtain ⟨x137, ex137, hF⟩ := ltt_some hF
          refine lv_topi (fun zx137 ezx137 => ?_)
          obtain rfl : x137 = zx137 := ex137.trans ezx137.symm
          obtain ⟨hne, hF⟩ := chk_some hF
          refine lv_irem hx hb dX2_filterEdge_64 hne ?_
          obtain ⟨x138, ex138, hF⟩ := ltt_some hF
          refine lv_topi (fun zx138 ezx138 => ?_)
          obtain rfl : x138 = zx138 := ex138.trans ezx138.symm
          refine lv_if_ne (tgt := 77) hx hb dX2_filterEdge_65 (by decide) (fun c139 => ?_) (fun c139 => ?_)
          · rw [if_neg c139] at hF
            refine lv_aload_n hx hb dX2_filterEdge_77 rfl (lv_at hl 3 rfl) ?_
            refine lv_aloadq_n hx hb dX2_filterEdge_78 rfl (lv_at hl 4 rfl) ?_
            refine lv_iload hx hb dX2_filterEdge_79 (lv_at hl 0 rfl) ?_
            refine lv_iload_n hx hb dX2_filterEdge_81 rfl (lv_at hl 5 rfl) ?_
            refine lv_iload_n hx hb dX2_filterEdge_82 rfl (lv_at hl 6 rfl) ?_
            obtain ⟨y140, hy140, hF⟩ := bnd_some hF
            have hf9 := wA_in hD hA9 hS
            refine va_callv (va_runV (As := [va_re ad p0, .int y4, .int p1, .int p2]) (rest := []) ⟨hx, hb, hml, hown, hts⟩ (kX2_setThresholds l D ct ad Z G M H.size a p0 y4 p1 p2 y140 hc hk hy140) (cwV 4 hts gX2_filterEdge_X2_setThresholds rfl rfl rfl (by decide +kernel) ⟨Nat.le_of_ble_eq_true rfl, Nat.le_of_ble_eq_true rfl⟩) ⟨fun a U g mk q => by obtain ⟨q0, q1, qP, qK, qD, qZ, qN⟩ := q; exact ⟨q0, q1, qP, va_K.moved (u := U) (U := U.calling g mk a) (Vm.Alike.refl U.vm) qK, qD, sF.moved (u := U) (U := U.calling g mk a) (Vm.Alike.refl U.vm) qZ, nF.same rfl qN⟩, va_recv hK hP (ci := 2) (q0 := a) rfl (wld_o ct ad G M hc hk (by decide)), fun U hU hW => ⟨rfl, by rw [hU], by rw [hU]; exact hP, va_K.moved hW.alike hK, hD.weaken (fun _ _ _ _ => trivial), by rw [hU]; exact ((hZ.kept hS.2.1).narrow hf9).moved hW.alike, hN.warm hW⟩⟩ rfl rfl hl.1 rfl (lv_room (Nat.le_of_ble_eq_true rfl)) dX2_filterEdge_83 ⟨(Nat.zero_le _), (Nat.zero_le _)⟩) hS (fun q _ h => hf9 q h) hf9 (fun u t H locs ht hvm hw hB hz1 hk1 hS => ?_)
            obtain ⟨hP, hK9, hD9⟩ := hB
            rw [ht] at hP
            have hD := hD9.weaken (fun _ q _ h => hf9 q.1 h)
            refine lv_iload hx hb dX2_filterEdge_86 (lv_at hl 1 rfl) ?_
            refine lv_aloadq hx hb dX2_filterEdge_88 (lv_at hl 2 rfl) ?_
            refine W_st (st' := [.ref (ad b136), .int y3]) (by rw [va_some ho136]) ?_
            refine va_get (D := D) (ci := 4) (v := .int (y140.1 b136 1)) (C := RX4) (T := TX4) (N := 18) hx hb hts (mus hf_X4) hown hK hP b136 (wld_o ct ad G y140 hc136 hk136 (by decide)) rfl 1 (by decide) (hts (.fieldLink RX2 49 "VideoSuite$Picture" "width" "I") (mu mw_1420)) (fun _ h9 => h9) rfl dX2_filterEdge_90 ?_
            obtain ⟨x141, ex141, hF⟩ := ltt_some hF
            refine lv_topi (fun zx141 ezx141 => ?_)
            obtain rfl : x141 = zx141 := ex141.trans ezx141.symm
            refine lv_imul hx hb dX2_filterEdge_93 ?_
            obtain ⟨x142, ex142, hF⟩ := ltt_some hF
            refine lv_topi (fun zx142 ezx142 => ?_)
            obtain rfl : x142 = zx142 := ex142.trans ezx142.symm
            refine lv_istore (lv' := [(9, .int x142), (8, .int y4), (7, .int y3), (6, va_re ad (M.2 b2 0)), (0, .ref (ad a)), (1, va_re ad p0), (2, .int p1), (3, .int p2), (4, .int p3), (5, .int p4)]) hx hb dX2_filterEdge_94 hl (by decide) rfl (fun ls hl => ?_)
            refine lv_iload hx hb dX2_filterEdge_96 (lv_at hl 2 rfl) ?_
            refine lv_iload_n hx hb dX2_filterEdge_98 rfl (lv_at hl 6 rfl) ?_
            refine lv_aloadq hx hb dX2_filterEdge_99 (lv_at hl 3 rfl) ?_
            refine W_st (st' := [.ref (ad b136), .int p1, .int y3]) (by rw [va_some ho136]) ?_
            refine va_get (D := D) (ci := 4) (v := .int (y140.1 b136 1)) (C := RX4) (T := TX4) (N := 18) hx hb hts (mus hf_X4) hown hK hP b136 (wld_o ct ad G y140 hc136 hk136 (by decide)) rfl 1 (by decide) (hts (.fieldLink RX2 49 "VideoSuite$Picture" "width" "I") (mu mw_1420)) (fun _ h9 => h9) rfl dX2_filterEdge_101 ?_
            obtain ⟨x143, ex143, hF⟩ := ltt_some hF
            refine lv_topi (fun zx143 ezx143 => ?_)
            obtain rfl : x143 = zx143 := ex143.trans ezx143.symm
            obtain ⟨hne, hF⟩ := chk_some hF
            refine lv_idiv hx hb dX2_filterEdge_104 hne ?_
            obtain ⟨x144, ex144, hF⟩ := ltt_some hF
            refine lv_topi (fun zx144 ezx144 => ?_)
            obtain rfl : x144 = zx144 := ex144.trans ezx144.symm
            refine lv_imul hx hb dX2_filterEdge_105 ?_
            obtain ⟨x145, ex145, hF⟩ := ltt_some hF
            refine lv_topi (fun zx145 ezx145 => ?_)
            obtain rfl : x145 = zx145 := ex145.trans ezx145.symm
            refine lv_iload hx hb dX2_filterEdge_106 (lv_at hl 0 rfl) ?_
            refine lv_imul hx hb dX2_filterEdge_108 ?_
            obtain ⟨x146, ex146, hF⟩ := ltt_some hF
            refine lv_topi (fun zx146 ezx146 => ?_)
            obtain rfl : x146 = zx146 := ex146.trans ezx146.symm
            refine lv_iload hx hb dX2_filterEdge_109 (lv_at hl 2 rfl) ?_
            refine lv_iload_n hx hb dX2_filterEdge_111 rfl (lv_at hl 6 rfl) ?_
            refine lv_aloadq hx hb dX2_filterEdge_112 (lv_at hl 3 rfl) ?_
            refine W_st (st' := [.ref (ad b136), .int p1, .int y3, .int x146]) (by rw [va_some ho136]) ?_
            refine va_get (D := D) (ci := 4) (v := .int (y140.1 b136 1)) (C := RX4) (T := TX4) (N := 18) hx hb hts (mus hf_X4) hown hK hP b136 (wld_o ct ad G y140 hc136 hk136 (by decide)) rfl 1 (by decide) (hts (.fieldLink RX2 49 "VideoSuite$Picture" "width" "I") (mu mw_1420)) (fun _ h9 => h9) rfl dX2_filterEdge_114 ?_
            obtain ⟨x147, ex147, hF⟩ := ltt_some hF
            refine lv_topi (fun zx147 ezx147 => ?_)
            obtain rfl : x147 = zx147 := ex147.trans ezx147.symm
            obtain ⟨hne, hF⟩ := chk_some hF
            refine lv_irem hx hb dX2_filterEdge_117 hne ?_
            obtain ⟨x148, ex148, hF⟩ := ltt_some hF
            refine lv_topi (fun zx148 ezx148 => ?_)
            obtain rfl : x148 = zx148 := ex148.trans ezx148.symm
            refine lv_imul hx hb dX2_filterEdge_118 ?_
            obtain ⟨x149, ex149, hF⟩ := ltt_some hF
            refine lv_topi (fun zx149 ezx149 => ?_)
            obtain rfl : x149 = zx149 := ex149.trans ezx149.symm
            refine lv_iadd hx hb dX2_filterEdge_119 ?_
            obtain ⟨x150, ex150, hF⟩ := ltt_some hF
            refine lv_topi (fun zx150 ezx150 => ?_)
            obtain rfl : x150 = zx150 := ex150.trans ezx150.symm
            refine lv_iconst (v := (4 : Int32)) hx hb dX2_filterEdge_120 (by decide) ?_
            refine lv_iload hx hb dX2_filterEdge_121 (lv_at hl 9 rfl) ?_
            refine lv_imul hx hb dX2_filterEdge_123 ?_
            obtain ⟨x151, ex151, hF⟩ := ltt_some hF
            refine lv_topi (fun zx151 ezx151 => ?_)
            obtain rfl : x151 = zx151 := ex151.trans ezx151.symm
            refine lv_iload hx hb dX2_filterEdge_124 (lv_at hl 8 rfl) ?_
            obtain ⟨y152, hy152, hF⟩ := bnd_some hF
            have J152 : ∀ (H : Heap) (locs : List Loc) (ls : Array Slot), va_P D classes (wld ct ad G y140) H → va_D A (wld ct ad G y140) → va_S A s.heap H locs → lv_has ls 20 [(9, .int x142), (8, .int y4), (7, .int y3), (6, va_re ad (M.2 b2 0)), (0, .ref (ad a)), (1, va_re ad p0), (2, .int p1), (3, .int p2), (4, .int p3), (5, .int p4)] → W p l e (headSpec wuX2_filterEdge ({ frames := 3, cells := 0, slots := 0, locals := 72 })).room s m ([.ref (ad a), va_re ad p0, .int p1, .int p2, .int p3, .int p4] : List Value).toArray below meth c H locs 0 0 (MQ below (va_Qv (fun (_ : Unit) => True) (fun _ t => kE D ct ad G A y t) A) ([.ref (ad a), va_re ad p0, .int p1, .int p2, .int p3, .int p4] : List Value).toArray s 0 0 A) (F0 m 135 ls [.int y152, .int x151, .int x150]) := by
              intro H locs ls hP hD hS hl
              refine lv_imul hx hb dX2_filterEdge_135 ?_
              obtain ⟨x153, ex153, hF⟩ := ltt_some hF
              refine lv_topi (fun zx153 ezx153 => ?_)
              obtain rfl : x153 = zx153 := ex153.trans ezx153.symm
              refine lv_iadd hx hb dX2_filterEdge_136 ?_
              obtain ⟨x154, ex154, hF⟩ := ltt_some hF
              refine lv_topi (fun zx154 ezx154 => ?_)
              obtain rfl : x154 = zx154 := ex154.trans ezx154.symm
              refine lv_istore (lv' := [(10, .int x154), (9, .int x142), (8, .int y4), (7, .int y3), (6, va_re ad (M.2 b2 0)), (0, .ref (ad a)), (1, va_re ad p0), (2, .int p1), (3, .int p2), (4, .int p3), (5, .int p4)]) hx hb dX2_filterEdge_137 hl (by decide) rfl (fun ls hl => ?_)
              refine lv_iload hx hb dX2_filterEdge_139 (lv_at hl 9 rfl) ?_
              obtain ⟨y155, hy155, hF⟩ := bnd_some hF
              have J155 : ∀ (H : Heap) (locs : List Loc) (ls : Array Slot), va_P D classes (wld ct ad G y140) H → va_D A (wld ct ad G y140) → va_S A s.heap H locs → lv_has ls 20 [(10, .int x154), (9, .int x142), (8, .int y4), (7, .int y3), (6, va_re ad (M.2 b2 0)), (0, .ref (ad a)), (1, va_re ad p0), (2, .int p1), (3, .int p2), (4, .int p3), (5, .int p4)] → W p l e (headSpec wuX2_filterEdge ({ frames := 3, cells := 0, slots := 0, locals := 72 })).room s m ([.ref (ad a), va_re ad p0, .int p1, .int p2, .int p3, .int p4] : List Value).toArray below meth c H locs 0 0 (MQ below (va_Qv (fun (_ : Unit) => True) (fun _ t => kE D ct ad G A y t) A) ([.ref (ad a), va_re ad p0, .int p1, .int p2, .int p3, .int p4] : List Value).toArray s 0 0 A) (F0 m 150 ls [.int y155]) := by
                intro H locs ls hP hD hS hl
                refine lv_istore (lv' := [(11, .int y155), (10, .int x154), (9, .int x142), (8, .int y4), (7, .int y3), (6, va_re ad (M.2 b2 0)), (0, .ref (ad a)), (1, va_re ad p0), (2, .int p1), (3, .int p2), (4, .int p3), (5, .int p4)]) hx hb dX2_filterEdge_150 hl (by decide) rfl (fun ls hl => ?_)
                refine lv_iload hx hb dX2_filterEdge_152 (lv_at hl 10 rfl) ?_
                obtain ⟨y156, hy156, hF⟩ := bnd_some hF
                have J156 : ∀ (H : Heap) (locs : List Loc) (ls : Array Slot), va_P D classes (wld ct ad G y140) H → va_D A (wld ct ad G y140) → va_S A s.heap H locs → lv_has ls 20 [(11, .int y155), (10, .int x154), (9, .int x142), (8, .int y4), (7, .int y3), (6, va_re ad (M.2 b2 0)), (0, .ref (ad a)), (1, va_re ad p0), (2, .int p1), (3, .int p2), (4, .int p3), (5, .int p4)] → W p l e (headSpec wuX2_filterEdge ({ frames := 3, cells := 0, slots := 0, locals := 72 })).room s m ([.ref (ad a), va_re ad p0, .int p1, .int p2, .int p3, .int p4] : List Value).toArray below meth c H locs 0 0 (MQ below (va_Qv (fun (_ : Unit) => True) (fun _ t => kE D ct ad G A y t) A) ([.ref (ad a), va_re ad p0, .int p1, .int p2, .int p3, .int p4] : List Value).toArray s 0 0 A) (F0 m 163 ls [.int y156]) := by
                  intro H locs ls hP hD hS hl
                  refine lv_istore (lv' := [(12, .int y156), (11, .int y155), (10, .int x154), (9, .int x142), (8, .int y4), (7, .int y3), (6, va_re ad (M.2 b2 0)), (0, .ref (ad a)), (1, va_re ad p0), (2, .int p1), (3, .int p2), (4, .int p3), (5, .int p4)]) hx hb dX2_filterEdge_163 hl (by decide) rfl (fun ls hl => ?_)
                  refine lv_iconst (v := (0 : Int32)) hx hb dX2_filterEdge_165 (by decide) ?_
                  refine lv_istore (lv' := [(13, .int (0 : Int32)), (12, .int y156), (11, .int y155), (10, .int x154), (9, .int x142), (8, .int y4), (7, .int y3), (6, va_re ad (M.2 b2 0)), (0, .ref (ad a)), (1, va_re ad p0), (2, .int p1), (3, .int p2), (4, .int p3), (5, .int p4)]) hx hb dX2_filterEdge_166 hl (by decide) rfl (fun ls hl => ?_)
                  obtain ⟨y157, hy157, hF⟩ := bnd_some hF
                  have K157 : ∀ (H : Heap) (locs : List Loc) (ls : Array Slot), va_P D classes (wld ct ad G y157.2) H → va_D A (wld ct ad G y157.2) → va_S A s.heap H locs → lv_has ls 20 [(13, .int y157.1), (12, .int y156), (11, .int y155), (10, .int x154), (9, .int x142), (8, .int y4), (7, .int y3), (6, va_re ad (M.2 b2 0)), (0, .ref (ad a)), (1, va_re ad p0), (2, .int p1), (3, .int p2), (4, .int p3), (5, .int p4)] → W p l e (headSpec wuX2_filterEdge ({ frames := 3, cells := 0, slots := 0, locals := 72 })).room s m ([.ref (ad a), va_re ad p0, .int p1, .int p2, .int p3, .int p4] : List Value).toArray below meth c H locs 0 0 (MQ below (va_Qv (fun (_ : Unit) => True) (fun _ t => kE D ct ad G A y t) A) ([.ref (ad a), va_re ad p0, .int p1, .int p2, .int p3, .int p4] : List Value).toArray s 0 0 A) (F0 m 330 ls []) := by
                    intro H locs ls hP hD hS hl
                    obtain rfl := Option.some.inj hF
                    exact W.vret hx hb hr (fun t ht hW => ⟨⟨(), rfl, trivial, ⟨by rw [ht]; exact hP, va_K.moved hW.alike hK, hD⟩⟩, hS.F ht⟩) hS.2.2 dX2_filterEdge_330
                  clear hF
                  refine itr_rule (fun (s158 : Int32 × DD) => ∀ (H : Heap) (locs : List Loc) (ls : Array Slot), va_P D classes (wld ct ad G s158.2) H → va_D A (wld ct ad G s158.2) → va_S A s.heap H locs → lv_has ls 20 [(13, .int s158.1), (12, .int y156), (11, .int y155), (10, .int x154), (9, .int x142), (8, .int y4), (7, .int y3), (6, va_re ad (M.2 b2 0)), (0, .ref (ad a)), (1, va_re ad p0), (2, .int p1), (3, .int p2), (4, .int p3), (5, .int p4)] → W p l e (headSpec wuX2_filterEdge ({ frames := 3, cells := 0, slots := 0, locals := 72 })).room s m ([.ref (ad a), va_re ad p0, .int p1, .int p2, .int p3, .int p4] : List Value).toArray below meth c H locs 0 0 (MQ below (va_Qv (fun (_ : Unit) => True) (fun _ t => kE D ct ad G A y t) A) ([.ref (ad a), va_re ad p0, .int p1, .int p2, .int p3, .int p4] : List Value).toArray s 0 0 A) (F0 m 168 ls [])) ?_ _ _ hy157 _ _ _ hP hD hS (lv_sub hl [0, 1, 2, 3, 4, 5, 6, 7, 8, 9, 10, 11, 12, 13] rfl)
                  rintro s158 ⟨z160, hF, hwz160⟩ H locs ls hP hD hS hl
                  try dsimp only at hF
                  refine lv_iload hx hb dX2_filterEdge_168 (lv_at hl 0 rfl) ?_
                  refine lv_iload hx hb dX2_filterEdge_170 (lv_at hl 6 rfl) ?_
                  refine lv_icmp_ge (tgt := 330) hx hb dX2_filterEdge_172 (by decide) (fun c161 => ?_) (fun c161 => ?_)
                  · rw [if_pos c161] at hF
                    obtain rfl := Option.some.inj hF
                    subst hwz160
                    exact K157 _ _ _ hP hD hS (lv_sub hl [0, 1, 2, 3, 4, 5, 6, 7, 8, 9, 10, 11, 12, 13] rfl)
                  · rw [if_neg c161] at hF
                    refine lv_iload_n hx hb dX2_filterEdge_175 rfl (lv_at hl 11 rfl) ?_
                    obtain ⟨y162, hy162, hF⟩ := bnd_some hF
                    have J162 : ∀ (H : Heap) (locs : List Loc) (ls : Array Slot), va_P D classes (wld ct ad G s158.2) H → va_D A (wld ct ad G s158.2) → va_S A s.heap H locs → lv_has ls 20 [(13, .int s158.1), (12, .int y156), (11, .int y155), (10, .int x154), (9, .int x142), (8, .int y4), (7, .int y3), (6, va_re ad (M.2 b2 0)), (0, .ref (ad a)), (1, va_re ad p0), (2, .int p1), (3, .int p2), (4, .int p3), (5, .int p4)] → W p l e (headSpec wuX2_filterEdge ({ frames := 3, cells := 0, slots := 0, locals := 72 })).room s m ([.ref (ad a), va_re ad p0, .int p1, .int p2, .int p3, .int p4] : List Value).toArray below meth c H locs 0 0 (MQ below (va_Qv (fun (_ : Unit) => True) (fun _ t => kE D ct ad G A y t) A) ([.ref (ad a), va_re ad p0, .int p1, .int p2, .int p3, .int p4] : List Value).toArray s 0 0 A) (F0 m 188 ls [.int y162]) := by
                      intro H locs ls hP hD hS hl
                      refine lv_istore (lv' := [(14, .int y162), (13, .int s158.1), (12, .int y156), (11, .int y155), (10, .int x154), (9, .int x142), (8, .int y4), (7, .int y3), (6, va_re ad (M.2 b2 0)), (0, .ref (ad a)), (1, va_re ad p0), (2, .int p1), (3, .int p2), (4, .int p3), (5, .int p4)]) hx hb dX2_filterEdge_188 hl (by decide) rfl (fun ls hl => ?_)
                      refine lv_iload_n hx hb dX2_filterEdge_190 rfl (lv_at hl 12 rfl) ?_
                      obtain ⟨y163, hy163, hF⟩ := bnd_some hF
                      have J163 : ∀ (H : Heap) (locs : List Loc) (ls : Array Slot), va_P D classes (wld ct ad G s158.2) H → va_D A (wld ct ad G s158.2) → va_S A s.heap H locs → lv_has ls 20 [(14, .int y162), (13, .int s158.1), (12, .int y156), (11, .int y155), (10, .int x154), (9, .int x142), (8, .int y4), (7, .int y3), (6, va_re ad (M.2 b2 0)), (0, .ref (ad a)), (1, va_re ad p0), (2, .int p1), (3, .int p2), (4, .int p3), (5, .int p4)] → W p l e (headSpec wuX2_filterEdge ({ frames := 3, cells := 0, slots := 0, locals := 72 })).room s m ([.ref (ad a), va_re ad p0, .int p1, .int p2, .int p3, .int p4] : List Value).toArray below meth c H locs 0 0 (MQ below (va_Qv (fun (_ : Unit) => True) (fun _ t => kE D ct ad G A y t) A) ([.ref (ad a), va_re ad p0, .int p1, .int p2, .int p3, .int p4] : List Value).toArray s 0 0 A) (F0 m 206 ls [.int y163]) := by
                        intro H locs ls hP hD hS hl
                        refine lv_istore (lv' := [(15, .int y163), (14, .int y162), (13, .int s158.1), (12, .int y156), (11, .int y155), (10, .int x154), (9, .int x142), (8, .int y4), (7, .int y3), (6, va_re ad (M.2 b2 0)), (0, .ref (ad a)), (1, va_re ad p0), (2, .int p1), (3, .int p2), (4, .int p3), (5, .int p4)]) hx hb dX2_filterEdge_206 hl (by decide) rfl (fun ls hl => ?_)
                        refine lv_iload hx hb dX2_filterEdge_208 (lv_at hl 14 rfl) ?_
                        obtain ⟨y164, hy164, hF⟩ := bnd_some hF
                        have J164 : ∀ (H : Heap) (locs : List Loc) (ls : Array Slot), va_P D classes (wld ct ad G s158.2) H → va_D A (wld ct ad G s158.2) → va_S A s.heap H locs → lv_has ls 20 [(15, .int y163), (14, .int y162), (13, .int s158.1), (12, .int y156), (11, .int y155), (10, .int x154), (9, .int x142), (8, .int y4), (7, .int y3), (6, va_re ad (M.2 b2 0)), (0, .ref (ad a)), (1, va_re ad p0), (2, .int p1), (3, .int p2), (4, .int p3), (5, .int p4)] → W p l e (headSpec wuX2_filterEdge ({ frames := 3, cells := 0, slots := 0, locals := 72 })).room s m ([.ref (ad a), va_re ad p0, .int p1, .int p2, .int p3, .int p4] : List Value).toArray below meth c H locs 0 0 (MQ below (va_Qv (fun (_ : Unit) => True) (fun _ t => kE D ct ad G A y t) A) ([.ref (ad a), va_re ad p0, .int p1, .int p2, .int p3, .int p4] : List Value).toArray s 0 0 A) (F0 m 220 ls [.int y164]) := by
                          intro H locs ls hP hD hS hl
                          refine lv_istore (lv' := [(16, .int y164), (15, .int y163), (14, .int y162), (13, .int s158.1), (12, .int y156), (11, .int y155), (10, .int x154), (9, .int x142), (8, .int y4), (7, .int y3), (6, va_re ad (M.2 b2 0)), (0, .ref (ad a)), (1, va_re ad p0), (2, .int p1), (3, .int p2), (4, .int p3), (5, .int p4)]) hx hb dX2_filterEdge_220 hl (by decide) rfl (fun ls hl => ?_)
                          refine lv_iload hx hb dX2_filterEdge_222 (lv_at hl 15 rfl) ?_
                          obtain ⟨y165, hy165, hF⟩ := bnd_some hF
                          have J165 : ∀ (H : Heap) (locs : List Loc) (ls : Array Slot), va_P D classes (wld ct ad G s158.2) H → va_D A (wld ct ad G s158.2) → va_S A s.heap H locs → lv_has ls 20 [(16, .int y164), (15, .int y163), (14, .int y162), (13, .int s158.1), (12, .int y156), (11, .int y155), (10, .int x154), (9, .int x142), (8, .int y4), (7, .int y3), (6, va_re ad (M.2 b2 0)), (0, .ref (ad a)), (1, va_re ad p0), (2, .int p1), (3, .int p2), (4, .int p3), (5, .int p4)] → W p l e (headSpec wuX2_filterEdge ({ frames := 3, cells := 0, slots := 0, locals := 72 })).room s m ([.ref (ad a), va_re ad p0, .int p1, .int p2, .int p3, .int p4] : List Value).toArray below meth c H locs 0 0 (MQ below (va_Qv (fun (_ : Unit) => True) (fun _ t => kE D ct ad G A y t) A) ([.ref (ad a), va_re ad p0, .int p1, .int p2, .int p3, .int p4] : List Value).toArray s 0 0 A) (F0 m 234 ls [.int y165]) := by
                            intro H locs ls hP hD hS hl
                            refine lv_istore (lv' := [(17, .int y165), (16, .int y164), (15, .int y163), (14, .int y162), (13, .int s158.1), (12, .int y156), (11, .int y155), (10, .int x154), (9, .int x142), (8, .int y4), (7, .int y3), (6, va_re ad (M.2 b2 0)), (0, .ref (ad a)), (1, va_re ad p0), (2, .int p1), (3, .int p2), (4, .int p3), (5, .int p4)]) hx hb dX2_filterEdge_234 hl (by decide) rfl (fun ls hl => ?_)
                            refine lv_iload hx hb dX2_filterEdge_236 (lv_at hl 0 rfl) ?_
                            refine lv_iconst (v := (3 : Int32)) hx hb dX2_filterEdge_238 (by decide) ?_
                            refine lv_ishr hx hb dX2_filterEdge_239 ?_
                            obtain ⟨x166, ex166, hF⟩ := ltt_some hF
                            refine lv_topi (fun zx166 ezx166 => ?_)
                            obtain rfl : x166 = zx166 := ex166.trans ezx166.symm
                            refine lv_bipush (v := (8 : Int32)) hx hb dX2_filterEdge_240 (by decide) ?_
                            refine lv_imul hx hb dX2_filterEdge_242 ?_
                            obtain ⟨x167, ex167, hF⟩ := ltt_some hF
                            refine lv_topi (fun zx167 ezx167 => ?_)
                            obtain rfl : x167 = zx167 := ex167.trans ezx167.symm
                            refine lv_iload hx hb dX2_filterEdge_243 (lv_at hl 1 rfl) ?_
                            refine lv_iconst (v := (3 : Int32)) hx hb dX2_filterEdge_245 (by decide) ?_
                            refine lv_ishr hx hb dX2_filterEdge_246 ?_
                            obtain ⟨x168, ex168, hF⟩ := ltt_some hF
                            refine lv_topi (fun zx168 ezx168 => ?_)
                            obtain rfl : x168 = zx168 := ex168.trans ezx168.symm
                            refine lv_iconst (v := (4 : Int32)) hx hb dX2_filterEdge_247 (by decide) ?_
                            refine lv_imul hx hb dX2_filterEdge_248 ?_
                            obtain ⟨x169, ex169, hF⟩ := ltt_some hF
                            refine lv_topi (fun zx169 ezx169 => ?_)
                            obtain rfl : x169 = zx169 := ex169.trans ezx169.symm
                            refine lv_iadd hx hb dX2_filterEdge_249 ?_
                            obtain ⟨x170, ex170, hF⟩ := ltt_some hF
                            refine lv_topi (fun zx170 ezx170 => ?_)
                            obtain rfl : x170 = zx170 := ex170.trans ezx170.symm
                            refine lv_iload hx hb dX2_filterEdge_250 (lv_at hl 0 rfl) ?_
                            refine lv_iconst (v := (2 : Int32)) hx hb dX2_filterEdge_252 (by decide) ?_
                            refine lv_ishr hx hb dX2_filterEdge_253 ?_
                            obtain ⟨x171, ex171, hF⟩ := ltt_some hF
                            refine lv_topi (fun zx171 ezx171 => ?_)
                            obtain rfl : x171 = zx171 := ex171.trans ezx171.symm
                            refine lv_iconst (v := (1 : Int32)) hx hb dX2_filterEdge_254 (by decide) ?_
                            refine lv_iand hx hb dX2_filterEdge_255 ?_
                            obtain ⟨x172, ex172, hF⟩ := ltt_some hF
                            refine lv_topi (fun zx172 ezx172 => ?_)
                            obtain rfl : x172 = zx172 := ex172.trans ezx172.symm
                            refine lv_iconst (v := (2 : Int32)) hx hb dX2_filterEdge_256 (by decide) ?_
                            refine lv_imul hx hb dX2_filterEdge_257 ?_
                            obtain ⟨x173, ex173, hF⟩ := ltt_some hF
                            refine lv_topi (fun zx173 ezx173 => ?_)
                            obtain rfl : x173 = zx173 := ex173.trans ezx173.symm
                            refine lv_iadd hx hb dX2_filterEdge_258 ?_
                            obtain ⟨x174, ex174, hF⟩ := ltt_some hF
                            refine lv_topi (fun zx174 ezx174 => ?_)
                            obtain rfl : x174 = zx174 := ex174.trans ezx174.symm
                            refine lv_iload hx hb dX2_filterEdge_259 (lv_at hl 1 rfl) ?_
                            refine lv_iconst (v := (2 : Int32)) hx hb dX2_filterEdge_261 (by decide) ?_
                            refine lv_ishr hx hb dX2_filterEdge_262 ?_
                            obtain ⟨x175, ex175, hF⟩ := ltt_some hF
                            refine lv_topi (fun zx175 ezx175 => ?_)
                            obtain rfl : x175 = zx175 := ex175.trans ezx175.symm
                            refine lv_iconst (v := (1 : Int32)) hx hb dX2_filterEdge_263 (by decide) ?_
                            refine lv_iand hx hb dX2_filterEdge_264 ?_
                            obtain ⟨x176, ex176, hF⟩ := ltt_some hF
                            refine lv_topi (fun zx176 ezx176 => ?_)
                            obtain rfl : x176 = zx176 := ex176.trans ezx176.symm
                            refine lv_iadd hx hb dX2_filterEdge_265 ?_
                            obtain ⟨x177, ex177, hF⟩ := ltt_some hF
                            refine lv_topi (fun zx177 ezx177 => ?_)
                            obtain rfl : x177 = zx177 := ex177.trans ezx177.symm
                            refine lv_istore (lv' := [(18, .int x177), (17, .int y165), (16, .int y164), (15, .int y163), (14, .int y162), (13, .int s158.1), (12, .int y156), (11, .int y155), (10, .int x154), (9, .int x142), (8, .int y4), (7, .int y3), (6, va_re ad (M.2 b2 0)), (0, .ref (ad a)), (1, va_re ad p0), (2, .int p1), (3, .int p2), (4, .int p3), (5, .int p4)]) hx hb dX2_filterEdge_266 hl (by decide) rfl (fun ls hl => ?_)
                            refine lv_aload_n hx hb dX2_filterEdge_268 rfl (lv_at hl 13 rfl) ?_
                            refine va_get (D := D) (ci := 2) (v := va_re ad (s158.2.2 a 0)) (C := RX2) (T := TX2) (N := 7) hx hb hts (mus hf_X2) hown hK hP a (wld_o ct ad G s158.2 hc hk (by decide)) rfl 0 (by decide) (hts (.fieldLink RX2 9 "VideoSuite$Edges" "strength" "[I") (mu mw_585)) (fun _ h9 => h9) rfl dX2_filterEdge_269 ?_
                            refine lv_iconst (v := (2 : Int32)) hx hb dX2_filterEdge_272 (by decide) ?_
                            refine lv_bipush (v := (16 : Int32)) hx hb dX2_filterEdge_273 (by decide) ?_
                            refine lv_iload_n hx hb dX2_filterEdge_275 rfl (lv_at hl 15 rfl) ?_
                            refine lv_imul hx hb dX2_filterEdge_276 ?_
                            obtain ⟨x178, ex178, hF⟩ := ltt_some hF
                            refine lv_topi (fun zx178 ezx178 => ?_)
                            obtain rfl : x178 = zx178 := ex178.trans ezx178.symm
                            refine lv_iload hx hb dX2_filterEdge_277 (lv_at hl 0 rfl) ?_
                            refine lv_iadd hx hb dX2_filterEdge_279 ?_
                            obtain ⟨x179, ex179, hF⟩ := ltt_some hF
                            refine lv_topi (fun zx179 ezx179 => ?_)
                            obtain rfl : x179 = zx179 := ex179.trans ezx179.symm
                            refine lv_imul hx hb dX2_filterEdge_280 ?_
                            obtain ⟨x180, ex180, hF⟩ := ltt_some hF
                            refine lv_topi (fun zx180 ezx180 => ?_)
                            obtain rfl : x180 = zx180 := ex180.trans ezx180.symm
                            refine lv_iload hx hb dX2_filterEdge_281 (lv_at hl 17 rfl) ?_
                            refine lv_iadd hx hb dX2_filterEdge_283 ?_
                            obtain ⟨x181, ex181, hF⟩ := ltt_some hF
                            refine lv_topi (fun zx181 ezx181 => ?_)
                            obtain rfl : x181 = zx181 := ex181.trans ezx181.symm
                            obtain ⟨b182, ho182, hc182, hk182, hF⟩ := dr_some hF
                            refine W_st (st' := [.int x181, .ref (ad b182)]) (by rw [va_some ho182]) ?_
                            obtain ⟨hvc, hF⟩ := chk_some hF
                            refine va_iald hx hb hK hP b182 1 (wld_i ct ad G s158.2 hc182 hk182) rfl hvc dX2_filterEdge_284 ?_
                            obtain ⟨x183, ex183, hF⟩ := ltt_some hF
                            refine lv_topi (fun zx183 ezx183 => ?_)
                            obtain rfl : x183 = zx183 := ex183.trans ezx183.symm
                            refine lv_istore (lv' := [(19, .int x183), (18, .int x177), (17, .int y165), (16, .int y164), (15, .int y163), (14, .int y162), (13, .int s158.1), (12, .int y156), (11, .int y155), (10, .int x154), (9, .int x142), (8, .int y4), (7, .int y3), (6, va_re ad (M.2 b2 0)), (0, .ref (ad a)), (1, va_re ad p0), (2, .int p1), (3, .int p2), (4, .int p3), (5, .int p4)]) hx hb dX2_filterEdge_285 hl (by decide) rfl (fun ls hl => ?_)
                            refine lv_iload hx hb dX2_filterEdge_287 (lv_at hl 0 rfl) ?_
                            obtain ⟨y184, hy184, hF⟩ := bnd_some hF
                            have J184 : ∀ (H : Heap) (locs : List Loc) (ls : Array Slot), va_P D classes (wld ct ad G y184) H → va_D A (wld ct ad G y184) → va_S A s.heap H locs → lv_has ls 20 [(19, .int x183), (18, .int x177), (17, .int y165), (16, .int y164), (15, .int y163), (14, .int y162), (13, .int s158.1), (12, .int y156), (11, .int y155), (10, .int x154), (9, .int x142), (8, .int y4), (7, .int y3), (6, va_re ad (M.2 b2 0)), (0, .ref (ad a)), (1, va_re ad p0), (2, .int p1), (3, .int p2), (4, .int p3), (5, .int p4)] → W p l e (headSpec wuX2_filterEdge ({ frames := 3, cells := 0, slots := 0, locals := 72 })).room s m ([.ref (ad a), va_re ad p0, .int p1, .int p2, .int p3, .int p4] : List Value).toArray below meth c H locs 0 0 (MQ below (va_Qv (fun (_ : Unit) => True) (fun _ t => kE D ct ad G A y t) A) ([.ref (ad a), va_re ad p0, .int p1, .int p2, .int p3, .int p4] : List Value).toArray s 0 0 A) (F0 m 324 ls []) := by
                              intro H locs ls hP hD hS hl
                              obtain ⟨x185, ex185, hF⟩ := ltt_some hF
                              refine lv_iinc (v := x185) (lv' := [(13, .int x185), (19, .int x183), (18, .int x177), (17, .int y165), (16, .int y164), (15, .int y163), (14, .int y162), (12, .int y156), (11, .int y155), (10, .int x154), (9, .int x142), (8, .int y4), (7, .int y3), (6, va_re ad (M.2 b2 0)), (0, .ref (ad a)), (1, va_re ad p0), (2, .int p1), (3, .int p2), (4, .int p3), (5, .int p4)]) hx hb dX2_filterEdge_324 hl (k := 6) rfl (by rw [ex185]; rfl) (by decide) rfl (fun ls hl => ?_)
                              refine lv_goto (tgt := 168) hx hb dX2_filterEdge_327 (by decide) ?_
                              obtain rfl := Option.some.inj hF
                              exact hwz160 _ _ _ hP hD hS (lv_sub hl [0, 7, 8, 9, 10, 11, 12, 13, 14, 15, 16, 17, 18, 19] rfl)
                            clear hF
                            have hF := hy184
                            clear hy184
                            refine lv_if_le (tgt := 324) hx hb dX2_filterEdge_289 (by decide) (fun c186 => ?_) (fun c186 => ?_)
                            · rw [if_pos c186] at hF
                              obtain rfl := Option.some.inj hF
                              exact J184 _ _ _ hP hD hS (lv_sub hl [0, 1, 2, 3, 4, 5, 6, 7, 8, 9, 10, 11, 12, 13, 14, 15, 16, 17, 18, 19] rfl)
                            · rw [if_neg c186] at hF
                              refine lv_aload_n hx hb dX2_filterEdge_292 rfl (lv_at hl 14 rfl) ?_
                              refine lv_aloadq hx hb dX2_filterEdge_293 (lv_at hl 13 rfl) ?_
                              refine W_st (st' := [.ref (ad b136), .ref (ad a)]) (by rw [va_some ho136]) ?_
                              refine va_get (D := D) (ci := 4) (v := va_re ad (s158.2.2 b136 4)) (C := RX4) (T := TX4) (N := 18) hx hb hts (mus hf_X4) hown hK hP b136 (wld_o ct ad G s158.2 hc136 hk136 (by decide)) rfl 4 (by decide) (hts (.fieldLink RX2 58 "VideoSuite$Picture" "plane" "[[I") (mu mw_1432)) (fun _ h9 => h9) rfl dX2_filterEdge_295 ?_
                              refine lv_iload_n hx hb dX2_filterEdge_298 rfl (lv_at hl 17 rfl) ?_
                              obtain ⟨b187, ho187, hc187, hk187, hF⟩ := dr_some hF
                              refine W_st (st' := [.int p2, .ref (ad b187), .ref (ad a)]) (by rw [va_some ho187]) ?_
                              obtain ⟨hvc, hF⟩ := chk_some hF
                              refine ld_g hx hb hK hP hc187 hk187 hvc dX2_filterEdge_299 ?_
                              refine lv_iload hx hb dX2_filterEdge_300 (lv_at hl 9 rfl) ?_
                              refine lv_iload hx hb dX2_filterEdge_302 (lv_at hl 6 rfl) ?_
                              refine lv_iload hx hb dX2_filterEdge_304 (lv_at hl 7 rfl) ?_
                              refine lv_imul hx hb dX2_filterEdge_306 ?_
                              obtain ⟨x188, ex188, hF⟩ := ltt_some hF
                              refine lv_topi (fun zx188 ezx188 => ?_)
                              obtain rfl : x188 = zx188 := ex188.trans ezx188.symm
                              refine lv_iadd hx hb dX2_filterEdge_307 ?_
                              obtain ⟨x189, ex189, hF⟩ := ltt_some hF
                              refine lv_topi (fun zx189 ezx189 => ?_)
                              obtain rfl : x189 = zx189 := ex189.trans ezx189.symm
                              refine lv_iload hx hb dX2_filterEdge_308 (lv_at hl 8 rfl) ?_
                              refine lv_iload hx hb dX2_filterEdge_310 (lv_at hl 0 rfl) ?_
                              refine lv_iload_n hx hb dX2_filterEdge_312 rfl (lv_at hl 17 rfl) ?_
                              obtain ⟨y190, hy190, hF⟩ := bnd_some hF
                              have J190 : ∀ (H : Heap) (locs : List Loc) (ls : Array Slot), va_P D classes (wld ct ad G s158.2) H → va_D A (wld ct ad G s158.2) → va_S A s.heap H locs → lv_has ls 20 [(19, .int x183), (18, .int x177), (17, .int y165), (16, .int y164), (15, .int y163), (14, .int y162), (13, .int s158.1), (12, .int y156), (11, .int y155), (10, .int x154), (9, .int x142), (8, .int y4), (7, .int y3), (6, va_re ad (M.2 b2 0)), (0, .ref (ad a)), (1, va_re ad p0), (2, .int p1), (3, .int p2), (4, .int p3), (5, .int p4)] → W p l e (headSpec wuX2_filterEdge ({ frames := 3, cells := 0, slots := 0, locals := 72 })).room s m ([.ref (ad a), va_re ad p0, .int p1, .int p2, .int p3, .int p4] : List Value).toArray below meth c H locs 0 0 (MQ below (va_Qv (fun (_ : Unit) => True) (fun _ t => kE D ct ad G A y t) A) ([.ref (ad a), va_re ad p0, .int p1, .int p2, .int p3, .int p4] : List Value).toArray s 0 0 A) (F0 m 321 ls [.int y190, .int x183, .int y155, .int x189, va_re ad (s158.2.2 b187 p2.toNatClampNeg), .ref (ad a)]) := by
                                intro H locs ls hP hD hS hl
                                obtain ⟨y191, hy191, hF⟩ := bnd_some hF
                                have hf9 := wA_in hD hA9 hS
                                refine va_callv (va_runV (As := [va_re ad (s158.2.2 b187 p2.toNatClampNeg), .int x189, .int y155, .int x183, .int y190]) (rest := []) ⟨hx, hb, hml, hown, hts⟩ (kX2_filterLine l D ct ad Z G s158.2 H.size a ((s158.2.2 b187 p2.toNatClampNeg)) x189 y155 x183 y190 y191 hc hk hy191) (cwV 5 hts gX2_filterEdge_X2_filterLine rfl rfl rfl (by decide +kernel) ⟨Nat.le_of_ble_eq_true rfl, Nat.le_of_ble_eq_true rfl⟩) ⟨fun a U g mk q => by obtain ⟨q0, q1, qP, qK, qD, qZ, qN⟩ := q; exact ⟨q0, q1, qP, va_K.moved (u := U) (U := U.calling g mk a) (Vm.Alike.refl U.vm) qK, qD, sF.moved (u := U) (U := U.calling g mk a) (Vm.Alike.refl U.vm) qZ, nF.same rfl qN⟩, va_recv hK hP (ci := 2) (q0 := a) rfl (wld_o ct ad G s158.2 hc hk (by decide)), fun U hU hW => ⟨rfl, by rw [hU], by rw [hU]; exact hP, va_K.moved hW.alike hK, hD.weaken (fun _ _ _ _ => trivial), by rw [hU]; exact ((hZ.kept hS.2.1).narrow hf9).moved hW.alike, hN.warm hW⟩⟩ rfl rfl hl.1 rfl (lv_room (Nat.le_of_ble_eq_true rfl)) dX2_filterEdge_321 ⟨(Nat.zero_le _), (Nat.zero_le _)⟩) hS (fun q _ h => hf9 q h) hf9 (fun u t H locs ht hvm hw hB hz1 hk1 hS => ?_)
                                obtain ⟨hP, hK9, hD9⟩ := hB
                                rw [ht] at hP
                                have hD := hD9.weaken (fun _ q _ h => hf9 q.1 h)
                                obtain rfl := Option.some.inj hF
                                exact J184 _ _ _ hP hD hS (lv_sub hl [0, 1, 2, 3, 4, 5, 6, 7, 8, 9, 10, 11, 12, 13, 14, 15, 16, 17, 18, 19] rfl)
                              clear hF
                              have hF := hy190
                              clear hy190
                              refine lv_if_ne (tgt := 320) hx hb dX2_filterEdge_313 (by decide) (fun c192 => ?_) (fun c192 => ?_)
                              · rw [if_neg c192] at hF
                                refine lv_iconst (v := (0 : Int32)) hx hb dX2_filterEdge_320 (by decide) ?_
                                obtain rfl := Option.some.inj hF
                                exact J190 _ _ _ hP hD hS (lv_sub hl [0, 1, 2, 3, 4, 5, 6, 7, 8, 9, 10, 11, 12, 13, 14, 15, 16, 17, 18, 19] rfl)
                              · rw [if_pos c192] at hF
                                refine lv_iconst (v := (1 : Int32)) hx hb dX2_filterEdge_316 (by decide) ?_
                                refine lv_goto (tgt := 321) hx hb dX2_filterEdge_317 (by decide) ?_
                                obtain rfl := Option.some.inj hF
                                exact J190 _ _ _ hP hD hS (lv_sub hl [0, 1, 2, 3, 4, 5, 6, 7, 8, 9, 10, 11, 12, 13, 14, 15, 16, 17, 18, 19] rfl)
                          clear hF
                          have hF := hy165
                          clear hy165
                          refine lv_if_ne (tgt := 232) hx hb dX2_filterEdge_224 (by decide) (fun c193 => ?_) (fun c193 => ?_)
                          · rw [if_neg c193] at hF
                            refine lv_iload hx hb dX2_filterEdge_232 (lv_at hl 1 rfl) ?_
                            obtain rfl := Option.some.inj hF
                            exact J165 _ _ _ hP hD hS (lv_sub hl [0, 1, 2, 3, 4, 5, 6, 7, 8, 9, 10, 11, 12, 13, 14, 15, 16] rfl)
                          · rw [if_pos c193] at hF
                            refine lv_iload hx hb dX2_filterEdge_227 (lv_at hl 2 rfl) ?_
                            refine lv_goto (tgt := 234) hx hb dX2_filterEdge_229 (by decide) ?_
                            obtain rfl := Option.some.inj hF
                            exact J165 _ _ _ hP hD hS (lv_sub hl [0, 1, 2, 3, 4, 5, 6, 7, 8, 9, 10, 11, 12, 13, 14, 15, 16] rfl)
                        clear hF
                        have hF := hy164
                        clear hy164
                        refine lv_if_ne (tgt := 218) hx hb dX2_filterEdge_210 (by decide) (fun c194 => ?_) (fun c194 => ?_)
                        · rw [if_neg c194] at hF
                          refine lv_iload hx hb dX2_filterEdge_218 (lv_at hl 1 rfl) ?_
                          obtain rfl := Option.some.inj hF
                          exact J164 _ _ _ hP hD hS (lv_sub hl [0, 1, 2, 3, 4, 5, 6, 7, 8, 9, 10, 11, 12, 13, 14, 15] rfl)
                        · rw [if_pos c194] at hF
                          refine lv_iload hx hb dX2_filterEdge_213 (lv_at hl 0 rfl) ?_
                          refine lv_goto (tgt := 220) hx hb dX2_filterEdge_215 (by decide) ?_
                          obtain rfl := Option.some.inj hF
                          exact J164 _ _ _ hP hD hS (lv_sub hl [0, 1, 2, 3, 4, 5, 6, 7, 8, 9, 10, 11, 12, 13, 14, 15] rfl)
                      clear hF
                      have hF := hy163
                      clear hy163
                      refine lv_if_ne (tgt := 201) hx hb dX2_filterEdge_191 (by decide) (fun c195 => ?_) (fun c195 => ?_)
                      · rw [if_neg c195] at hF
                        refine lv_bipush (v := (8 : Int32)) hx hb dX2_filterEdge_201 (by decide) ?_
                        refine lv_iload hx hb dX2_filterEdge_203 (lv_at hl 14 rfl) ?_
                        refine lv_imul hx hb dX2_filterEdge_205 ?_
                        obtain ⟨x196, ex196, hF⟩ := ltt_some hF
                        refine lv_topi (fun zx196 ezx196 => ?_)
                        obtain rfl : x196 = zx196 := ex196.trans ezx196.symm
                        obtain rfl := Option.some.inj hF
                        exact J163 _ _ _ hP hD hS (lv_sub hl [0, 1, 2, 3, 4, 5, 6, 7, 8, 9, 10, 11, 12, 13, 14] rfl)
                      · rw [if_pos c195] at hF
                        refine lv_iconst (v := (4 : Int32)) hx hb dX2_filterEdge_194 (by decide) ?_
                        refine lv_iload hx hb dX2_filterEdge_195 (lv_at hl 14 rfl) ?_
                        refine lv_imul hx hb dX2_filterEdge_197 ?_
                        obtain ⟨x197, ex197, hF⟩ := ltt_some hF
                        refine lv_topi (fun zx197 ezx197 => ?_)
                        obtain rfl : x197 = zx197 := ex197.trans ezx197.symm
                        refine lv_goto (tgt := 206) hx hb dX2_filterEdge_198 (by decide) ?_
                        obtain rfl := Option.some.inj hF
                        exact J163 _ _ _ hP hD hS (lv_sub hl [0, 1, 2, 3, 4, 5, 6, 7, 8, 9, 10, 11, 12, 13, 14] rfl)
                    clear hF
                    have hF := hy162
                    clear hy162
                    refine lv_if_ne (tgt := 184) hx hb dX2_filterEdge_176 (by decide) (fun c198 => ?_) (fun c198 => ?_)
                    · rw [if_neg c198] at hF
                      refine lv_iconst (v := (2 : Int32)) hx hb dX2_filterEdge_184 (by decide) ?_
                      refine lv_iload hx hb dX2_filterEdge_185 (lv_at hl 0 rfl) ?_
                      refine lv_imul hx hb dX2_filterEdge_187 ?_
                      obtain ⟨x199, ex199, hF⟩ := ltt_some hF
                      refine lv_topi (fun zx199 ezx199 => ?_)
                      obtain rfl : x199 = zx199 := ex199.trans ezx199.symm
                      obtain rfl := Option.some.inj hF
                      exact J162 _ _ _ hP hD hS (lv_sub hl [0, 1, 2, 3, 4, 5, 6, 7, 8, 9, 10, 11, 12, 13] rfl)
                    · rw [if_pos c198] at hF
                      refine lv_iload hx hb dX2_filterEdge_179 (lv_at hl 0 rfl) ?_
                      refine lv_goto (tgt := 188) hx hb dX2_filterEdge_181 (by decide) ?_
                      obtain rfl := Option.some.inj hF
                      exact J162 _ _ _ hP hD hS (lv_sub hl [0, 1, 2, 3, 4, 5, 6, 7, 8, 9, 10, 11, 12, 13] rfl)
                clear hF
                have hF := hy156
                clear hy156
                refine lv_if_ne (tgt := 162) hx hb dX2_filterEdge_154 (by decide) (fun c200 => ?_) (fun c200 => ?_)
                · rw [if_neg c200] at hF
                  refine lv_iconst (v := (1 : Int32)) hx hb dX2_filterEdge_162 (by decide) ?_
                  obtain rfl := Option.some.inj hF
                  exact J156 _ _ _ hP hD hS (lv_sub hl [0, 1, 2, 3, 4, 5, 6, 7, 8, 9, 10, 11] rfl)
                · rw [if_pos c200] at hF
                  refine lv_iload hx hb dX2_filterEdge_157 (lv_at hl 2 rfl) ?_
                  refine lv_goto (tgt := 163) hx hb dX2_filterEdge_159 (by decide) ?_
                  obtain rfl := Option.some.inj hF
                  exact J156 _ _ _ hP hD hS (lv_sub hl [0, 1, 2, 3, 4, 5, 6, 7, 8, 9, 10, 11] rfl)
              clear hF
              have hF := hy155
              clear hy155
              refine lv_if_ne (tgt := 148) hx hb dX2_filterEdge_141 (by decide) (fun c201 => ?_) (fun c201 => ?_)
              · rw [if_neg c201] at hF
                refine lv_iload hx hb dX2_filterEdge_148 (lv_at hl 1 rfl) ?_
                obtain rfl := Option.some.inj hF
                exact J155 _ _ _ hP hD hS (lv_sub hl [0, 1, 2, 3, 4, 5, 6, 7, 8, 9, 10] rfl)
              · rw [if_pos c201] at hF
                refine lv_iconst (v := (1 : Int32)) hx hb dX2_filterEdge_144 (by decide) ?_
                refine lv_goto (tgt := 150) hx hb dX2_filterEdge_145 (by decide) ?_
                obtain rfl := Option.some.inj hF
                exact J155 _ _ _ hP hD hS (lv_sub hl [0, 1, 2, 3, 4, 5, 6, 7, 8, 9, 10] rfl)
            clear hF
            have hF := hy152
            clear hy152
            refine lv_if_ne (tgt := 133) hx hb dX2_filterEdge_126 (by decide) (fun c202 => ?_) (fun c202 => ?_)
            · rw [if_neg c202] at hF
              refine lv_iload hx hb dX2_filterEdge_133 (lv_at hl 0 rfl) ?_
              obtain rfl := Option.some.inj hF
              exact J152 _ _ _ hP hD hS (lv_sub hl [0, 1, 2, 3, 4, 5, 6, 7, 8, 9] rfl)
            · rw [if_pos c202] at hF
              refine lv_iconst (v := (1 : Int32)) hx hb dX2_filterEdge_129 (by decide) ?_
              refine lv_goto (tgt := 135) hx hb dX2_filterEdge_130 (by decide) ?_
              obtain rfl := Option.some.inj hF
              exact J152 _ _ _ hP hD hS (lv_sub hl [0, 1, 2, 3, 4, 5, 6, 7, 8, 9] rfl)
          · rw [if_pos c139] at hF
            refine lv_goto (tgt := 76) hx hb dX2_filterEdge_68 (by decide) ?_
            obtain rfl := Option.some.inj hF
            exact W.vret hx hb hr (fun t ht hW => ⟨⟨(), rfl, trivial, ⟨by rw [ht]; exact hP, va_K.moved hW.alike hK, hD⟩⟩, hS.F ht⟩) hS.2.2 dX2_filterEdge_76
    clear hF
    have hF := hy4
    clear hy4
    refine lv_if_le (tgt := 28) hx hb dX2_filterEdge_21 (by decide) (fun c203 => ?_) (fun c203 => ?_)
    · rw [if_pos c203] at hF
      refine lv_iload hx hb dX2_filterEdge_28 (lv_at hl 6 rfl) ?_
      obtain ⟨y204, hy204, hF⟩ := bnd_some hF
      have J204 : ∀ (H : Heap) (locs : List Loc) (ls : Array Slot), va_P D classes (wld ct ad G M) H → va_D A (wld ct ad G M) → va_S A s.heap H locs → lv_has ls 20 [(7, .int y3), (6, va_re ad (M.2 b2 0)), (0, .ref (ad a)), (1, va_re ad p0), (2, .int p1), (3, .int p2), (4, .int p3), (5, .int p4)] → W p l e (headSpec wuX2_filterEdge ({ frames := 3, cells := 0, slots := 0, locals := 72 })).room s m ([.ref (ad a), va_re ad p0, .int p1, .int p2, .int p3, .int p4] : List Value).toArray below meth c H locs 0 0 (MQ below (va_Qv (fun (_ : Unit) => True) (fun _ t => kE D ct ad G A y t) A) ([.ref (ad a), va_re ad p0, .int p1, .int p2, .int p3, .int p4] : List Value).toArray s 0 0 A) (F0 m 46 ls [.int y204]) := by
        intro H locs ls hP hD hS hl
        obtain rfl := Option.some.inj hF
        exact J4 _ _ _ hP hD hS (lv_sub hl [0, 1, 2, 3, 4, 5, 6, 7] rfl)
      clear hF
      have hF := hy204
      clear hy204
      refine lv_if_ne (tgt := 39) hx hb dX2_filterEdge_30 (by decide) (fun c205 => ?_) (fun c205 => ?_)
      · rw [if_neg c205] at hF
        refine lv_iload_n hx hb dX2_filterEdge_39 rfl (lv_at hl 4 rfl) ?_
        refine lv_aloadq hx hb dX2_filterEdge_40 (lv_at hl 1 rfl) ?_
        obtain ⟨b206, ho206, hc206, hk206, hF⟩ := dr_some hF
        refine W_st (st' := [.ref (ad b206), .int p1]) (by rw [va_some ho206]) ?_
        refine va_get (D := D) (ci := 4) (v := .int (M.1 b206 1)) (C := RX4) (T := TX4) (N := 18) hx hb hts (mus hf_X4) hown hK hP b206 (wld_o ct ad G M hc206 hk206 (by decide)) rfl 1 (by decide) (hts (.fieldLink RX2 49 "VideoSuite$Picture" "width" "I") (mu mw_1420)) (fun _ h9 => h9) rfl dX2_filterEdge_42 ?_
        obtain ⟨x207, ex207, hF⟩ := ltt_some hF
        refine lv_topi (fun zx207 ezx207 => ?_)
        obtain rfl : x207 = zx207 := ex207.trans ezx207.symm
        refine lv_isub hx hb dX2_filterEdge_45 ?_
        obtain ⟨x208, ex208, hF⟩ := ltt_some hF
        refine lv_topi (fun zx208 ezx208 => ?_)
        obtain rfl : x208 = zx208 := ex208.trans ezx208.symm
        obtain rfl := Option.some.inj hF
        exact J204 _ _ _ hP hD hS (lv_sub hl [0, 1, 2, 3, 4, 5, 6, 7] rfl)
      · rw [if_pos c205] at hF
        refine lv_iload_n hx hb dX2_filterEdge_33 rfl (lv_at hl 4 rfl) ?_
        refine lv_iconst (v := (1 : Int32)) hx hb dX2_filterEdge_34 (by decide) ?_
        refine lv_isub hx hb dX2_filterEdge_35 ?_
        obtain ⟨x209, ex209, hF⟩ := ltt_some hF
        refine lv_topi (fun zx209 ezx209 => ?_)
        obtain rfl : x209 = zx209 := ex209.trans ezx209.symm
        refine lv_goto (tgt := 46) hx hb dX2_filterEdge_36 (by decide) ?_
        obtain rfl := Option.some.inj hF
        exact J204 _ _ _ hP hD hS (lv_sub hl [0, 1, 2, 3, 4, 5, 6, 7] rfl)
    · rw [if_neg c203] at hF
      refine lv_iload_n hx hb dX2_filterEdge_24 rfl (lv_at hl 4 rfl) ?_
      refine lv_goto (tgt := 46) hx hb dX2_filterEdge_25 (by decide) ?_
      obtain rfl := Option.some.inj hF
      exact J4 _ _ _ hP hD hS (lv_sub hl [0, 1, 2, 3, 4, 5, 6, 7] rfl)
  clear hF
  have hF := hy3
  clear hy3
  refine lv_if_ne (tgt := 15) hx hb dX2_filterEdge_7 (by decide) (fun c210 => ?_) (fun c210 => ?_)
  · rw [if_neg c210] at hF
    refine lv_bipush (v := (8 : Int32)) hx hb dX2_filterEdge_15 (by decide) ?_
    obtain rfl := Option.some.inj hF
    exact J3 _ _ _ hP hD hS (lv_sub hl [0, 1, 2, 3, 4, 5, 6] rfl)
  · rw [if_pos c210] at hF
    refine lv_bipush (v := (16 : Int32)) hx hb dX2_filterEdge_10 (by decide) ?_
    refine lv_goto (tgt := 17) hx hb dX2_filterEdge_12 (by decide) ?_
    obtain rfl := Option.some.inj hF
    exact J3 _ _ _ hP hD hS (lv_sub hl [0, 1, 2, 3, 4, 5, 6] rfl)
