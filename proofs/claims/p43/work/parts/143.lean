theorem ggX1_readColours_X5_number : GoodIn wsX1_readColours wsX5_number := goodIn_ca (goodIn_r _ [9, 10, 11, 12, 13, 14, 15, 8, 16, 17, 18, 19, 20, 21, 22, 23, 24, 25, 26, 27, 28, 29, 30, 31, 32, 33, 34, 35, 36, 37, 38, 39, 40, 91, 92, 93, 94, 95, 96, 97, 98, 99, 100, 101, 102, 103, 104, 105, 106, 107] (by decide +kernel) (by decide +kernel)) (goodIn_sub (fun _ h => List.mem_cons_of_mem _ (List.mem_append_right _ h)) (by decide +kernel))
set_option maxRecDepth 20000 in
theorem gX1_readColours_X5_number : GoodIn wsX1_readColours (wsV RX1 179 RX5 yX5_number wsX5_number) := goodIn_app (goodIn_of _ (by decide +kernel)) ggX1_readColours_X5_number
set_option maxRecDepth 20000 in
theorem ggX1_readColours_X9_mayBeColours : GoodIn wsX1_readColours wsX9_mayBeColours := goodIn_r _ [44] (by decide +kernel) (by decide +kernel)
set_option maxRecDepth 20000 in
theorem gX1_readColours_X9_mayBeColours : GoodIn wsX1_readColours (va_wsS RX1 440 yX9_mayBeColours wsX9_mayBeColours) := goodIn_app (goodIn_of _ (by decide +kernel)) ggX1_readColours_X9_mayBeColours
set_option maxRecDepth 20000 in
theorem dX1_readColours_0 : decode cX1_readColours 0 = .ok (.aload_n 0, 1) := by decide +kernel
theorem dX1_readColours_1 : decode cX1_readColours 1 = .ok (.getfield 12, 3) := by decide +kernel
theorem dX1_readColours_4 : decode cX1_readColours 4 = .ok (.iconst 4, 1) := by decide +kernel
theorem dX1_readColours_5 : decode cX1_readColours 5 = .ok (.iconst 0, 1) := by decide +kernel
theorem dX1_readColours_6 : decode cX1_readColours 6 = .ok (.lconst 0, 1) := by decide +kernel
theorem dX1_readColours_7 : decode cX1_readColours 7 = .ok (.ldc2_w 414, 3) := by decide +kernel
theorem dX1_readColours_10 : decode cX1_readColours 10 = .ok (.invokevirtual 179, 3) := by decide +kernel
theorem dX1_readColours_13 : decode cX1_readColours 13 = .ok (.istore_n 3, 1) := by decide +kernel
theorem dX1_readColours_14 : decode cX1_readColours 14 = .ok (.iload_n 3, 1) := by decide +kernel
theorem dX1_readColours_15 : decode cX1_readColours 15 = .ok (.iload_n 2, 1) := by decide +kernel
theorem dX1_readColours_16 : decode cX1_readColours 16 = .ok (.invokestatic 440, 3) := by decide +kernel
theorem dX1_readColours_19 : decode cX1_readColours 19 = .ok (.ifCond .ne 11, 3) := by decide +kernel
theorem dX1_readColours_22 : decode cX1_readColours 22 = .ok (.aload_n 0, 1) := by decide +kernel
theorem dX1_readColours_23 : decode cX1_readColours 23 = .ok (.getfield 12, 3) := by decide +kernel
theorem dX1_readColours_26 : decode cX1_readColours 26 = .ok (.iconst 4, 1) := by decide +kernel
theorem dX1_readColours_27 : decode cX1_readColours 27 = .ok (.invokevirtual 325, 3) := by decide +kernel
theorem dX1_readColours_30 : decode cX1_readColours 30 = .ok (.aload_n 0, 1) := by decide +kernel
theorem dX1_readColours_31 : decode cX1_readColours 31 = .ok (.getfield 28, 3) := by decide +kernel
theorem dX1_readColours_34 : decode cX1_readColours 34 = .ok (.getfield 355, 3) := by decide +kernel
theorem dX1_readColours_37 : decode cX1_readColours 37 = .ok (.bipush 8, 2) := by decide +kernel
theorem dX1_readColours_39 : decode cX1_readColours 39 = .ok (.iload_n 1, 1) := by decide +kernel
theorem dX1_readColours_40 : decode cX1_readColours 40 = .ok (.imul, 1) := by decide +kernel
theorem dX1_readColours_41 : decode cX1_readColours 41 = .ok (.iconst 5, 1) := by decide +kernel
theorem dX1_readColours_42 : decode cX1_readColours 42 = .ok (.iadd, 1) := by decide +kernel
theorem dX1_readColours_43 : decode cX1_readColours 43 = .ok (.iload_n 3, 1) := by decide +kernel
theorem dX1_readColours_44 : decode cX1_readColours 44 = .ok (.iastore, 1) := by decide +kernel
theorem dX1_readColours_45 : decode cX1_readColours 45 = .ok (.return_, 1) := by decide +kernel
def FX1_readColours (G : GG) (M : DD) (a : Nat) (p0 : Int32) (p1 : Int32) : Option (DD) :=
  dr G 5 ((M.2 a 0)) fun b2 =>
  bnd (FX5_number G M b2 ((4 : Int32)) ((0 : Int32)) ((0 : Int64)) ((3 : Int64))) fun y3 =>
  bnd (FX9_mayBeColours G y3.1 y3.2 p1) fun y4 =>
  bnd (if y4.2 = ((0 : Int32)) then (none) else
  (some (y4.1))) fun (y5 : DD) =>
  dr G 9 ((y5.2 a 2)) fun b6 =>
  ltt ((((8 : Int32)) * p0)) fun x7 =>
  ltt ((x7 + ((5 : Int32)))) fun x8 =>
  dr G 13 ((y5.2 b6 6)) fun b9 =>
  chk (¬ (x8 < 0 ∨ G.2.2 b9 ≤ x8.toNatClampNeg)) <|
  ltt (uI y5 b9 x8.toNatClampNeg y3.2) fun M10 =>
  some M10
set_option maxHeartbeats 4000000 in
set_option maxRecDepth 100000 in
theorem kX1_readColours (l : Launch) (D : va_G) (ct : CT) (ad : Nat → Nat) (Z : Nat → Nat) (G : GG) (M : DD) (sz : Nat) (a : Nat) (p0 : Int32) (p1 : Int32) (y : DD) (hc : a < G.1) (hk : G.2.1 a = 1) (hF : FX1_readColours G M a p0 p1 = some y) : Met l yX1_readColours wsX1_readColours ({ frames := 2, cells := 0, slots := 0, locals := 59 }) (va_Pc [.ref (ad a), .int p0, .int p1] (kB D ct ad Z G M sz)) (va_Qv (fun (_ : Unit) => True) (fun _ t => kE D ct ad G (wA ad G sz) y t) (wA ad G sz)) 0 0 (wA ad G sz) := by
  refine Met.ofW (cc := cX1_readColours) (maxL := 4) (ret := none) (by decide) rfl ?_
  intro p e s m args below meth c s₁ B hml hv
  obtain ⟨rfl, hsz, hP, hK, hD0, hZ, hN⟩ := hv
  have hx := B.exec
  have hb := B.bytes
  have hr := B.returns
  have hts := atoms_spec (ws := wsX1_readColours) B.pre
  have hown : s.vm.findClass RX1 = some m.cls := findClass_of_methodNamed B.named
  have hlocks := B.notSynchronized
  subst hsz
  have hD := wD_self (sz := s.heap.size) hD0
  have hA9 : ∀ q, s.heap.size ≤ q → wA ad G s.heap.size q := fun q h => Or.inr h
  generalize hAe : wA ad G s.heap.size = A at hD hA9 hZ ⊢
  have hS : va_S A s.heap s.heap [] := va_S.rf
  have hl := lv_entry ([.ref (ad a), .int p0, .int p1]) (n := 4) (Nat.le_of_ble_eq_true rfl)
  rw [lg_entry_eq]
  generalize (lg_sl ([.ref (ad a), .int p0, .int p1]) ++ List.replicate (4 - (lg_sl ([.ref (ad a), .int p0, .int p1])).length) Slot.unset).toArray = ls at hl ⊢
  have hl : lv_has ls 4 [(0, .ref (ad a)), (1, .int p0), (2, .int p1)] := hl
  unfold FX1_readColours at hF
  refine lv_aload_n hx hb dX1_readColours_0 rfl (lv_at hl 0 rfl) ?_
  refine va_get (D := D) (ci := 1) (v := va_re ad (M.2 a 0)) (C := RX1) (T := TX1) (N := 22) hx hb hts (by decide +kernel) hown hK hP a (wld_o ct ad G M hc hk (by decide)) rfl 0 (by decide) (hts (.fieldLink RX1 12 "VideoSuite$Decoder" "reader" "LVideoSuite$Reader;") (by decide +kernel)) (fun _ h9 => h9) rfl dX1_readColours_1 ?_
  refine lv_iconst (v := (4 : Int32)) hx hb dX1_readColours_4 (by decide) ?_
  refine lv_iconst (v := (0 : Int32)) hx hb dX1_readColours_5 (by decide) ?_
  refine lv_lconst (v := (0 : Int64)) hx hb dX1_readColours_6 rfl ?_
  refine lv_ldc2 (v := (3 : Int64)) hx hb hown (hts (.constantLong RX1 414 (3 : Int64)) (by decide +kernel)) dX1_readColours_7 ?_
  obtain ⟨b2, ho2, hc2, hk2, hF⟩ := dr_some hF
  refine W_st (st' := [.long (3 : Int64), .long (0 : Int64), .int (0 : Int32), .int (4 : Int32), .ref (ad b2)]) (by rw [va_some ho2]) ?_
  obtain ⟨y3, hy3, hF⟩ := bnd_some hF
  have hf9 := wA_in hD hA9 hS
  refine va_calli (va_runV (As := [.int (4 : Int32), .int (0 : Int32), .long (0 : Int64), .long (3 : Int64)]) (rest := []) ⟨hx, hb, hml, hown, hts⟩ (kX5_number l D ct ad Z G M s.heap.size b2 ((4 : Int32)) ((0 : Int32)) ((0 : Int64)) ((3 : Int64)) y3 hc2 hk2 hy3) (cwV 4 hts gX1_readColours_X5_number rfl rfl rfl (by decide +kernel) ⟨Nat.le_of_ble_eq_true rfl, Nat.le_of_ble_eq_true rfl⟩) ⟨fun a U g mk q => by obtain ⟨q0, q1, qP, qK, qD, qZ, qN⟩ := q; exact ⟨q0, q1, qP, va_K.moved (u := U) (U := U.calling g mk a) (Vm.Alike.refl U.vm) qK, qD, sF.moved (u := U) (U := U.calling g mk a) (Vm.Alike.refl U.vm) qZ, nF.same rfl qN⟩, va_recv hK hP (ci := 5) (q0 := b2) rfl (wld_o ct ad G M hc2 hk2 (by decide)), fun U hU hW => ⟨rfl, by rw [hU], by rw [hU]; exact hP, va_K.moved hW.alike hK, hD.weaken (fun _ _ _ _ => trivial), by rw [hU]; exact ((hZ.kept hS.2.1).narrow hf9).moved hW.alike, hN.warm hW⟩⟩ rfl rfl hl.1 rfl (lv_room (Nat.le_of_ble_eq_true rfl)) dX1_readColours_10 ⟨(Nat.zero_le _), (Nat.zero_le _)⟩) hS (fun q _ h => hf9 q h) hf9 (fun r u t H locs ht hvm hw hB hz1 hk1 hS => ?_)
  obtain ⟨hP, hK9, hD9⟩ := hB
  rw [ht] at hP
  try dsimp only at hw
  subst hw
  have hD := hD9.weaken (fun _ q _ h => hf9 q.1 h)
  refine lv_istore_n (lv' := [(3, .int y3.2), (0, .ref (ad a)), (1, .int p0), (2, .int p1)]) hx hb dX1_readColours_13 rfl hl (by decide) rfl (fun ls hl => ?_)
  refine lv_iload_n hx hb dX1_readColours_14 rfl (lv_at hl 0 rfl) ?_
  refine lv_iload_n hx hb dX1_readColours_15 rfl (lv_at hl 3 rfl) ?_
  obtain ⟨y4, hy4, hF⟩ := bnd_some hF
  have hf9 := wA_in hD hA9 hS
  refine va_calli (va_runS (As := [.int y3.2, .int p1]) (rest := []) ⟨hx, hb, hml, hown, hts⟩ (kX9_mayBeColours l D ct ad Z G y3.1 H.size y3.2 p1 y4 hy4) (va_cwS 2 hts gX1_readColours_X9_mayBeColours rfl rfl rfl (by decide +kernel) ⟨Nat.le_of_ble_eq_true rfl, Nat.le_of_ble_eq_true rfl⟩) ⟨fun a U g mk q => by obtain ⟨q0, q1, qP, qK, qD, qZ, qN⟩ := q; exact ⟨q0, q1, qP, va_K.moved (u := U) (U := U.calling g mk a) (Vm.Alike.refl U.vm) qK, qD, sF.moved (u := U) (U := U.calling g mk a) (Vm.Alike.refl U.vm) qZ, nF.same rfl qN⟩, fun U hU hW => ⟨rfl, by rw [hU], by rw [hU]; exact hP, va_K.moved hW.alike hK, hD.weaken (fun _ _ _ _ => trivial), by rw [hU]; exact ((hZ.kept hS.2.1).narrow hf9).moved hW.alike, hN.warm hW⟩⟩ rfl rfl hl.1 rfl (lv_room (Nat.le_of_ble_eq_true rfl)) dX1_readColours_16 ⟨(Nat.zero_le _), (Nat.zero_le _)⟩) hS (fun q _ h => hf9 q h) hf9 (fun r u t H locs ht hvm hw hB hz1 hk1 hS => ?_)
  obtain ⟨hP, hK9, hD9⟩ := hB
  rw [ht] at hP
  try dsimp only at hw
  subst hw
  have hD := hD9.weaken (fun _ q _ h => hf9 q.1 h)
  obtain ⟨y5, hy5, hF⟩ := bnd_some hF
  have J5 : ∀ (H : Heap) (locs : List Loc) (ls : Array Slot), va_P D classes (wld ct ad G y5) H → va_D A (wld ct ad G y5) → va_S A s.heap H locs → lv_has ls 4 [(3, .int y3.2), (0, .ref (ad a)), (1, .int p0), (2, .int p1)] → W p l e (headSpec wsX1_readColours ({ frames := 2, cells := 0, slots := 0, locals := 59 })).room s m ([.ref (ad a), .int p0, .int p1] : List Value).toArray below meth c H locs 0 0 (MQ below (va_Qv (fun (_ : Unit) => True) (fun _ t => kE D ct ad G A y t) A) ([.ref (ad a), .int p0, .int p1] : List Value).toArray s 0 0 A) (F0 m 30 ls []) := by
    intro H locs ls hP hD hS hl
    refine lv_aload_n hx hb dX1_readColours_30 rfl (lv_at hl 1 rfl) ?_
    refine va_get (D := D) (ci := 1) (v := va_re ad (y5.2 a 2)) (C := RX1) (T := TX1) (N := 22) hx hb hts (by decide +kernel) hown hK hP a (wld_o ct ad G y5 hc hk (by decide)) rfl 2 (by decide) (hts (.fieldLink RX1 28 "VideoSuite$Decoder" "work" "LVideoSuite$Work;") (by decide +kernel)) (fun _ h9 => h9) rfl dX1_readColours_31 ?_
    obtain ⟨b6, ho6, hc6, hk6, hF⟩ := dr_some hF
    refine W_st (st' := [.ref (ad b6)]) (by rw [va_some ho6]) ?_
    refine va_get (D := D) (ci := 9) (v := va_re ad (y5.2 b6 6)) (C := RX9) (T := TX9) (N := 20) hx hb hts (by decide +kernel) hown hK hP b6 (wld_o ct ad G y5 hc6 hk6 (by decide)) rfl 6 (by decide) (hts (.fieldLink RX1 355 "VideoSuite$Work" "info" "[I") (by decide +kernel)) (fun _ h9 => h9) rfl dX1_readColours_34 ?_
    refine lv_bipush (v := (8 : Int32)) hx hb dX1_readColours_37 (by decide) ?_
    refine lv_iload_n hx hb dX1_readColours_39 rfl (lv_at hl 2 rfl) ?_
    refine lv_imul hx hb dX1_readColours_40 ?_
    obtain ⟨x7, ex7, hF⟩ := ltt_some hF
    refine lv_topi (fun zx7 ezx7 => ?_)
    obtain rfl : x7 = zx7 := ex7.trans ezx7.symm
    refine lv_iconst (v := (5 : Int32)) hx hb dX1_readColours_41 (by decide) ?_
    refine lv_iadd hx hb dX1_readColours_42 ?_
    obtain ⟨x8, ex8, hF⟩ := ltt_some hF
    refine lv_topi (fun zx8 ezx8 => ?_)
    obtain rfl : x8 = zx8 := ex8.trans ezx8.symm
    refine lv_iload_n hx hb dX1_readColours_43 rfl (lv_at hl 0 rfl) ?_
    obtain ⟨b9, ho9, hc9, hk9, hF⟩ := dr_some hF
    refine W_st (st' := [.int y3.2, .int x8, .ref (ad b9)]) (by rw [va_some ho9]) ?_
    obtain ⟨hvc, hF⟩ := chk_some hF
    refine va_iast hx hb hK hP hD hS b9 1 (wld_i ct ad G y5 hc9 hk9) rfl hvc dX1_readColours_44 (fun H locs hP hD hS => ?_)
    obtain ⟨M10, eM10, hF⟩ := ltt_some hF
    rw [set_i ct ad G y5 hc9 hk9, ← eM10] at hP hD
    obtain rfl := Option.some.inj hF
    exact W.vret hx hb hr (fun t ht hW => ⟨⟨(), rfl, trivial, ⟨by rw [ht]; exact hP, va_K.moved hW.alike hK, hD⟩⟩, hS.F ht⟩) hS.2.2 dX1_readColours_45
  clear hF
  have hF := hy5
  clear hy5
  refine lv_if_ne (tgt := 30) hx hb dX1_readColours_19 (by decide) (fun c11 => ?_) (fun c11 => ?_)
  · rw [if_neg c11] at hF
    obtain rfl := Option.some.inj hF
    exact J5 _ _ _ hP hD hS (lv_sub hl [0, 1, 2, 3] rfl)
  · rw [if_pos c11] at hF
    refine lv_aload_n hx hb dX1_readColours_22 rfl (lv_at hl 1 rfl) ?_
    refine va_get (D := D) (ci := 1) (v := va_re ad (y4.1.2 a 0)) (C := RX1) (T := TX1) (N := 22) hx hb hts (by decide +kernel) hown hK hP a (wld_o ct ad G y4.1 hc hk (by decide)) rfl 0 (by decide) (hts (.fieldLink RX1 12 "VideoSuite$Decoder" "reader" "LVideoSuite$Reader;") (by decide +kernel)) (fun _ h9 => h9) rfl dX1_readColours_23 ?_
    refine lv_iconst (v := (4 : Int32)) hx hb dX1_readColours_26 (by decide) ?_
    cases hF
theorem ggX1_readFour_X9_sides : GoodIn wsX1_readFour wsX9_sides := goodIn_r _ [9, 10, 11, 12, 8, 13, 14, 15, 16, 17, 18, 19, 20, 21, 22, 119, 120, 121, 122, 123, 124, 125, 126, 127, 128, 129, 130, 131, 132, 133, 134, 135, 136, 137, 138, 139, 140, 141, 142, 143, 144, 145, 146, 147, 148, 149, 150, 151, 152, 153, 154, 155, 156] (by decide +kernel) (by decide +kernel)
set_option maxRecDepth 20000 in
theorem gX1_readFour_X9_sides : GoodIn wsX1_readFour (wsV RX1 416 RX9 yX9_sides wsX9_sides) := goodIn_app (goodIn_of _ (by decide +kernel)) ggX1_readFour_X9_sides
set_option maxRecDepth 20000 in
theorem ggX1_readFour_X1_readColours : GoodIn wsX1_readFour wsX1_readColours := goodIn_ca (goodIn_r _ [87, 3, 88, 1, 2, 89, 90, 91, 41, 92, 43, 44, 93, 45, 46, 47, 48, 49, 50, 51, 52, 53, 54, 55, 56, 57, 58, 59, 60, 61, 79, 80, 81, 82, 62, 63, 64, 65, 66, 67, 68, 94, 95, 8, 96, 75, 76, 77, 78, 97, 98, 99, 100, 101, 102, 103, 104, 105, 106, 107, 108, 109, 110, 111, 112, 113, 114, 115, 116, 117, 118, 119, 120, 121, 122, 123, 124, 125, 126, 127, 128, 129, 130, 131, 132, 133, 134, 135, 136, 137, 138, 157, 158, 159, 160, 161, 162, 163, 164, 165, 166, 167, 168, 169, 170, 171, 172, 173] (by decide +kernel) (by decide +kernel)) (goodIn_sub (fun _ h => List.mem_cons_of_mem _ (List.mem_append_right _ h)) (by decide +kernel))
set_option maxRecDepth 20000 in
theorem gX1_readFour_X1_readColours : GoodIn wsX1_readFour (wsV RX1 428 RX1 yX1_readColours wsX1_readColours) := goodIn_app (goodIn_of _ (by decide +kernel)) ggX1_readFour_X1_readColours
theorem ggX1_readFour_X9_guessMode : GoodIn wsX1_readFour wsX9_guessMode := goodIn_r _ [26, 27, 28, 8, 29, 30, 31, 32, 10, 11, 12, 13, 14, 15, 16, 17, 33, 34, 35, 36, 22, 37, 119, 120, 121, 122, 123, 124, 125, 126, 127, 128, 129, 130, 131, 132, 133, 134, 135, 136, 137, 138, 139, 140, 141, 142, 143, 144, 145, 146, 147, 148, 149, 150, 151, 152, 153, 154, 155, 156] (by decide +kernel) (by decide +kernel)
set_option maxRecDepth 20000 in
theorem gX1_readFour_X9_guessMode : GoodIn wsX1_readFour (wsV RX1 431 RX9 yX9_guessMode wsX9_guessMode) := goodIn_app (goodIn_of _ (by decide +kernel)) ggX1_readFour_X9_guessMode
set_option maxRecDepth 20000 in
theorem ggX1_readFour_X5_fixed : GoodIn wsX1_readFour wsX5_fixed := goodIn_ca (goodIn_r _ [42, 43, 44, 45, 46, 47, 41, 48, 49, 50, 51, 52, 53, 54, 55, 56, 57, 58, 59, 60, 61, 62, 63, 64, 65, 66, 67, 68, 157, 158, 159, 160, 161, 162, 163, 164, 165, 166, 167, 168, 169, 170, 171, 172, 173] (by decide +kernel) (by decide +kernel)) (goodIn_sub (fun _ h => List.mem_cons_of_mem _ (List.mem_append_right _ h)) (by decide +kernel))
set_option maxRecDepth 20000 in
theorem gX1_readFour_X5_fixed : GoodIn wsX1_readFour (wsV RX1 183 RX5 yX5_fixed wsX5_fixed) := goodIn_app (goodIn_of _ (by decide +kernel)) ggX1_readFour_X5_fixed
set_option maxRecDepth 20000 in
theorem ggX1_readFour_X9_sidesOf : GoodIn wsX1_readFour wsX9_sidesOf := goodIn_r _ [71, 27, 28, 8, 29, 30, 31, 32] (by decide +kernel) (by decide +kernel)
set_option maxRecDepth 20000 in
theorem gX1_readFour_X9_sidesOf : GoodIn wsX1_readFour (va_wsS RX1 434 yX9_sidesOf wsX9_sidesOf) := goodIn_app (goodIn_of _ (by decide +kernel)) ggX1_readFour_X9_sidesOf
set_option maxRecDepth 20000 in
theorem ggX1_readFour_X9_mayBeFour : GoodIn wsX1_readFour wsX9_mayBeFour := goodIn_r _ [74] (by decide +kernel) (by decide +kernel)
set_option maxRecDepth 20000 in
theorem gX1_readFour_X9_mayBeFour : GoodIn wsX1_readFour (va_wsS RX1 437 yX9_mayBeFour wsX9_mayBeFour) := goodIn_app (goodIn_of _ (by decide +kernel)) ggX1_readFour_X9_mayBeFour
set_option maxRecDepth 20000 in
theorem dX1_readFour_0 : decode cX1_readFour 0 = .ok (.aload_n 0, 1) := by decide +kernel
theorem dX1_readFour_1 : decode cX1_readFour 1 = .ok (.getfield 28, 3) := by decide +kernel
theorem dX1_readFour_4 : decode cX1_readFour 4 = .ok (.iload_n 1, 1) := by decide +kernel
theorem dX1_readFour_5 : decode cX1_readFour 5 = .ok (.invokevirtual 416, 3) := by decide +kernel
theorem dX1_readFour_8 : decode cX1_readFour 8 = .ok (.istore_n 2, 1) := by decide +kernel
theorem dX1_readFour_9 : decode cX1_readFour 9 = .ok (.aload_n 0, 1) := by decide +kernel
theorem dX1_readFour_10 : decode cX1_readFour 10 = .ok (.getfield 28, 3) := by decide +kernel
theorem dX1_readFour_13 : decode cX1_readFour 13 = .ok (.getfield 355, 3) := by decide +kernel
theorem dX1_readFour_16 : decode cX1_readFour 16 = .ok (.bipush 8, 2) := by decide +kernel
theorem dX1_readFour_18 : decode cX1_readFour 18 = .ok (.iload_n 1, 1) := by decide +kernel
theorem dX1_readFour_19 : decode cX1_readFour 19 = .ok (.imul, 1) := by decide +kernel
theorem dX1_readFour_20 : decode cX1_readFour 20 = .ok (.iconst 0, 1) := by decide +kernel
theorem dX1_readFour_21 : decode cX1_readFour 21 = .ok (.iadd, 1) := by decide +kernel
theorem dX1_readFour_22 : decode cX1_readFour 22 = .ok (.iconst 0, 1) := by decide +kernel
theorem dX1_readFour_23 : decode cX1_readFour 23 = .ok (.iastore, 1) := by decide +kernel
theorem dX1_readFour_24 : decode cX1_readFour 24 = .ok (.iconst 0, 1) := by decide +kernel
theorem dX1_readFour_25 : decode cX1_readFour 25 = .ok (.istore_n 3, 1) := by decide +kernel
theorem dX1_readFour_26 : decode cX1_readFour 26 = .ok (.iload_n 3, 1) := by decide +kernel
theorem dX1_readFour_27 : decode cX1_readFour 27 = .ok (.bipush 16, 2) := by decide +kernel
theorem dX1_readFour_29 : decode cX1_readFour 29 = .ok (.if_icmp .ge 102, 3) := by decide +kernel
theorem dX1_readFour_32 : decode cX1_readFour 32 = .ok (.aload_n 0, 1) := by decide +kernel
theorem dX1_readFour_33 : decode cX1_readFour 33 = .ok (.getfield 28, 3) := by decide +kernel
theorem dX1_readFour_36 : decode cX1_readFour 36 = .ok (.iload_n 1, 1) := by decide +kernel
theorem dX1_readFour_37 : decode cX1_readFour 37 = .ok (.iload_n 3, 1) := by decide +kernel
theorem dX1_readFour_38 : decode cX1_readFour 38 = .ok (.invokevirtual 431, 3) := by decide +kernel
theorem dX1_readFour_41 : decode cX1_readFour 41 = .ok (.istore 4, 2) := by decide +kernel
theorem dX1_readFour_43 : decode cX1_readFour 43 = .ok (.iload 4, 2) := by decide +kernel
theorem dX1_readFour_45 : decode cX1_readFour 45 = .ok (.istore 5, 2) := by decide +kernel
theorem dX1_readFour_47 : decode cX1_readFour 47 = .ok (.aload_n 0, 1) := by decide +kernel
theorem dX1_readFour_48 : decode cX1_readFour 48 = .ok (.getfield 12, 3) := by decide +kernel
theorem dX1_readFour_51 : decode cX1_readFour 51 = .ok (.iconst 2, 1) := by decide +kernel
theorem dX1_readFour_52 : decode cX1_readFour 52 = .ok (.iconst 1, 1) := by decide +kernel
theorem dX1_readFour_53 : decode cX1_readFour 53 = .ok (.invokevirtual 183, 3) := by decide +kernel
theorem dX1_readFour_56 : decode cX1_readFour 56 = .ok (.ifCond .ne 32, 3) := by decide +kernel
theorem dX1_readFour_59 : decode cX1_readFour 59 = .ok (.aload_n 0, 1) := by decide +kernel
theorem dX1_readFour_60 : decode cX1_readFour 60 = .ok (.getfield 12, 3) := by decide +kernel
theorem dX1_readFour_63 : decode cX1_readFour 63 = .ok (.iconst 3, 1) := by decide +kernel
theorem dX1_readFour_64 : decode cX1_readFour 64 = .ok (.iconst 3, 1) := by decide +kernel
theorem dX1_readFour_65 : decode cX1_readFour 65 = .ok (.invokevirtual 183, 3) := by decide +kernel
theorem dX1_readFour_68 : decode cX1_readFour 68 = .ok (.istore 6, 2) := by decide +kernel
theorem dX1_readFour_70 : decode cX1_readFour 70 = .ok (.iload 6, 2) := by decide +kernel
theorem dX1_readFour_72 : decode cX1_readFour 72 = .ok (.iload 4, 2) := by decide +kernel
theorem dX1_readFour_74 : decode cX1_readFour 74 = .ok (.if_icmp .ge 8, 3) := by decide +kernel
theorem dX1_readFour_77 : decode cX1_readFour 77 = .ok (.iload 6, 2) := by decide +kernel
theorem dX1_readFour_79 : decode cX1_readFour 79 = .ok (.goto 7, 3) := by decide +kernel
theorem dX1_readFour_82 : decode cX1_readFour 82 = .ok (.iload 6, 2) := by decide +kernel
theorem dX1_readFour_84 : decode cX1_readFour 84 = .ok (.iconst 1, 1) := by decide +kernel
theorem dX1_readFour_85 : decode cX1_readFour 85 = .ok (.iadd, 1) := by decide +kernel
theorem dX1_readFour_86 : decode cX1_readFour 86 = .ok (.istore 5, 2) := by decide +kernel
theorem dX1_readFour_88 : decode cX1_readFour 88 = .ok (.iload 5, 2) := by decide +kernel
theorem dX1_readFour_90 : decode cX1_readFour 90 = .ok (.iload_n 3, 1) := by decide +kernel
theorem dX1_readFour_91 : decode cX1_readFour 91 = .ok (.iload_n 2, 1) := by decide +kernel
theorem dX1_readFour_92 : decode cX1_readFour 92 = .ok (.invokestatic 434, 3) := by decide +kernel
theorem dX1_readFour_95 : decode cX1_readFour 95 = .ok (.invokestatic 437, 3) := by decide +kernel
theorem dX1_readFour_98 : decode cX1_readFour 98 = .ok (.ifCond .ne 11, 3) := by decide +kernel
theorem dX1_readFour_101 : decode cX1_readFour 101 = .ok (.aload_n 0, 1) := by decide +kernel
theorem dX1_readFour_102 : decode cX1_readFour 102 = .ok (.getfield 12, 3) := by decide +kernel
theorem dX1_readFour_105 : decode cX1_readFour 105 = .ok (.iconst 4, 1) := by decide +kernel
theorem dX1_readFour_106 : decode cX1_readFour 106 = .ok (.invokevirtual 325, 3) := by decide +kernel
theorem dX1_readFour_109 : decode cX1_readFour 109 = .ok (.aload_n 0, 1) := by decide +kernel
theorem dX1_readFour_110 : decode cX1_readFour 110 = .ok (.getfield 28, 3) := by decide +kernel
theorem dX1_readFour_113 : decode cX1_readFour 113 = .ok (.getfield 422, 3) := by decide +kernel
theorem dX1_readFour_116 : decode cX1_readFour 116 = .ok (.bipush 16, 2) := by decide +kernel
theorem dX1_readFour_118 : decode cX1_readFour 118 = .ok (.iload_n 1, 1) := by decide +kernel
theorem dX1_readFour_119 : decode cX1_readFour 119 = .ok (.imul, 1) := by decide +kernel
theorem dX1_readFour_120 : decode cX1_readFour 120 = .ok (.iload_n 3, 1) := by decide +kernel
theorem dX1_readFour_121 : decode cX1_readFour 121 = .ok (.iadd, 1) := by decide +kernel
theorem dX1_readFour_122 : decode cX1_readFour 122 = .ok (.iload 5, 2) := by decide +kernel
theorem dX1_readFour_124 : decode cX1_readFour 124 = .ok (.iastore, 1) := by decide +kernel
theorem dX1_readFour_125 : decode cX1_readFour 125 = .ok (.iinc 3 1, 3) := by decide +kernel
theorem dX1_readFour_128 : decode cX1_readFour 128 = .ok (.goto (-102), 3) := by decide +kernel
theorem dX1_readFour_131 : decode cX1_readFour 131 = .ok (.aload_n 0, 1) := by decide +kernel
theorem dX1_readFour_132 : decode cX1_readFour 132 = .ok (.iload_n 1, 1) := by decide +kernel
theorem dX1_readFour_133 : decode cX1_readFour 133 = .ok (.iload_n 2, 1) := by decide +kernel
theorem dX1_readFour_134 : decode cX1_readFour 134 = .ok (.invokevirtual 428, 3) := by decide +kernel
theorem dX1_readFour_137 : decode cX1_readFour 137 = .ok (.return_, 1) := by decide +kernel
def FX1_readFour (G : GG) (M : DD) (a : Nat) (p0 : Int32) : Option (DD) :=
  dr G 9 ((M.2 a 2)) fun b2 =>
  bnd (FX9_sides G M b2 p0) fun y3 =>
  dr G 9 ((y3.1.2 a 2)) fun b4 =>
  ltt ((((8 : Int32)) * p0)) fun x5 =>
  ltt ((x5 + ((0 : Int32)))) fun x6 =>
  dr G 13 ((y3.1.2 b4 6)) fun b7 =>
  chk (¬ (x6 < 0 ∨ G.2.2 b7 ≤ x6.toNatClampNeg)) <|
  ltt (uI y3.1 b7 x6.toNatClampNeg ((0 : Int32))) fun M8 =>
  bnd (itr (fun (s10 : Int32 × DD) => ((if ((16 : Int32)) ≤ s10.1 then (some (.inr (s10.1, s10.2))) else
  (dr G 9 ((s10.2.2 a 2)) fun b15 =>
  bnd (FX9_guessMode G s10.2 b15 p0 s10.1) fun y16 =>
  dr G 5 ((y16.1.2 a 0)) fun b17 =>
  bnd (FX5_fixed G y16.1 b17 ((2 : Int32)) ((1 : Int32))) fun y18 =>
  bnd (if y18.2 = ((0 : Int32)) then (dr G 5 ((y18.1.2 a 0)) fun b31 =>
  bnd (FX5_fixed G y18.1 b31 ((3 : Int32)) ((3 : Int32))) fun y32 =>
  bnd (if y16.2 ≤ y32.2 then (ltt ((y32.2 + ((1 : Int32)))) fun x35 =>
  some (x35)) else
  (some (y32.2))) fun (y33 : Int32) =>
  some (y33, y32.1)) else
  (some (y16.2, y18.1))) fun (y19 : Int32 × DD) =>
  bnd (FX9_sidesOf G y19.2 s10.1 y3.2) fun y20 =>
  bnd (FX9_mayBeFour G y20.1 y19.1 y20.2) fun y21 =>
  bnd (if y21.2 = ((0 : Int32)) then (none) else
  (some (y21.1))) fun (y22 : DD) =>
  dr G 9 ((y22.2 a 2)) fun b23 =>
  ltt ((((16 : Int32)) * p0)) fun x24 =>
  ltt ((x24 + s10.1)) fun x25 =>
  dr G 13 ((y22.2 b23 7)) fun b26 =>
  chk (¬ (x25 < 0 ∨ G.2.2 b26 ≤ x25.toNatClampNeg)) <|
  ltt (uI y22 b26 x25.toNatClampNeg y19.1) fun M27 =>
  ltt (s10.1 + (1 : Int32)) fun x28 =>
  some (.inl (x28, M27)))) : Option ((Int32 × DD) ⊕ (Int32 × DD)))) 1000000 ((0 : Int32), M8)) fun (y9 : Int32 × DD) =>
  bnd (FX1_readColours G y9.2 a p0 y3.2) fun y12 =>
  some y12
set_option maxHeartbeats 4000000 in
set_option maxRecDepth 100000 in
theorem kX1_readFour (l : Launch) (D : va_G) (ct : CT) (ad : Nat → Nat) (Z : Nat → Nat) (G : GG) (M : DD) (sz : Nat) (a : Nat) (p0 : Int32) (y : DD) (hc : a < G.1) (hk : G.2.1 a = 1) (hF : FX1_readFour G M a p0 = some y) : Met l yX1_readFour wsX1_readFour ({ frames := 3, cells := 0, slots := 0, locals := 82 }) (va_Pc [.ref (ad a), .int p0] (kB D ct ad Z G M sz)) (va_Qv (fun (_ : Unit) => True) (fun _ t => kE D ct ad G (wA ad G sz) y t) (wA ad G sz)) 0 0 (wA ad G sz) := by
  refine Met.ofW (cc := cX1_readFour) (maxL := 7) (ret := none) (by decide) rfl ?_
  intro p e s m args below meth c s₁ B hml hv
  obtain ⟨rfl, hsz, hP, hK, hD0, hZ, hN⟩ := hv
  have hx := B.exec
  have hb := B.bytes
  have hr := B.returns
  have hts := atoms_spec (ws := wsX1_readFour) B.pre
  have hown : s.vm.findClass RX1 = some m.cls := findClass_of_methodNamed B.named
  have hlocks := B.notSynchronized
  subst hsz
  have hD := wD_self (sz := s.heap.size) hD0
  have hA9 : ∀ q, s.heap.size ≤ q → wA ad G s.heap.size q := fun q h => Or.inr h
  generalize hAe : wA ad G s.heap.size = A at hD hA9 hZ ⊢
  have hS : va_S A s.heap s.heap [] := va_S.rf
  have hl := lv_entry ([.ref (ad a), .int p0]) (n := 7) (Nat.le_of_ble_eq_true rfl)
  rw [lg_entry_eq]
  generalize (lg_sl ([.ref (ad a), .int p0]) ++ List.replicate (7 - (lg_sl ([.ref (ad a), .int p0])).length) Slot.unset).toArray = ls at hl ⊢
  have hl : lv_has ls 7 [(0, .ref (ad a)), (1, .int p0)] := hl
  unfold FX1_readFour at hF
  refine lv_aload_n hx hb dX1_readFour_0 rfl (lv_at hl 0 rfl) ?_
  refine va_get (D := D) (ci := 1) (v := va_re ad (M.2 a 2)) (C := RX1) (T := TX1) (N := 22) hx hb hts (by decide +kernel) hown hK hP a (wld_o ct ad G M hc hk (by decide)) rfl 2 (by decide) (hts (.fieldLink RX1 28 "VideoSuite$Decoder" "work" "LVideoSuite$Work;") (by decide +kernel)) (fun _ h9 => h9) rfl dX1_readFour_1 ?_
  refine lv_iload_n hx hb dX1_readFour_4 rfl (lv_at hl 1 rfl) ?_
  obtain ⟨b2, ho2, hc2, hk2, hF⟩ := dr_some hF
  refine W_st (st' := [.int p0, .ref (ad b2)]) (by rw [va_some ho2]) ?_
  obtain ⟨y3, hy3, hF⟩ := bnd_some hF
  have hf9 := wA_in hD hA9 hS
  refine va_calli (va_runV (As := [.int p0]) (rest := []) ⟨hx, hb, hml, hown, hts⟩ (kX9_sides l D ct ad Z G M s.heap.size b2 p0 y3 hc2 hk2 hy3) (cwV 1 hts gX1_readFour_X9_sides rfl rfl rfl (by decide +kernel) ⟨Nat.le_of_ble_eq_true rfl, Nat.le_of_ble_eq_true rfl⟩) ⟨fun a U g mk q => by obtain ⟨q0, q1, qP, qK, qD, qZ, qN⟩ := q; exact ⟨q0, q1, qP, va_K.moved (u := U) (U := U.calling g mk a) (Vm.Alike.refl U.vm) qK, qD, sF.moved (u := U) (U := U.calling g mk a) (Vm.Alike.refl U.vm) qZ, nF.same rfl qN⟩, va_recv hK hP (ci := 9) (q0 := b2) rfl (wld_o ct ad G M hc2 hk2 (by decide)), fun U hU hW => ⟨rfl, by rw [hU], by rw [hU]; exact hP, va_K.moved hW.alike hK, hD.weaken (fun _ _ _ _ => trivial), by rw [hU]; exact ((hZ.kept hS.2.1).narrow hf9).moved hW.alike, hN.warm hW⟩⟩ rfl rfl hl.1 rfl (lv_room (Nat.le_of_ble_eq_true rfl)) dX1_readFour_5 ⟨(Nat.zero_le _), (Nat.zero_le _)⟩) hS (fun q _ h => hf9 q h) hf9 (fun r u t H locs ht hvm hw hB hz1 hk1 hS => ?_)
  obtain ⟨hP, hK9, hD9⟩ := hB
  rw [ht] at hP
  try dsimp only at hw
  subst hw
  have hD := hD9.weaken (fun _ q _ h => hf9 q.1 h)
  refine lv_istore_n (lv' := [(2, .int y3.2), (0, .ref (ad a)), (1, .int p0)]) hx hb dX1_readFour_8 rfl hl (by decide) rfl (fun ls hl => ?_)
  refine lv_aload_n hx hb dX1_readFour_9 rfl (lv_at hl 1 rfl) ?_
  refine va_get (D := D) (ci := 1) (v := va_re ad (y3.1.2 a 2)) (C := RX1) (T := TX1) (N := 22) hx hb hts (by decide +kernel) hown hK hP a (wld_o ct ad G y3.1 hc hk (by decide)) rfl 2 (by decide) (hts (.fieldLink RX1 28 "VideoSuite$Decoder" "work" "LVideoSuite$Work;") (by decide +kernel)) (fun _ h9 => h9) rfl dX1_readFour_10 ?_
  obtain ⟨b4, ho4, hc4, hk4, hF⟩ := dr_some hF
  refine W_st (st' := [.ref (ad b4)]) (by rw [va_some ho4]) ?_
  refine va_get (D := D) (ci := 9) (v := va_re ad (y3.1.2 b4 6)) (C := RX9) (T := TX9) (N := 20) hx hb hts (by decide +kernel) hown hK hP b4 (wld_o ct ad G y3.1 hc4 hk4 (by decide)) rfl 6 (by decide) (hts (.fieldLink RX1 355 "VideoSuite$Work" "info" "[I") (by decide +kernel)) (fun _ h9 => h9) rfl dX1_readFour_13 ?_
  refine lv_bipush (v := (8 : Int32)) hx hb dX1_readFour_16 (by decide) ?_
  refine lv_iload_n hx hb dX1_readFour_18 rfl (lv_at hl 2 rfl) ?_
  refine lv_imul hx hb dX1_readFour_19 ?_
  obtain ⟨x5, ex5, hF⟩ := ltt_some hF
  refine lv_topi (fun zx5 ezx5 => ?_)
  obtain rfl : x5 = zx5 := ex5.trans ezx5.symm
  refine lv_iconst (v := (0 : Int32)) hx hb dX1_readFour_20 (by decide) ?_
  refine lv_iadd hx hb dX1_readFour_21 ?_
  obtain ⟨x6, ex6, hF⟩ := ltt_some hF
  refine lv_topi (fun zx6 ezx6 => ?_)
  obtain rfl : x6 = zx6 := ex6.trans ezx6.symm
  refine lv_iconst (v := (0 : Int32)) hx hb dX1_readFour_22 (by decide) ?_
  obtain ⟨b7, ho7, hc7, hk7, hF⟩ := dr_some hF
  refine W_st (st' := [.int (0 : Int32), .int x6, .ref (ad b7)]) (by rw [va_some ho7]) ?_
  obtain ⟨hvc, hF⟩ := chk_some hF
  refine va_iast hx hb hK hP hD hS b7 1 (wld_i ct ad G y3.1 hc7 hk7) rfl hvc dX1_readFour_23 (fun H locs hP hD hS => ?_)
  obtain ⟨M8, eM8, hF⟩ := ltt_some hF
  rw [set_i ct ad G y3.1 hc7 hk7, ← eM8] at hP hD
  refine lv_iconst (v := (0 : Int32)) hx hb dX1_readFour_24 (by decide) ?_
  refine lv_istore_n (lv' := [(3, .int (0 : Int32)), (2, .int y3.2), (0, .ref (ad a)), (1, .int p0)]) hx hb dX1_readFour_25 rfl hl (by decide) rfl (fun ls hl => ?_)
  obtain ⟨y9, hy9, hF⟩ := bnd_some hF
  have K9 : ∀ (H : Heap) (locs : List Loc) (ls : Array Slot), va_P D classes (wld ct ad G y9.2) H → va_D A (wld ct ad G y9.2) → va_S A s.heap H locs → lv_has ls 7 [(3, .int y9.1), (2, .int y3.2), (0, .ref (ad a)), (1, .int p0)] → W p l e (headSpec wsX1_readFour ({ frames := 3, cells := 0, slots := 0, locals := 82 })).room s m ([.ref (ad a), .int p0] : List Value).toArray below meth c H locs 0 0 (MQ below (va_Qv (fun (_ : Unit) => True) (fun _ t => kE D ct ad G A y t) A) ([.ref (ad a), .int p0] : List Value).toArray s 0 0 A) (F0 m 131 ls []) := by
    intro H locs ls hP hD hS hl
    refine lv_aload_n hx hb dX1_readFour_131 rfl (lv_at hl 2 rfl) ?_
    refine lv_iload_n hx hb dX1_readFour_132 rfl (lv_at hl 3 rfl) ?_
    refine lv_iload_n hx hb dX1_readFour_133 rfl (lv_at hl 1 rfl) ?_
    obtain ⟨y12, hy12, hF⟩ := bnd_some hF
    have hf9 := wA_in hD hA9 hS
    refine va_callv (va_runV (As := [.int p0, .int y3.2]) (rest := []) ⟨hx, hb, hml, hown, hts⟩ (kX1_readColours l D ct ad Z G y9.2 H.size a p0 y3.2 y12 hc hk hy12) (cwV 2 hts gX1_readFour_X1_readColours rfl rfl rfl (by decide +kernel) ⟨Nat.le_of_ble_eq_true rfl, Nat.le_of_ble_eq_true rfl⟩) ⟨fun a U g mk q => by obtain ⟨q0, q1, qP, qK, qD, qZ, qN⟩ := q; exact ⟨q0, q1, qP, va_K.moved (u := U) (U := U.calling g mk a) (Vm.Alike.refl U.vm) qK, qD, sF.moved (u := U) (U := U.calling g mk a) (Vm.Alike.refl U.vm) qZ, nF.same rfl qN⟩, va_recv hK hP (ci := 1) (q0 := a) rfl (wld_o ct ad G y9.2 hc hk (by decide)), fun U hU hW => ⟨rfl, by rw [hU], by rw [hU]; exact hP, va_K.moved hW.alike hK, hD.weaken (fun _ _ _ _ => trivial), by rw [hU]; exact ((hZ.kept hS.2.1).narrow hf9).moved hW.alike, hN.warm hW⟩⟩ rfl rfl hl.1 rfl (lv_room (Nat.le_of_ble_eq_true rfl)) dX1_readFour_134 ⟨(Nat.zero_le _), (Nat.zero_le _)⟩) hS (fun q _ h => hf9 q h) hf9 (fun u t H locs ht hvm hw hB hz1 hk1 hS => ?_)
    obtain ⟨hP, hK9, hD9⟩ := hB
    rw [ht] at hP
    have hD := hD9.weaken (fun _ q _ h => hf9 q.1 h)
    obtain rfl := Option.some.inj hF
    exact W.vret hx hb hr (fun t ht hW => ⟨⟨(), rfl, trivial, ⟨by rw [ht]; exact hP, va_K.moved hW.alike hK, hD⟩⟩, hS.F ht⟩) hS.2.2 dX1_readFour_137
  clear hF
  refine itr_rule (fun (s10 : Int32 × DD) => ∀ (H : Heap) (locs : List Loc) (ls : Array Slot), va_P D classes (wld ct ad G s10.2) H → va_D A (wld ct ad G s10.2) → va_S A s.heap H locs → lv_has ls 7 [(3, .int s10.1), (2, .int y3.2), (0, .ref (ad a)), (1, .int p0)] → W p l e (headSpec wsX1_readFour ({ frames := 3, cells := 0, slots := 0, locals := 82 })).room s m ([.ref (ad a), .int p0] : List Value).toArray below meth c H locs 0 0 (MQ below (va_Qv (fun (_ : Unit) => True) (fun _ t => kE D ct ad G A y t) A) ([.ref (ad a), .int p0] : List Value).toArray s 0 0 A) (F0 m 26 ls [])) ?_ _ _ hy9 _ _ _ hP hD hS (lv_sub hl [0, 1, 2, 3] rfl)
  rintro s10 ⟨z13, hF, hwz13⟩ H locs ls hP hD hS hl
  try dsimp only at hF
  refine lv_iload_n hx hb dX1_readFour_26 rfl (lv_at hl 0 rfl) ?_
  refine lv_bipush (v := (16 : Int32)) hx hb dX1_readFour_27 (by decide) ?_
  refine lv_icmp_ge (tgt := 131) hx hb dX1_readFour_29 (by decide) (fun c14 => ?_) (fun c14 => ?_)
  · rw [if_pos c14] at hF
    obtain rfl := Option.some.inj hF
    subst hwz13
    exact K9 _ _ _ hP hD hS (lv_sub hl [0, 1, 2, 3] rfl)
  · rw [if_neg c14] at hF
    refine lv_aload_n hx hb dX1_readFour_32 rfl (lv_at hl 2 rfl) ?_
    refine va_get (D := D) (ci := 1) (v := va_re ad (s10.2.2 a 2)) (C := RX1) (T := TX1) (N := 22) hx hb hts (by decide +kernel) hown hK hP a (wld_o ct ad G s10.2 hc hk (by decide)) rfl 2 (by decide) (hts (.fieldLink RX1 28 "VideoSuite$Decoder" "work" "LVideoSuite$Work;") (by decide +kernel)) (fun _ h9 => h9) rfl dX1_readFour_33 ?_
    refine lv_iload_n hx hb dX1_readFour_36 rfl (lv_at hl 3 rfl) ?_
    refine lv_iload_n hx hb dX1_readFour_37 rfl (lv_at hl 0 rfl) ?_
    obtain ⟨b15, ho15, hc15, hk15, hF⟩ := dr_some hF
    refine W_st (st' := [.int s10.1, .int p0, .ref (ad b15)]) (by rw [va_some ho15]) ?_
    obtain ⟨y16, hy16, hF⟩ := bnd_some hF
    have hf9 := wA_in hD hA9 hS
    refine va_calli (va_runV (As := [.int p0, .int s10.1]) (rest := []) ⟨hx, hb, hml, hown, hts⟩ (kX9_guessMode l D ct ad Z G s10.2 H.size b15 p0 s10.1 y16 hc15 hk15 hy16) (cwV 2 hts gX1_readFour_X9_guessMode rfl rfl rfl (by decide +kernel) ⟨Nat.le_of_ble_eq_true rfl, Nat.le_of_ble_eq_true rfl⟩) ⟨fun a U g mk q => by obtain ⟨q0, q1, qP, qK, qD, qZ, qN⟩ := q; exact ⟨q0, q1, qP, va_K.moved (u := U) (U := U.calling g mk a) (Vm.Alike.refl U.vm) qK, qD, sF.moved (u := U) (U := U.calling g mk a) (Vm.Alike.refl U.vm) qZ, nF.same rfl qN⟩, va_recv hK hP (ci := 9) (q0 := b15) rfl (wld_o ct ad G s10.2 hc15 hk15 (by decide)), fun U hU hW => ⟨rfl, by rw [hU], by rw [hU]; exact hP, va_K.moved hW.alike hK, hD.weaken (fun _ _ _ _ => trivial), by rw [hU]; exact ((hZ.kept hS.2.1).narrow hf9).moved hW.alike, hN.warm hW⟩⟩ rfl rfl hl.1 rfl (lv_room (Nat.le_of_ble_eq_true rfl)) dX1_readFour_38 ⟨(Nat.zero_le _), (Nat.zero_le _)⟩) hS (fun q _ h => hf9 q h) hf9 (fun r u t H locs ht hvm hw hB hz1 hk1 hS => ?_)
    obtain ⟨hP, hK9, hD9⟩ := hB
    rw [ht] at hP
    try dsimp only at hw
    subst hw
    have hD := hD9.weaken (fun _ q _ h => hf9 q.1 h)
    refine lv_istore (lv' := [(4, .int y16.2), (3, .int s10.1), (2, .int y3.2), (0, .ref (ad a)), (1, .int p0)]) hx hb dX1_readFour_41 hl (by decide) rfl (fun ls hl => ?_)
    refine lv_iload hx hb dX1_readFour_43 (lv_at hl 0 rfl) ?_
    refine lv_istore (lv' := [(5, .int y16.2), (4, .int y16.2), (3, .int s10.1), (2, .int y3.2), (0, .ref (ad a)), (1, .int p0)]) hx hb dX1_readFour_45 hl (by decide) rfl (fun ls hl => ?_)
    refine lv_aload_n hx hb dX1_readFour_47 rfl (lv_at hl 4 rfl) ?_
    refine va_get (D := D) (ci := 1) (v := va_re ad (y16.1.2 a 0)) (C := RX1) (T := TX1) (N := 22) hx hb hts (by decide +kernel) hown hK hP a (wld_o ct ad G y16.1 hc hk (by decide)) rfl 0 (by decide) (hts (.fieldLink RX1 12 "VideoSuite$Decoder" "reader" "LVideoSuite$Reader;") (by decide +kernel)) (fun _ h9 => h9) rfl dX1_readFour_48 ?_
    refine lv_iconst (v := (2 : Int32)) hx hb dX1_readFour_51 (by decide) ?_
    refine lv_iconst (v := (1 : Int32)) hx hb dX1_readFour_52 (by decide) ?_
    obtain ⟨b17, ho17, hc17, hk17, hF⟩ := dr_some hF
    refine W_st (st' := [.int (1 : Int32), .int (2 : Int32), .ref (ad b17)]) (by rw [va_some ho17]) ?_
    obtain ⟨y18, hy18, hF⟩ := bnd_some hF
    have hf9 := wA_in hD hA9 hS
    refine va_calli (va_runV (As := [.int (2 : Int32), .int (1 : Int32)]) (rest := []) ⟨hx, hb, hml, hown, hts⟩ (kX5_fixed l D ct ad Z G y16.1 H.size b17 ((2 : Int32)) ((1 : Int32)) y18 hc17 hk17 hy18) (cwV 2 hts gX1_readFour_X5_fixed rfl rfl rfl (by decide +kernel) ⟨Nat.le_of_ble_eq_true rfl, Nat.le_of_ble_eq_true rfl⟩) ⟨fun a U g mk q => by obtain ⟨q0, q1, qP, qK, qD, qZ, qN⟩ := q; exact ⟨q0, q1, qP, va_K.moved (u := U) (U := U.calling g mk a) (Vm.Alike.refl U.vm) qK, qD, sF.moved (u := U) (U := U.calling g mk a) (Vm.Alike.refl U.vm) qZ, nF.same rfl qN⟩, va_recv hK hP (ci := 5) (q0 := b17) rfl (wld_o ct ad G y16.1 hc17 hk17 (by decide)), fun U hU hW => ⟨rfl, by rw [hU], by rw [hU]; exact hP, va_K.moved hW.alike hK, hD.weaken (fun _ _ _ _ => trivial), by rw [hU]; exact ((hZ.kept hS.2.1).narrow hf9).moved hW.alike, hN.warm hW⟩⟩ rfl rfl hl.1 rfl (lv_room (Nat.le_of_ble_eq_true rfl)) dX1_readFour_53 ⟨(Nat.zero_le _), (Nat.zero_le _)⟩) hS (fun q _ h => hf9 q h) hf9 (fun r u t H locs ht hvm hw hB hz1 hk1 hS => ?_)
    obtain ⟨hP, hK9, hD9⟩ := hB
    rw [ht] at hP
    try dsimp only at hw
    subst hw
    have hD := hD9.weaken (fun _ q _ h => hf9 q.1 h)
    obtain ⟨y19, hy19, hF⟩ := bnd_some hF
    have J19 : ∀ (H : Heap) (locs : List Loc) (ls : Array Slot), va_P D classes (wld ct ad G y19.2) H → va_D A (wld ct ad G y19.2) → va_S A s.heap H locs → lv_has ls 7 [(5, .int y19.1), (4, .int y16.2), (3, .int s10.1), (2, .int y3.2), (0, .ref (ad a)), (1, .int p0)] → W p l e (headSpec wsX1_readFour ({ frames := 3, cells := 0, slots := 0, locals := 82 })).room s m ([.ref (ad a), .int p0] : List Value).toArray below meth c H locs 0 0 (MQ below (va_Qv (fun (_ : Unit) => True) (fun _ t => kE D ct ad G A y t) A) ([.ref (ad a), .int p0] : List Value).toArray s 0 0 A) (F0 m 88 ls []) := by
      intro H locs ls hP hD hS hl
      refine lv_iload hx hb dX1_readFour_88 (lv_at hl 0 rfl) ?_
      refine lv_iload_n hx hb dX1_readFour_90 rfl (lv_at hl 2 rfl) ?_
      refine lv_iload_n hx hb dX1_readFour_91 rfl (lv_at hl 3 rfl) ?_
      obtain ⟨y20, hy20, hF⟩ := bnd_some hF
      have hf9 := wA_in hD hA9 hS
      refine va_calli (va_runS (As := [.int s10.1, .int y3.2]) (rest := [.int y19.1]) ⟨hx, hb, hml, hown, hts⟩ (kX9_sidesOf l D ct ad Z G y19.2 H.size s10.1 y3.2 y20 hy20) (va_cwS 2 hts gX1_readFour_X9_sidesOf rfl rfl rfl (by decide +kernel) ⟨Nat.le_of_ble_eq_true rfl, Nat.le_of_ble_eq_true rfl⟩) ⟨fun a U g mk q => by obtain ⟨q0, q1, qP, qK, qD, qZ, qN⟩ := q; exact ⟨q0, q1, qP, va_K.moved (u := U) (U := U.calling g mk a) (Vm.Alike.refl U.vm) qK, qD, sF.moved (u := U) (U := U.calling g mk a) (Vm.Alike.refl U.vm) qZ, nF.same rfl qN⟩, fun U hU hW => ⟨rfl, by rw [hU], by rw [hU]; exact hP, va_K.moved hW.alike hK, hD.weaken (fun _ _ _ _ => trivial), by rw [hU]; exact ((hZ.kept hS.2.1).narrow hf9).moved hW.alike, hN.warm hW⟩⟩ rfl rfl hl.1 rfl (lv_room (Nat.le_of_ble_eq_true rfl)) dX1_readFour_92 ⟨(Nat.zero_le _), (Nat.zero_le _)⟩) hS (fun q _ h => hf9 q h) hf9 (fun r u t H locs ht hvm hw hB hz1 hk1 hS => ?_)
      obtain ⟨hP, hK9, hD9⟩ := hB
      rw [ht] at hP
      try dsimp only at hw
      subst hw
      have hD := hD9.weaken (fun _ q _ h => hf9 q.1 h)
      obtain ⟨y21, hy21, hF⟩ := bnd_some hF
      have hf9 := wA_in hD hA9 hS
      refine va_calli (va_runS (As := [.int y19.1, .int y20.2]) (rest := []) ⟨hx, hb, hml, hown, hts⟩ (kX9_mayBeFour l D ct ad Z G y20.1 H.size y19.1 y20.2 y21 hy21) (va_cwS 2 hts gX1_readFour_X9_mayBeFour rfl rfl rfl (by decide +kernel) ⟨Nat.le_of_ble_eq_true rfl, Nat.le_of_ble_eq_true rfl⟩) ⟨fun a U g mk q => by obtain ⟨q0, q1, qP, qK, qD, qZ, qN⟩ := q; exact ⟨q0, q1, qP, va_K.moved (u := U) (U := U.calling g mk a) (Vm.Alike.refl U.vm) qK, qD, sF.moved (u := U) (U := U.calling g mk a) (Vm.Alike.refl U.vm) qZ, nF.same rfl qN⟩, fun U hU hW => ⟨rfl, by rw [hU], by rw [hU]; exact hP, va_K.moved hW.alike hK, hD.weaken (fun _ _ _ _ => trivial), by rw [hU]; exact ((hZ.kept hS.2.1).narrow hf9).moved hW.alike, hN.warm hW⟩⟩ rfl rfl hl.1 rfl (lv_room (Nat.le_of_ble_eq_true rfl)) dX1_readFour_95 ⟨(Nat.zero_le _), (Nat.zero_le _)⟩) hS (fun q _ h => hf9 q h) hf9 (fun r u t H locs ht hvm hw hB hz1 hk1 hS => ?_)
      obtain ⟨hP, hK9, hD9⟩ := hB
      rw [ht] at hP
      try dsimp only at hw
      subst hw
      have hD := hD9.weaken (fun _ q _ h => hf9 q.1 h)
      obtain ⟨y22, hy22, hF⟩ := bnd_some hF
      have J22 : ∀ (H : Heap) (locs : List Loc) (ls : Array Slot), va_P D classes (wld ct ad G y22) H → va_D A (wld ct ad G y22) → va_S A s.heap H locs → lv_has ls 7 [(5, .int y19.1), (4, .int y16.2), (3, .int s10.1), (2, .int y3.2), (0, .ref (ad a)), (1, .int p0)] → W p l e (headSpec wsX1_readFour ({ frames := 3, cells := 0, slots := 0, locals := 82 })).room s m ([.ref (ad a), .int p0] : List Value).toArray below meth c H locs 0 0 (MQ below (va_Qv (fun (_ : Unit) => True) (fun _ t => kE D ct ad G A y t) A) ([.ref (ad a), .int p0] : List Value).toArray s 0 0 A) (F0 m 109 ls []) := by
        intro H locs ls hP hD hS hl
        refine lv_aload_n hx hb dX1_readFour_109 rfl (lv_at hl 4 rfl) ?_
        refine va_get (D := D) (ci := 1) (v := va_re ad (y22.2 a 2)) (C := RX1) (T := TX1) (N := 22) hx hb hts (by decide +kernel) hown hK hP a (wld_o ct ad G y22 hc hk (by decide)) rfl 2 (by decide) (hts (.fieldLink RX1 28 "VideoSuite$Decoder" "work" "LVideoSuite$Work;") (by decide +kernel)) (fun _ h9 => h9) rfl dX1_readFour_110 ?_
        obtain ⟨b23, ho23, hc23, hk23, hF⟩ := dr_some hF
        refine W_st (st' := [.ref (ad b23)]) (by rw [va_some ho23]) ?_
        refine va_get (D := D) (ci := 9) (v := va_re ad (y22.2 b23 7)) (C := RX9) (T := TX9) (N := 20) hx hb hts (by decide +kernel) hown hK hP b23 (wld_o ct ad G y22 hc23 hk23 (by decide)) rfl 7 (by decide) (hts (.fieldLink RX1 422 "VideoSuite$Work" "mode" "[I") (by decide +kernel)) (fun _ h9 => h9) rfl dX1_readFour_113 ?_
        refine lv_bipush (v := (16 : Int32)) hx hb dX1_readFour_116 (by decide) ?_
        refine lv_iload_n hx hb dX1_readFour_118 rfl (lv_at hl 5 rfl) ?_
        refine lv_imul hx hb dX1_readFour_119 ?_
        obtain ⟨x24, ex24, hF⟩ := ltt_some hF
        refine lv_topi (fun zx24 ezx24 => ?_)
        obtain rfl : x24 = zx24 := ex24.trans ezx24.symm
        refine lv_iload_n hx hb dX1_readFour_120 rfl (lv_at hl 2 rfl) ?_
        refine lv_iadd hx hb dX1_readFour_121 ?_
        obtain ⟨x25, ex25, hF⟩ := ltt_some hF
        refine lv_topi (fun zx25 ezx25 => ?_)
        obtain rfl : x25 = zx25 := ex25.trans ezx25.symm
        refine lv_iload hx hb dX1_readFour_122 (lv_at hl 0 rfl) ?_
        obtain ⟨b26, ho26, hc26, hk26, hF⟩ := dr_some hF
        refine W_st (st' := [.int y19.1, .int x25, .ref (ad b26)]) (by rw [va_some ho26]) ?_
        obtain ⟨hvc, hF⟩ := chk_some hF
        refine va_iast hx hb hK hP hD hS b26 1 (wld_i ct ad G y22 hc26 hk26) rfl hvc dX1_readFour_124 (fun H locs hP hD hS => ?_)
        obtain ⟨M27, eM27, hF⟩ := ltt_some hF
        rw [set_i ct ad G y22 hc26 hk26, ← eM27] at hP hD
        obtain ⟨x28, ex28, hF⟩ := ltt_some hF
        refine lv_iinc (v := x28) (lv' := [(3, .int x28), (5, .int y19.1), (4, .int y16.2), (2, .int y3.2), (0, .ref (ad a)), (1, .int p0)]) hx hb dX1_readFour_125 hl (k := 2) rfl (by rw [ex28]; rfl) (by decide) rfl (fun ls hl => ?_)
        refine lv_goto (tgt := 26) hx hb dX1_readFour_128 (by decide) ?_
        obtain rfl := Option.some.inj hF
        exact hwz13 _ _ _ hP hD hS (lv_sub hl [0, 3, 4, 5] rfl)
      clear hF
      have hF := hy22
      clear hy22
      refine lv_if_ne (tgt := 109) hx hb dX1_readFour_98 (by decide) (fun c29 => ?_) (fun c29 => ?_)
      · rw [if_neg c29] at hF
        obtain rfl := Option.some.inj hF
        exact J22 _ _ _ hP hD hS (lv_sub hl [0, 1, 2, 3, 4, 5] rfl)
      · rw [if_pos c29] at hF
        refine lv_aload_n hx hb dX1_readFour_101 rfl (lv_at hl 4 rfl) ?_
        refine va_get (D := D) (ci := 1) (v := va_re ad (y21.1.2 a 0)) (C := RX1) (T := TX1) (N := 22) hx hb hts (by decide +kernel) hown hK hP a (wld_o ct ad G y21.1 hc hk (by decide)) rfl 0 (by decide) (hts (.fieldLink RX1 12 "VideoSuite$Decoder" "reader" "LVideoSuite$Reader;") (by decide +kernel)) (fun _ h9 => h9) rfl dX1_readFour_102 ?_
        refine lv_iconst (v := (4 : Int32)) hx hb dX1_readFour_105 (by decide) ?_
        cases hF
    clear hF
    have hF := hy19
    clear hy19
    refine lv_if_ne (tgt := 88) hx hb dX1_readFour_56 (by decide) (fun c30 => ?_) (fun c30 => ?_)
    · rw [if_neg c30] at hF
      obtain rfl := Option.some.inj hF
      exact J19 _ _ _ hP hD hS (lv_sub hl [0, 1, 2, 3, 4, 5] rfl)
    · rw [if_pos c30] at hF
      refine lv_aload_n hx hb dX1_readFour_59 rfl (lv_at hl 4 rfl) ?_
      refine va_get (D := D) (ci := 1) (v := va_re ad (y18.1.2 a 0)) (C := RX1) (T := TX1) (N := 22) hx hb hts (by decide +kernel) hown hK hP a (wld_o ct ad G y18.1 hc hk (by decide)) rfl 0 (by decide) (hts (.fieldLink RX1 12 "VideoSuite$Decoder" "reader" "LVideoSuite$Reader;") (by decide +kernel)) (fun _ h9 => h9) rfl dX1_readFour_60 ?_
      refine lv_iconst (v := (3 : Int32)) hx hb dX1_readFour_63 (by decide) ?_
      refine lv_iconst (v := (3 : Int32)) hx hb dX1_readFour_64 (by decide) ?_
      obtain ⟨b31, ho31, hc31, hk31, hF⟩ := dr_some hF
      refine W_st (st' := [.int (3 : Int32), .int (3 : Int32), .ref (ad b31)]) (by rw [va_some ho31]) ?_
      obtain ⟨y32, hy32, hF⟩ := bnd_some hF
      have hf9 := wA_in hD hA9 hS
      refine va_calli (va_runV (As := [.int (3 : Int32), .int (3 : Int32)]) (rest := []) ⟨hx, hb, hml, hown, hts⟩ (kX5_fixed l D ct ad Z G y18.1 H.size b31 ((3 : Int32)) ((3 : Int32)) y32 hc31 hk31 hy32) (cwV 2 hts gX1_readFour_X5_fixed rfl rfl rfl (by decide +kernel) ⟨Nat.le_of_ble_eq_true rfl, Nat.le_of_ble_eq_true rfl⟩) ⟨fun a U g mk q => by obtain ⟨q0, q1, qP, qK, qD, qZ, qN⟩ := q; exact ⟨q0, q1, qP, va_K.moved (u := U) (U := U.calling g mk a) (Vm.Alike.refl U.vm) qK, qD, sF.moved (u := U) (U := U.calling g mk a) (Vm.Alike.refl U.vm) qZ, nF.same rfl qN⟩, va_recv hK hP (ci := 5) (q0 := b31) rfl (wld_o ct ad G y18.1 hc31 hk31 (by decide)), fun U hU hW => ⟨rfl, by rw [hU], by rw [hU]; exact hP, va_K.moved hW.alike hK, hD.weaken (fun _ _ _ _ => trivial), by rw [hU]; exact ((hZ.kept hS.2.1).narrow hf9).moved hW.alike, hN.warm hW⟩⟩ rfl rfl hl.1 rfl (lv_room (Nat.le_of_ble_eq_true rfl)) dX1_readFour_65 ⟨(Nat.zero_le _), (Nat.zero_le _)⟩) hS (fun q _ h => hf9 q h) hf9 (fun r u t H locs ht hvm hw hB hz1 hk1 hS => ?_)
      obtain ⟨hP, hK9, hD9⟩ := hB
      rw [ht] at hP
      try dsimp only at hw
      subst hw
      have hD := hD9.weaken (fun _ q _ h => hf9 q.1 h)
      refine lv_istore (lv' := [(6, .int y32.2), (5, .int y16.2), (4, .int y16.2), (3, .int s10.1), (2, .int y3.2), (0, .ref (ad a)), (1, .int p0)]) hx hb dX1_readFour_68 hl (by decide) rfl (fun ls hl => ?_)
      refine lv_iload hx hb dX1_readFour_70 (lv_at hl 0 rfl) ?_
      refine lv_iload hx hb dX1_readFour_72 (lv_at hl 2 rfl) ?_
      obtain ⟨y33, hy33, hF⟩ := bnd_some hF
      have J33 : ∀ (H : Heap) (locs : List Loc) (ls : Array Slot), va_P D classes (wld ct ad G y32.1) H → va_D A (wld ct ad G y32.1) → va_S A s.heap H locs → lv_has ls 7 [(6, .int y32.2), (5, .int y16.2), (4, .int y16.2), (3, .int s10.1), (2, .int y3.2), (0, .ref (ad a)), (1, .int p0)] → W p l e (headSpec wsX1_readFour ({ frames := 3, cells := 0, slots := 0, locals := 82 })).room s m ([.ref (ad a), .int p0] : List Value).toArray below meth c H locs 0 0 (MQ below (va_Qv (fun (_ : Unit) => True) (fun _ t => kE D ct ad G A y t) A) ([.ref (ad a), .int p0] : List Value).toArray s 0 0 A) (F0 m 86 ls [.int y33]) := by
        intro H locs ls hP hD hS hl
        refine lv_istore (lv' := [(5, .int y33), (6, .int y32.2), (4, .int y16.2), (3, .int s10.1), (2, .int y3.2), (0, .ref (ad a)), (1, .int p0)]) hx hb dX1_readFour_86 hl (by decide) rfl (fun ls hl => ?_)
        obtain rfl := Option.some.inj hF
        exact J19 _ _ _ hP hD hS (lv_sub hl [0, 2, 3, 4, 5, 6] rfl)
      clear hF
      have hF := hy33
      clear hy33
      refine lv_icmp_ge (tgt := 82) hx hb dX1_readFour_74 (by decide) (fun c34 => ?_) (fun c34 => ?_)
      · rw [if_pos c34] at hF
        refine lv_iload hx hb dX1_readFour_82 (lv_at hl 0 rfl) ?_
        refine lv_iconst (v := (1 : Int32)) hx hb dX1_readFour_84 (by decide) ?_
        refine lv_iadd hx hb dX1_readFour_85 ?_
        obtain ⟨x35, ex35, hF⟩ := ltt_some hF
        refine lv_topi (fun zx35 ezx35 => ?_)
        obtain rfl : x35 = zx35 := ex35.trans ezx35.symm
        obtain rfl := Option.some.inj hF
        exact J33 _ _ _ hP hD hS (lv_sub hl [0, 1, 2, 3, 4, 5, 6] rfl)
      · rw [if_neg c34] at hF
        refine lv_iload hx hb dX1_readFour_77 (lv_at hl 0 rfl) ?_
        refine lv_goto (tgt := 86) hx hb dX1_readFour_79 (by decide) ?_
        obtain rfl := Option.some.inj hF
        exact J33 _ _ _ hP hD hS (lv_sub hl [0, 1, 2, 3, 4, 5, 6] rfl)
theorem ggX1_readPattern_X5_number : GoodIn wsX1_readPattern wsX5_number := goodIn_ca (goodIn_r _ [24, 25, 26, 27, 28, 29, 30, 23, 31, 32, 33, 34, 35, 36, 37, 38, 39, 40, 41, 42, 43, 44, 45, 46, 47, 48, 49, 50, 51, 52, 53, 54, 55, 102, 103, 104, 105, 106, 107, 108, 109, 110, 111, 112, 113, 114, 115, 116, 117, 118] (by decide +kernel) (by decide +kernel)) (goodIn_sub (fun _ h => List.mem_cons_of_mem _ (List.mem_append_right _ h)) (by decide +kernel))
set_option maxRecDepth 20000 in
theorem gX1_readPattern_X5_number : GoodIn wsX1_readPattern (wsV RX1 179 RX5 yX5_number wsX5_number) := goodIn_app (goodIn_of _ (by decide +kernel)) ggX1_readPattern_X5_number
theorem ggX1_readPattern_J7_fill_fda19 : GoodIn wsX1_readPattern wsJ7_fill_fda19 := goodIn_r _ [13, 14, 15, 12, 16, 17, 18, 19, 98, 99, 100, 101] (by decide +kernel) (by decide +kernel)
set_option maxRecDepth 20000 in
theorem gX1_readPattern_J7_fill_fda19 : GoodIn wsX1_readPattern (va_wsS RX1 425 yJ7_fill_fda19 wsJ7_fill_fda19) := goodIn_app (goodIn_of _ (by decide +kernel)) ggX1_readPattern_J7_fill_fda19
set_option maxRecDepth 20000 in
theorem dX1_readPattern_0 : decode cX1_readPattern 0 = .ok (.bipush 8, 2) := by decide +kernel
theorem dX1_readPattern_2 : decode cX1_readPattern 2 = .ok (.iload_n 1, 1) := by decide +kernel
theorem dX1_readPattern_3 : decode cX1_readPattern 3 = .ok (.imul, 1) := by decide +kernel
theorem dX1_readPattern_4 : decode cX1_readPattern 4 = .ok (.istore_n 2, 1) := by decide +kernel
theorem dX1_readPattern_5 : decode cX1_readPattern 5 = .ok (.aload_n 0, 1) := by decide +kernel
theorem dX1_readPattern_6 : decode cX1_readPattern 6 = .ok (.getfield 28, 3) := by decide +kernel
theorem dX1_readPattern_9 : decode cX1_readPattern 9 = .ok (.getfield 355, 3) := by decide +kernel
theorem dX1_readPattern_12 : decode cX1_readPattern 12 = .ok (.iload_n 2, 1) := by decide +kernel
theorem dX1_readPattern_13 : decode cX1_readPattern 13 = .ok (.iconst 0, 1) := by decide +kernel
theorem dX1_readPattern_14 : decode cX1_readPattern 14 = .ok (.iadd, 1) := by decide +kernel
theorem dX1_readPattern_15 : decode cX1_readPattern 15 = .ok (.iaload, 1) := by decide +kernel
theorem dX1_readPattern_16 : decode cX1_readPattern 16 = .ok (.istore_n 3, 1) := by decide +kernel
theorem dX1_readPattern_17 : decode cX1_readPattern 17 = .ok (.iload_n 3, 1) := by decide +kernel
theorem dX1_readPattern_18 : decode cX1_readPattern 18 = .ok (.iconst 2, 1) := by decide +kernel
theorem dX1_readPattern_19 : decode cX1_readPattern 19 = .ok (.if_icmp .ne 27, 3) := by decide +kernel
theorem dX1_readPattern_22 : decode cX1_readPattern 22 = .ok (.aload_n 0, 1) := by decide +kernel
theorem dX1_readPattern_23 : decode cX1_readPattern 23 = .ok (.getfield 28, 3) := by decide +kernel
theorem dX1_readPattern_26 : decode cX1_readPattern 26 = .ok (.getfield 476, 3) := by decide +kernel
theorem dX1_readPattern_29 : decode cX1_readPattern 29 = .ok (.bipush 24, 2) := by decide +kernel
theorem dX1_readPattern_31 : decode cX1_readPattern 31 = .ok (.iload_n 1, 1) := by decide +kernel
theorem dX1_readPattern_32 : decode cX1_readPattern 32 = .ok (.imul, 1) := by decide +kernel
theorem dX1_readPattern_33 : decode cX1_readPattern 33 = .ok (.bipush 24, 2) := by decide +kernel
theorem dX1_readPattern_35 : decode cX1_readPattern 35 = .ok (.iload_n 1, 1) := by decide +kernel
theorem dX1_readPattern_36 : decode cX1_readPattern 36 = .ok (.imul, 1) := by decide +kernel
theorem dX1_readPattern_37 : decode cX1_readPattern 37 = .ok (.bipush 24, 2) := by decide +kernel
theorem dX1_readPattern_39 : decode cX1_readPattern 39 = .ok (.iadd, 1) := by decide +kernel
theorem dX1_readPattern_40 : decode cX1_readPattern 40 = .ok (.bipush 16, 2) := by decide +kernel
theorem dX1_readPattern_42 : decode cX1_readPattern 42 = .ok (.invokestatic 425, 3) := by decide +kernel
theorem dX1_readPattern_45 : decode cX1_readPattern 45 = .ok (.return_, 1) := by decide +kernel
theorem dX1_readPattern_46 : decode cX1_readPattern 46 = .ok (.iload_n 3, 1) := by decide +kernel
theorem dX1_readPattern_47 : decode cX1_readPattern 47 = .ok (.iconst 1, 1) := by decide +kernel
theorem dX1_readPattern_48 : decode cX1_readPattern 48 = .ok (.if_icmp .eq 71, 3) := by decide +kernel
theorem dX1_readPattern_51 : decode cX1_readPattern 51 = .ok (.aload_n 0, 1) := by decide +kernel
theorem dX1_readPattern_52 : decode cX1_readPattern 52 = .ok (.getfield 12, 3) := by decide +kernel
theorem dX1_readPattern_55 : decode cX1_readPattern 55 = .ok (.bipush 9, 2) := by decide +kernel
theorem dX1_readPattern_57 : decode cX1_readPattern 57 = .ok (.iconst 0, 1) := by decide +kernel
theorem dX1_readPattern_58 : decode cX1_readPattern 58 = .ok (.lconst 0, 1) := by decide +kernel
theorem dX1_readPattern_59 : decode cX1_readPattern 59 = .ok (.ldc2_w 479, 3) := by decide +kernel
theorem dX1_readPattern_62 : decode cX1_readPattern 62 = .ok (.invokevirtual 179, 3) := by decide +kernel
theorem dX1_readPattern_65 : decode cX1_readPattern 65 = .ok (.istore 4, 2) := by decide +kernel
theorem dX1_readPattern_67 : decode cX1_readPattern 67 = .ok (.getstatic 481, 3) := by decide +kernel
theorem dX1_readPattern_70 : decode cX1_readPattern 70 = .ok (.iload_n 3, 1) := by decide +kernel
theorem dX1_readPattern_71 : decode cX1_readPattern 71 = .ok (.ifCond .ne 8, 3) := by decide +kernel
theorem dX1_readPattern_74 : decode cX1_readPattern 74 = .ok (.iload 4, 2) := by decide +kernel
theorem dX1_readPattern_76 : decode cX1_readPattern 76 = .ok (.goto 8, 3) := by decide +kernel
theorem dX1_readPattern_79 : decode cX1_readPattern 79 = .ok (.bipush 48, 2) := by decide +kernel
theorem dX1_readPattern_81 : decode cX1_readPattern 81 = .ok (.iload 4, 2) := by decide +kernel
theorem dX1_readPattern_83 : decode cX1_readPattern 83 = .ok (.iadd, 1) := by decide +kernel
theorem dX1_readPattern_84 : decode cX1_readPattern 84 = .ok (.iaload, 1) := by decide +kernel
theorem dX1_readPattern_85 : decode cX1_readPattern 85 = .ok (.istore 5, 2) := by decide +kernel
theorem dX1_readPattern_87 : decode cX1_readPattern 87 = .ok (.aload_n 0, 1) := by decide +kernel
theorem dX1_readPattern_88 : decode cX1_readPattern 88 = .ok (.getfield 28, 3) := by decide +kernel
theorem dX1_readPattern_91 : decode cX1_readPattern 91 = .ok (.getfield 355, 3) := by decide +kernel
theorem dX1_readPattern_94 : decode cX1_readPattern 94 = .ok (.iload_n 2, 1) := by decide +kernel
theorem dX1_readPattern_95 : decode cX1_readPattern 95 = .ok (.iconst 3, 1) := by decide +kernel
theorem dX1_readPattern_96 : decode cX1_readPattern 96 = .ok (.iadd, 1) := by decide +kernel
theorem dX1_readPattern_97 : decode cX1_readPattern 97 = .ok (.iload 5, 2) := by decide +kernel
theorem dX1_readPattern_99 : decode cX1_readPattern 99 = .ok (.bipush 15, 2) := by decide +kernel
theorem dX1_readPattern_101 : decode cX1_readPattern 101 = .ok (.iand, 1) := by decide +kernel
theorem dX1_readPattern_102 : decode cX1_readPattern 102 = .ok (.iastore, 1) := by decide +kernel
theorem dX1_readPattern_103 : decode cX1_readPattern 103 = .ok (.aload_n 0, 1) := by decide +kernel
theorem dX1_readPattern_104 : decode cX1_readPattern 104 = .ok (.getfield 28, 3) := by decide +kernel
theorem dX1_readPattern_107 : decode cX1_readPattern 107 = .ok (.getfield 355, 3) := by decide +kernel
theorem dX1_readPattern_110 : decode cX1_readPattern 110 = .ok (.iload_n 2, 1) := by decide +kernel
theorem dX1_readPattern_111 : decode cX1_readPattern 111 = .ok (.iconst 4, 1) := by decide +kernel
theorem dX1_readPattern_112 : decode cX1_readPattern 112 = .ok (.iadd, 1) := by decide +kernel
theorem dX1_readPattern_113 : decode cX1_readPattern 113 = .ok (.iload 5, 2) := by decide +kernel
theorem dX1_readPattern_115 : decode cX1_readPattern 115 = .ok (.bipush 16, 2) := by decide +kernel
theorem dX1_readPattern_117 : decode cX1_readPattern 117 = .ok (.idiv, 1) := by decide +kernel
theorem dX1_readPattern_118 : decode cX1_readPattern 118 = .ok (.iastore, 1) := by decide +kernel
theorem dX1_readPattern_119 : decode cX1_readPattern 119 = .ok (.iload_n 3, 1) := by decide +kernel
theorem dX1_readPattern_120 : decode cX1_readPattern 120 = .ok (.iconst 1, 1) := by decide +kernel
theorem dX1_readPattern_121 : decode cX1_readPattern 121 = .ok (.if_icmp .eq 29, 3) := by decide +kernel
theorem dX1_readPattern_124 : decode cX1_readPattern 124 = .ok (.aload_n 0, 1) := by decide +kernel
theorem dX1_readPattern_125 : decode cX1_readPattern 125 = .ok (.getfield 28, 3) := by decide +kernel
theorem dX1_readPattern_128 : decode cX1_readPattern 128 = .ok (.getfield 355, 3) := by decide +kernel
theorem dX1_readPattern_131 : decode cX1_readPattern 131 = .ok (.iload_n 2, 1) := by decide +kernel
theorem dX1_readPattern_132 : decode cX1_readPattern 132 = .ok (.iconst 3, 1) := by decide +kernel
theorem dX1_readPattern_133 : decode cX1_readPattern 133 = .ok (.iadd, 1) := by decide +kernel
theorem dX1_readPattern_134 : decode cX1_readPattern 134 = .ok (.iaload, 1) := by decide +kernel
theorem dX1_readPattern_135 : decode cX1_readPattern 135 = .ok (.aload_n 0, 1) := by decide +kernel
theorem dX1_readPattern_136 : decode cX1_readPattern 136 = .ok (.getfield 28, 3) := by decide +kernel
theorem dX1_readPattern_139 : decode cX1_readPattern 139 = .ok (.getfield 355, 3) := by decide +kernel
theorem dX1_readPattern_142 : decode cX1_readPattern 142 = .ok (.iload_n 2, 1) := by decide +kernel
theorem dX1_readPattern_143 : decode cX1_readPattern 143 = .ok (.iconst 4, 1) := by decide +kernel
theorem dX1_readPattern_144 : decode cX1_readPattern 144 = .ok (.iadd, 1) := by decide +kernel
theorem dX1_readPattern_145 : decode cX1_readPattern 145 = .ok (.iaload, 1) := by decide +kernel
theorem dX1_readPattern_146 : decode cX1_readPattern 146 = .ok (.iadd, 1) := by decide +kernel
theorem dX1_readPattern_147 : decode cX1_readPattern 147 = .ok (.ifCond .le 34, 3) := by decide +kernel
theorem dX1_readPattern_150 : decode cX1_readPattern 150 = .ok (.aload_n 0, 1) := by decide +kernel
theorem dX1_readPattern_151 : decode cX1_readPattern 151 = .ok (.aload_n 0, 1) := by decide +kernel
theorem dX1_readPattern_152 : decode cX1_readPattern 152 = .ok (.getfield 328, 3) := by decide +kernel
theorem dX1_readPattern_155 : decode cX1_readPattern 155 = .ok (.aload_n 0, 1) := by decide +kernel
theorem dX1_readPattern_156 : decode cX1_readPattern 156 = .ok (.getfield 12, 3) := by decide +kernel
theorem dX1_readPattern_159 : decode cX1_readPattern 159 = .ok (.bipush 10, 2) := by decide +kernel
theorem dX1_readPattern_161 : decode cX1_readPattern 161 = .ok (.iconst 1, 1) := by decide +kernel
theorem dX1_readPattern_162 : decode cX1_readPattern 162 = .ok (.ldc2_w 484, 3) := by decide +kernel
theorem dX1_readPattern_165 : decode cX1_readPattern 165 = .ok (.ldc2_w 486, 3) := by decide +kernel
theorem dX1_readPattern_168 : decode cX1_readPattern 168 = .ok (.invokevirtual 179, 3) := by decide +kernel
theorem dX1_readPattern_171 : decode cX1_readPattern 171 = .ok (.iadd, 1) := by decide +kernel
theorem dX1_readPattern_172 : decode cX1_readPattern 172 = .ok (.bipush 52, 2) := by decide +kernel
theorem dX1_readPattern_174 : decode cX1_readPattern 174 = .ok (.iadd, 1) := by decide +kernel
theorem dX1_readPattern_175 : decode cX1_readPattern 175 = .ok (.bipush 52, 2) := by decide +kernel
theorem dX1_readPattern_177 : decode cX1_readPattern 177 = .ok (.irem, 1) := by decide +kernel
theorem dX1_readPattern_178 : decode cX1_readPattern 178 = .ok (.putfield 328, 3) := by decide +kernel
theorem dX1_readPattern_181 : decode cX1_readPattern 181 = .ok (.aload_n 0, 1) := by decide +kernel
theorem dX1_readPattern_182 : decode cX1_readPattern 182 = .ok (.getfield 28, 3) := by decide +kernel
theorem dX1_readPattern_185 : decode cX1_readPattern 185 = .ok (.getfield 355, 3) := by decide +kernel
theorem dX1_readPattern_188 : decode cX1_readPattern 188 = .ok (.iload_n 2, 1) := by decide +kernel
theorem dX1_readPattern_189 : decode cX1_readPattern 189 = .ok (.iconst 2, 1) := by decide +kernel
theorem dX1_readPattern_190 : decode cX1_readPattern 190 = .ok (.iadd, 1) := by decide +kernel
theorem dX1_readPattern_191 : decode cX1_readPattern 191 = .ok (.aload_n 0, 1) := by decide +kernel
theorem dX1_readPattern_192 : decode cX1_readPattern 192 = .ok (.getfield 328, 3) := by decide +kernel
theorem dX1_readPattern_195 : decode cX1_readPattern 195 = .ok (.iastore, 1) := by decide +kernel
theorem dX1_readPattern_196 : decode cX1_readPattern 196 = .ok (.return_, 1) := by decide +kernel
def FX1_readPattern (G : GG) (M : DD) (a : Nat) (p0 : Int32) : Option (DD) :=
  ltt ((((8 : Int32)) * p0)) fun x1 =>
  dr G 9 ((M.2 a 2)) fun b2 =>
  ltt ((x1 + ((0 : Int32)))) fun x3 =>
  dr G 13 ((M.2 b2 6)) fun b4 =>
  chk (¬ (x3 < 0 ∨ G.2.2 b4 ≤ x3.toNatClampNeg)) <|
  ltt (M.1 b4 x3.toNatClampNeg) fun x5 =>
  if x5 = ((2 : Int32)) then (ltt ((((24 : Int32)) * p0)) fun x55 =>
  ltt ((((24 : Int32)) * p0)) fun x56 =>
  ltt ((x56 + ((24 : Int32)))) fun x57 =>
  bnd (FJ7_fill_fda19 G M ((M.2 b2 8)) x55 x57 ((16 : Int32))) fun y58 =>
  some y58) else
  (bnd (if x5 = ((1 : Int32)) then (some (M)) else
  (dr G 5 ((M.2 a 0)) fun b39 =>
  bnd (FX5_number G M b39 ((9 : Int32)) ((0 : Int32)) ((0 : Int64)) ((47 : Int64))) fun y40 =>
  bnd (if x5 = ((0 : Int32)) then (some (y40.2)) else
  (ltt ((((48 : Int32)) + y40.2)) fun x54 =>
  some (x54))) fun (y41 : Int32) =>
  chk (¬ (y41 < 0 ∨ 96 ≤ y41.toNatClampNeg)) <|
  ltt ((sT 9).getD y41.toNatClampNeg 0) fun x42 =>
  dr G 9 ((y40.1.2 a 2)) fun b43 =>
  ltt ((x1 + ((3 : Int32)))) fun x44 =>
  ltt ((x42 &&& ((15 : Int32)))) fun x45 =>
  dr G 13 ((y40.1.2 b43 6)) fun b46 =>
  chk (¬ (x44 < 0 ∨ G.2.2 b46 ≤ x44.toNatClampNeg)) <|
  ltt (uI y40.1 b46 x44.toNatClampNeg x45) fun M47 =>
  dr G 9 ((M47.2 a 2)) fun b48 =>
  ltt ((x1 + ((4 : Int32)))) fun x49 =>
  ltt (x42 / ((16 : Int32))) fun x50 =>
  dr G 13 ((M47.2 b48 6)) fun b51 =>
  chk (¬ (x49 < 0 ∨ G.2.2 b51 ≤ x49.toNatClampNeg)) <|
  ltt (uI M47 b51 x49.toNatClampNeg x50) fun M52 =>
  some (M52))) fun (y7 : DD) =>
  bnd (if x5 = ((1 : Int32)) then (ltt (y7.1 a 20) fun x15 =>
  dr G 5 ((y7.2 a 0)) fun b16 =>
  bnd (FX5_number G y7 b16 ((10 : Int32)) ((1 : Int32)) ((-26 : Int64)) ((25 : Int64))) fun y17 =>
  ltt ((x15 + y17.2)) fun x18 =>
  ltt ((x18 + ((52 : Int32)))) fun x19 =>
  ltt (x19 - x19 / ((52 : Int32)) * ((52 : Int32))) fun x20 =>
  ltt (uI y17.1 a 20 x20) fun M21 =>
  some (M21)) else
  (dr G 9 ((y7.2 a 2)) fun b22 =>
  ltt ((x1 + ((3 : Int32)))) fun x23 =>
  dr G 13 ((y7.2 b22 6)) fun b24 =>
  chk (¬ (x23 < 0 ∨ G.2.2 b24 ≤ x23.toNatClampNeg)) <|
  ltt (y7.1 b24 x23.toNatClampNeg) fun x25 =>
  ltt ((x1 + ((4 : Int32)))) fun x26 =>
  chk (¬ (x26 < 0 ∨ G.2.2 b24 ≤ x26.toNatClampNeg)) <|
  ltt (y7.1 b24 x26.toNatClampNeg) fun x27 =>
  ltt ((x25 + x27)) fun x28 =>
  bnd (if x28 ≤ ((0 : Int32)) then (some (y7)) else
  (ltt (y7.1 a 20) fun x31 =>
  dr G 5 ((y7.2 a 0)) fun b32 =>
  bnd (FX5_number G y7 b32 ((10 : Int32)) ((1 : Int32)) ((-26 : Int64)) ((25 : Int64))) fun y33 =>
  ltt ((x31 + y33.2)) fun x34 =>
  ltt ((x34 + ((52 : Int32)))) fun x35 =>
  ltt (x35 - x35 / ((52 : Int32)) * ((52 : Int32))) fun x36 =>
  ltt (uI y33.1 a 20 x36) fun M37 =>
  some (M37))) fun (y29 : DD) =>
  some (y29))) fun (y8 : DD) =>
  dr G 9 ((y8.2 a 2)) fun b9 =>
  ltt ((x1 + ((2 : Int32)))) fun x10 =>
  ltt (y8.1 a 20) fun x11 =>
  dr G 13 ((y8.2 b9 6)) fun b12 =>
  chk (¬ (x10 < 0 ∨ G.2.2 b12 ≤ x10.toNatClampNeg)) <|
  ltt (uI y8 b12 x10.toNatClampNeg x11) fun M13 =>
  some M13)
set_option maxHeartbeats 4000000 in
set_option maxRecDepth 100000 in
theorem kX1_readPattern (l : Launch) (D : va_G) (ct : CT) (ad : Nat → Nat) (Z : Nat → Nat) (G : GG) (M : DD) (sz : Nat) (a : Nat) (p0 : Int32) (y : DD) (hc : a < G.1) (hk : G.2.1 a = 1) (hF : FX1_readPattern G M a p0 = some y) : Met l yX1_readPattern wsX1_readPattern ({ frames := 2, cells := 0, slots := 0, locals := 59 }) (va_Pc [.ref (ad a), .int p0] (kB D ct ad Z G M sz)) (va_Qv (fun (_ : Unit) => True) (fun _ t => kE D ct ad G (wA ad G sz) y t) (wA ad G sz)) 0 0 (wA ad G sz) := by
  refine Met.ofW (cc := cX1_readPattern) (maxL := 6) (ret := none) (by decide) rfl ?_
  intro p e s m args below meth c s₁ B hml hv
  obtain ⟨rfl, hsz, hP, hK, hD0, hZ, hN⟩ := hv
  have hx := B.exec
  have hb := B.bytes
  have hr := B.returns
  have hts := atoms_spec (ws := wsX1_readPattern) B.pre
  have hown : s.vm.findClass RX1 = some m.cls := findClass_of_methodNamed B.named
  have hlocks := B.notSynchronized
  subst hsz
  have hD := wD_self (sz := s.heap.size) hD0
  have hA9 : ∀ q, s.heap.size ≤ q → wA ad G s.heap.size q := fun q h => Or.inr h
  generalize hAe : wA ad G s.heap.size = A at hD hA9 hZ ⊢
  have hS : va_S A s.heap s.heap [] := va_S.rf
  have hl := lv_entry ([.ref (ad a), .int p0]) (n := 6) (Nat.le_of_ble_eq_true rfl)
  rw [lg_entry_eq]
  generalize (lg_sl ([.ref (ad a), .int p0]) ++ List.replicate (6 - (lg_sl ([.ref (ad a), .int p0])).length) Slot.unset).toArray = ls at hl ⊢
  have hl : lv_has ls 6 [(0, .ref (ad a)), (1, .int p0)] := hl
  unfold FX1_readPattern at hF
  refine lv_bipush (v := (8 : Int32)) hx hb dX1_readPattern_0 (by decide) ?_
  refine lv_iload_n hx hb dX1_readPattern_2 rfl (lv_at hl 1 rfl) ?_
  refine lv_imul hx hb dX1_readPattern_3 ?_
  obtain ⟨x1, ex1, hF⟩ := ltt_some hF
  refine lv_topi (fun zx1 ezx1 => ?_)
  obtain rfl : x1 = zx1 := ex1.trans ezx1.symm
  refine lv_istore_n (lv' := [(2, .int x1), (0, .ref (ad a)), (1, .int p0)]) hx hb dX1_readPattern_4 rfl hl (by decide) rfl (fun ls hl => ?_)
  refine lv_aload_n hx hb dX1_readPattern_5 rfl (lv_at hl 1 rfl) ?_
  refine va_get (D := D) (ci := 1) (v := va_re ad (M.2 a 2)) (C := RX1) (T := TX1) (N := 22) hx hb hts (by decide +kernel) hown hK hP a (wld_o ct ad G M hc hk (by decide)) rfl 2 (by decide) (hts (.fieldLink RX1 28 "VideoSuite$Decoder" "work" "LVideoSuite$Work;") (by decide +kernel)) (fun _ h9 => h9) rfl dX1_readPattern_6 ?_
  obtain ⟨b2, ho2, hc2, hk2, hF⟩ := dr_some hF
  refine W_st (st' := [.ref (ad b2)]) (by rw [va_some ho2]) ?_
  refine va_get (D := D) (ci := 9) (v := va_re ad (M.2 b2 6)) (C := RX9) (T := TX9) (N := 20) hx hb hts (by decide +kernel) hown hK hP b2 (wld_o ct ad G M hc2 hk2 (by decide)) rfl 6 (by decide) (hts (.fieldLink RX1 355 "VideoSuite$Work" "info" "[I") (by decide +kernel)) (fun _ h9 => h9) rfl dX1_readPattern_9 ?_
  refine lv_iload_n hx hb dX1_readPattern_12 rfl (lv_at hl 0 rfl) ?_
  refine lv_iconst (v := (0 : Int32)) hx hb dX1_readPattern_13 (by decide) ?_
  refine lv_iadd hx hb dX1_readPattern_14 ?_
  obtain ⟨x3, ex3, hF⟩ := ltt_some hF
  refine lv_topi (fun zx3 ezx3 => ?_)
  obtain rfl : x3 = zx3 := ex3.trans ezx3.symm
  obtain ⟨b4, ho4, hc4, hk4, hF⟩ := dr_some hF
  refine W_st (st' := [.int x3, .ref (ad b4)]) (by rw [va_some ho4]) ?_
  obtain ⟨hvc, hF⟩ := chk_some hF
  refine va_iald hx hb hK hP b4 1 (wld_i ct ad G M hc4 hk4) rfl hvc dX1_readPattern_15 ?_
  obtain ⟨x5, ex5, hF⟩ := ltt_some hF
  refine lv_topi (fun zx5 ezx5 => ?_)
  obtain rfl : x5 = zx5 := ex5.trans ezx5.symm
  refine lv_istore_n (lv' := [(3, .int x5), (2, .int x1), (0, .ref (ad a)), (1, .int p0)]) hx hb dX1_readPattern_16 rfl hl (by decide) rfl (fun ls hl => ?_)
  refine lv_iload_n hx hb dX1_readPattern_17 rfl (lv_at hl 0 rfl) ?_
  refine lv_iconst (v := (2 : Int32)) hx hb dX1_readPattern_18 (by decide) ?_
  refine lv_icmp_ne (tgt := 46) hx hb dX1_readPattern_19 (by decide) (fun c6 => ?_) (fun c6 => ?_)
  · rw [if_neg c6] at hF
    refine lv_iload_n hx hb dX1_readPattern_46 rfl (lv_at hl 0 rfl) ?_
    refine lv_iconst (v := (1 : Int32)) hx hb dX1_readPattern_47 (by decide) ?_
    obtain ⟨y7, hy7, hF⟩ := bnd_some hF
    have J7 : ∀ (H : Heap) (locs : List Loc) (ls : Array Slot), va_P D classes (wld ct ad G y7) H → va_D A (wld ct ad G y7) → va_S A s.heap H locs → lv_has ls 6 [(3, .int x5), (2, .int x1), (0, .ref (ad a)), (1, .int p0)] → W p l e (headSpec wsX1_readPattern ({ frames := 2, cells := 0, slots := 0, locals := 59 })).room s m ([.ref (ad a), .int p0] : List Value).toArray below meth c H locs 0 0 (MQ below (va_Qv (fun (_ : Unit) => True) (fun _ t => kE D ct ad G A y t) A) ([.ref (ad a), .int p0] : List Value).toArray s 0 0 A) (F0 m 119 ls []) := by
      intro H locs ls hP hD hS hl
      refine lv_iload_n hx hb dX1_readPattern_119 rfl (lv_at hl 0 rfl) ?_
      refine lv_iconst (v := (1 : Int32)) hx hb dX1_readPattern_120 (by decide) ?_
      obtain ⟨y8, hy8, hF⟩ := bnd_some hF
      have J8 : ∀ (H : Heap) (locs : List Loc) (ls : Array Slot), va_P D classes (wld ct ad G y8) H → va_D A (wld ct ad G y8) → va_S A s.heap H locs → lv_has ls 6 [(3, .int x5), (2, .int x1), (0, .ref (ad a)), (1, .int p0)] → W p l e (headSpec wsX1_readPattern ({ frames := 2, cells := 0, slots := 0, locals := 59 })).room s m ([.ref (ad a), .int p0] : List Value).toArray below meth c H locs 0 0 (MQ below (va_Qv (fun (_ : Unit) => True) (fun _ t => kE D ct ad G A y t) A) ([.ref (ad a), .int p0] : List Value).toArray s 0 0 A) (F0 m 181 ls []) := by
        intro H locs ls hP hD hS hl
        refine lv_aload_n hx hb dX1_readPattern_181 rfl (lv_at hl 2 rfl) ?_
        refine va_get (D := D) (ci := 1) (v := va_re ad (y8.2 a 2)) (C := RX1) (T := TX1) (N := 22) hx hb hts (by decide +kernel) hown hK hP a (wld_o ct ad G y8 hc hk (by decide)) rfl 2 (by decide) (hts (.fieldLink RX1 28 "VideoSuite$Decoder" "work" "LVideoSuite$Work;") (by decide +kernel)) (fun _ h9 => h9) rfl dX1_readPattern_182 ?_
        obtain ⟨b9, ho9, hc9, hk9, hF⟩ := dr_some hF
        refine W_st (st' := [.ref (ad b9)]) (by rw [va_some ho9]) ?_
        refine va_get (D := D) (ci := 9) (v := va_re ad (y8.2 b9 6)) (C := RX9) (T := TX9) (N := 20) hx hb hts (by decide +kernel) hown hK hP b9 (wld_o ct ad G y8 hc9 hk9 (by decide)) rfl 6 (by decide) (hts (.fieldLink RX1 355 "VideoSuite$Work" "info" "[I") (by decide +kernel)) (fun _ h9 => h9) rfl dX1_readPattern_185 ?_
        refine lv_iload_n hx hb dX1_readPattern_188 rfl (lv_at hl 1 rfl) ?_
        refine lv_iconst (v := (2 : Int32)) hx hb dX1_readPattern_189 (by decide) ?_
        refine lv_iadd hx hb dX1_readPattern_190 ?_
        obtain ⟨x10, ex10, hF⟩ := ltt_some hF
        refine lv_topi (fun zx10 ezx10 => ?_)
        obtain rfl : x10 = zx10 := ex10.trans ezx10.symm
        refine lv_aload_n hx hb dX1_readPattern_191 rfl (lv_at hl 2 rfl) ?_
        refine va_get (D := D) (ci := 1) (v := .int (y8.1 a 20)) (C := RX1) (T := TX1) (N := 22) hx hb hts (by decide +kernel) hown hK hP a (wld_o ct ad G y8 hc hk (by decide)) rfl 20 (by decide) (hts (.fieldLink RX1 328 "VideoSuite$Decoder" "step" "I") (by decide +kernel)) (fun _ h9 => h9) rfl dX1_readPattern_192 ?_
        obtain ⟨x11, ex11, hF⟩ := ltt_some hF
        refine lv_topi (fun zx11 ezx11 => ?_)
        obtain rfl : x11 = zx11 := ex11.trans ezx11.symm
        obtain ⟨b12, ho12, hc12, hk12, hF⟩ := dr_some hF
        refine W_st (st' := [.int x11, .int x10, .ref (ad b12)]) (by rw [va_some ho12]) ?_
        obtain ⟨hvc, hF⟩ := chk_some hF
        refine va_iast hx hb hK hP hD hS b12 1 (wld_i ct ad G y8 hc12 hk12) rfl hvc dX1_readPattern_195 (fun H locs hP hD hS => ?_)
        obtain ⟨M13, eM13, hF⟩ := ltt_some hF
        rw [set_i ct ad G y8 hc12 hk12, ← eM13] at hP hD
        obtain rfl := Option.some.inj hF
        exact W.vret hx hb hr (fun t ht hW => ⟨⟨(), rfl, trivial, ⟨by rw [ht]; exact hP, va_K.moved hW.alike hK, hD⟩⟩, hS.F ht⟩) hS.2.2 dX1_readPattern_196
      clear hF
      have hF := hy8
      clear hy8
      refine lv_icmp_eq (tgt := 150) hx hb dX1_readPattern_121 (by decide) (fun c14 => ?_) (fun c14 => ?_)
      · rw [if_pos c14] at hF
        refine lv_aload_n hx hb dX1_readPattern_150 rfl (lv_at hl 2 rfl) ?_
        refine lv_aload_n hx hb dX1_readPattern_151 rfl (lv_at hl 2 rfl) ?_
        refine va_get (D := D) (ci := 1) (v := .int (y7.1 a 20)) (C := RX1) (T := TX1) (N := 22) hx hb hts (by decide +kernel) hown hK hP a (wld_o ct ad G y7 hc hk (by decide)) rfl 20 (by decide) (hts (.fieldLink RX1 328 "VideoSuite$Decoder" "step" "I") (by decide +kernel)) (fun _ h9 => h9) rfl dX1_readPattern_152 ?_
        obtain ⟨x15, ex15, hF⟩ := ltt_some hF
        refine lv_topi (fun zx15 ezx15 => ?_)
        obtain rfl : x15 = zx15 := ex15.trans ezx15.symm
        refine lv_aload_n hx hb dX1_readPattern_155 rfl (lv_at hl 2 rfl) ?_
        refine va_get (D := D) (ci := 1) (v := va_re ad (y7.2 a 0)) (C := RX1) (T := TX1) (N := 22) hx hb hts (by decide +kernel) hown hK hP a (wld_o ct ad G y7 hc hk (by decide)) rfl 0 (by decide) (hts (.fieldLink RX1 12 "VideoSuite$Decoder" "reader" "LVideoSuite$Reader;") (by decide +kernel)) (fun _ h9 => h9) rfl dX1_readPattern_156 ?_
        refine lv_bipush (v := (10 : Int32)) hx hb dX1_readPattern_159 (by decide) ?_
        refine lv_iconst (v := (1 : Int32)) hx hb dX1_readPattern_161 (by decide) ?_
        refine lv_ldc2 (v := (-26 : Int64)) hx hb hown (hts (.constantLong RX1 484 (-26 : Int64)) (by decide +kernel)) dX1_readPattern_162 ?_
        refine lv_ldc2 (v := (25 : Int64)) hx hb hown (hts (.constantLong RX1 486 (25 : Int64)) (by decide +kernel)) dX1_readPattern_165 ?_
        obtain ⟨b16, ho16, hc16, hk16, hF⟩ := dr_some hF
        refine W_st (st' := [.long (25 : Int64), .long (-26 : Int64), .int (1 : Int32), .int (10 : Int32), .ref (ad b16), .int x15, .ref (ad a)]) (by rw [va_some ho16]) ?_
        obtain ⟨y17, hy17, hF⟩ := bnd_some hF
        have hf9 := wA_in hD hA9 hS
        refine va_calli (va_runV (As := [.int (10 : Int32), .int (1 : Int32), .long (-26 : Int64), .long (25 : Int64)]) (rest := [.int x15, .ref (ad a)]) ⟨hx, hb, hml, hown, hts⟩ (kX5_number l D ct ad Z G y7 H.size b16 ((10 : Int32)) ((1 : Int32)) ((-26 : Int64)) ((25 : Int64)) y17 hc16 hk16 hy17) (cwV 4 hts gX1_readPattern_X5_number rfl rfl rfl (by decide +kernel) ⟨Nat.le_of_ble_eq_true rfl, Nat.le_of_ble_eq_true rfl⟩) ⟨fun a U g mk q => by obtain ⟨q0, q1, qP, qK, qD, qZ, qN⟩ := q; exact ⟨q0, q1, qP, va_K.moved (u := U) (U := U.calling g mk a) (Vm.Alike.refl U.vm) qK, qD, sF.moved (u := U) (U := U.calling g mk a) (Vm.Alike.refl U.vm) qZ, nF.same rfl qN⟩, va_recv hK hP (ci := 5) (q0 := b16) rfl (wld_o ct ad G y7 hc16 hk16 (by decide)), fun U hU hW => ⟨rfl, by rw [hU], by rw [hU]; exact hP, va_K.moved hW.alike hK, hD.weaken (fun _ _ _ _ => trivial), by rw [hU]; exact ((hZ.kept hS.2.1).narrow hf9).moved hW.alike, hN.warm hW⟩⟩ rfl rfl hl.1 rfl (lv_room (Nat.le_of_ble_eq_true rfl)) dX1_readPattern_168 ⟨(Nat.zero_le _), (Nat.zero_le _)⟩) hS (fun q _ h => hf9 q h) hf9 (fun r u t H locs ht hvm hw hB hz1 hk1 hS => ?_)
        obtain ⟨hP, hK9, hD9⟩ := hB
        rw [ht] at hP
        try dsimp only at hw
        subst hw
        have hD := hD9.weaken (fun _ q _ h => hf9 q.1 h)
        refine lv_iadd hx hb dX1_readPattern_171 ?_
        obtain ⟨x18, ex18, hF⟩ := ltt_some hF
        refine lv_topi (fun zx18 ezx18 => ?_)
        obtain rfl : x18 = zx18 := ex18.trans ezx18.symm
        refine lv_bipush (v := (52 : Int32)) hx hb dX1_readPattern_172 (by decide) ?_
        refine lv_iadd hx hb dX1_readPattern_174 ?_
        obtain ⟨x19, ex19, hF⟩ := ltt_some hF
        refine lv_topi (fun zx19 ezx19 => ?_)
        obtain rfl : x19 = zx19 := ex19.trans ezx19.symm
        refine lv_bipush (v := (52 : Int32)) hx hb dX1_readPattern_175 (by decide) ?_
        refine lv_irem hx hb dX1_readPattern_177 (by decide) ?_
        obtain ⟨x20, ex20, hF⟩ := ltt_some hF
        refine lv_topi (fun zx20 ezx20 => ?_)
        obtain rfl : x20 = zx20 := ex20.trans ezx20.symm
        refine va_put (D := D) (ci := 1) (v := .int x20) (ty := .int) (C := RX1) (T := TX1) (N := 22) hx hb hts (by decide +kernel) tyX1 tyX1_ok nmX1 hown hK hP hD hS a (wld_o ct ad G y17.1 hc hk (by decide)) rfl 20 (by decide) (hts (.fieldLink RX1 328 "VideoSuite$Decoder" "step" "I") (by decide +kernel)) (fun _ h9 => h9) rfl (by decide +kernel) rfl rfl (Nat.le_of_ble_eq_true rfl) dX1_readPattern_178 (fun H locs hP hD hS => ?_)
        obtain ⟨M21, eM21, hF⟩ := ltt_some hF
        rw [set_oI ct ad G y17.1 hc hk (by decide) (by rfl), ← eM21] at hP hD
        obtain rfl := Option.some.inj hF
        exact J8 _ _ _ hP hD hS (lv_sub hl [0, 1, 2, 3] rfl)
      · rw [if_neg c14] at hF
        refine lv_aload_n hx hb dX1_readPattern_124 rfl (lv_at hl 2 rfl) ?_
        refine va_get (D := D) (ci := 1) (v := va_re ad (y7.2 a 2)) (C := RX1) (T := TX1) (N := 22) hx hb hts (by decide +kernel) hown hK hP a (wld_o ct ad G y7 hc hk (by decide)) rfl 2 (by decide) (hts (.fieldLink RX1 28 "VideoSuite$Decoder" "work" "LVideoSuite$Work;") (by decide +kernel)) (fun _ h9 => h9) rfl dX1_readPattern_125 ?_
        obtain ⟨b22, ho22, hc22, hk22, hF⟩ := dr_some hF
        refine W_st (st' := [.ref (ad b22)]) (by rw [va_some ho22]) ?_
        refine va_get (D := D) (ci := 9) (v := va_re ad (y7.2 b22 6)) (C := RX9) (T := TX9) (N := 20) hx hb hts (by decide +kernel) hown hK hP b22 (wld_o ct ad G y7 hc22 hk22 (by decide)) rfl 6 (by decide) (hts (.fieldLink RX1 355 "VideoSuite$Work" "info" "[I") (by decide +kernel)) (fun _ h9 => h9) rfl dX1_readPattern_128 ?_
        refine lv_iload_n hx hb dX1_readPattern_131 rfl (lv_at hl 1 rfl) ?_
        refine lv_iconst (v := (3 : Int32)) hx hb dX1_readPattern_132 (by decide) ?_
        refine lv_iadd hx hb dX1_readPattern_133 ?_
        obtain ⟨x23, ex23, hF⟩ := ltt_some hF
        refine lv_topi (fun zx23 ezx23 => ?_)
        obtain rfl : x23 = zx23 := ex23.trans ezx23.symm
        obtain ⟨b24, ho24, hc24, hk24, hF⟩ := dr_some hF
        refine W_st (st' := [.int x23, .ref (ad b24)]) (by rw [va_some ho24]) ?_
        obtain ⟨hvc, hF⟩ := chk_some hF
        refine va_iald hx hb hK hP b24 1 (wld_i ct ad G y7 hc24 hk24) rfl hvc dX1_readPattern_134 ?_
        obtain ⟨x25, ex25, hF⟩ := ltt_some hF
        refine lv_topi (fun zx25 ezx25 => ?_)
        obtain rfl : x25 = zx25 := ex25.trans ezx25.symm
        refine lv_aload_n hx hb dX1_readPattern_135 rfl (lv_at hl 2 rfl) ?_
        refine va_get (D := D) (ci := 1) (v := va_re ad (y7.2 a 2)) (C := RX1) (T := TX1) (N := 22) hx hb hts (by decide +kernel) hown hK hP a (wld_o ct ad G y7 hc hk (by decide)) rfl 2 (by decide) (hts (.fieldLink RX1 28 "VideoSuite$Decoder" "work" "LVideoSuite$Work;") (by decide +kernel)) (fun _ h9 => h9) rfl dX1_readPattern_136 ?_
        refine W_st (st' := [.ref (ad b22), .int x25]) (by rw [va_some ho22]) ?_
        refine va_get (D := D) (ci := 9) (v := va_re ad (y7.2 b22 6)) (C := RX9) (T := TX9) (N := 20) hx hb hts (by decide +kernel) hown hK hP b22 (wld_o ct ad G y7 hc22 hk22 (by decide)) rfl 6 (by decide) (hts (.fieldLink RX1 355 "VideoSuite$Work" "info" "[I") (by decide +kernel)) (fun _ h9 => h9) rfl dX1_readPattern_139 ?_
        refine lv_iload_n hx hb dX1_readPattern_142 rfl (lv_at hl 1 rfl) ?_
        refine lv_iconst (v := (4 : Int32)) hx hb dX1_readPattern_143 (by decide) ?_
        refine lv_iadd hx hb dX1_readPattern_144 ?_
        obtain ⟨x26, ex26, hF⟩ := ltt_some hF
        refine lv_topi (fun zx26 ezx26 => ?_)
        obtain rfl : x26 = zx26 := ex26.trans ezx26.symm
        refine W_st (st' := [.int x26, .ref (ad b24), .int x25]) (by rw [va_some ho24]) ?_
        obtain ⟨hvc, hF⟩ := chk_some hF
        refine va_iald hx hb hK hP b24 1 (wld_i ct ad G y7 hc24 hk24) rfl hvc dX1_readPattern_145 ?_
        obtain ⟨x27, ex27, hF⟩ := ltt_some hF
        refine lv_topi (fun zx27 ezx27 => ?_)
        obtain rfl : x27 = zx27 := ex27.trans ezx27.symm
        refine lv_iadd hx hb dX1_readPattern_146 ?_
        obtain ⟨x28, ex28, hF⟩ := ltt_some hF
        refine lv_topi (fun zx28 ezx28 => ?_)
        obtain rfl : x28 = zx28 := ex28.trans ezx28.symm
        obtain ⟨y29, hy29, hF⟩ := bnd_some hF
        have J29 : ∀ (H : Heap) (locs : List Loc) (ls : Array Slot), va_P D classes (wld ct ad G y29) H → va_D A (wld ct ad G y29) → va_S A s.heap H locs → lv_has ls 6 [(3, .int x5), (2, .int x1), (0, .ref (ad a)), (1, .int p0)] → W p l e (headSpec wsX1_readPattern ({ frames := 2, cells := 0, slots := 0, locals := 59 })).room s m ([.ref (ad a), .int p0] : List Value).toArray below meth c H locs 0 0 (MQ below (va_Qv (fun (_ : Unit) => True) (fun _ t => kE D ct ad G A y t) A) ([.ref (ad a), .int p0] : List Value).toArray s 0 0 A) (F0 m 181 ls []) := by
          intro H locs ls hP hD hS hl
          obtain rfl := Option.some.inj hF
          exact J8 _ _ _ hP hD hS (lv_sub hl [0, 1, 2, 3] rfl)
        clear hF
        have hF := hy29
        clear hy29
        refine lv_if_le (tgt := 181) hx hb dX1_readPattern_147 (by decide) (fun c30 => ?_) (fun c30 => ?_)
        · rw [if_pos c30] at hF
          obtain rfl := Option.some.inj hF
          exact J29 _ _ _ hP hD hS (lv_sub hl [0, 1, 2, 3] rfl)
        · rw [if_neg c30] at hF
          refine lv_aload_n hx hb dX1_readPattern_150 rfl (lv_at hl 2 rfl) ?_
          refine lv_aload_n hx hb dX1_readPattern_151 rfl (lv_at hl 2 rfl) ?_
          refine va_get (D := D) (ci := 1) (v := .int (y7.1 a 20)) (C := RX1) (T := TX1) (N := 22) hx hb hts (by decide +kernel) hown hK hP a (wld_o ct ad G y7 hc hk (by decide)) rfl 20 (by decide) (hts (.fieldLink RX1 328 "VideoSuite$Decoder" "step" "I") (by decide +kernel)) (fun _ h9 => h9) rfl dX1_readPattern_152 ?_
          obtain ⟨x31, ex31, hF⟩ := ltt_some hF
          refine lv_topi (fun zx31 ezx31 => ?_)
          obtain rfl : x31 = zx31 := ex31.trans ezx31.symm
          refine lv_aload_n hx hb dX1_readPattern_155 rfl (lv_at hl 2 rfl) ?_
          refine va_get (D := D) (ci := 1) (v := va_re ad (y7.2 a 0)) (C := RX1) (T := TX1) (N := 22) hx hb hts (by decide +kernel) hown hK hP a (wld_o ct ad G y7 hc hk (by decide)) rfl 0 (by decide) (hts (.fieldLink RX1 12 "VideoSuite$Decoder" "reader" "LVideoSuite$Reader;") (by decide +kernel)) (fun _ h9 => h9) rfl dX1_readPattern_156 ?_
          refine lv_bipush (v := (10 : Int32)) hx hb dX1_readPattern_159 (by decide) ?_
          refine lv_iconst (v := (1 : Int32)) hx hb dX1_readPattern_161 (by decide) ?_
          refine lv_ldc2 (v := (-26 : Int64)) hx hb hown (hts (.constantLong RX1 484 (-26 : Int64)) (by decide +kernel)) dX1_readPattern_162 ?_
          refine lv_ldc2 (v := (25 : Int64)) hx hb hown (hts (.constantLong RX1 486 (25 : Int64)) (by decide +kernel)) dX1_readPattern_165 ?_
          obtain ⟨b32, ho32, hc32, hk32, hF⟩ := dr_some hF
          refine W_st (st' := [.long (25 : Int64), .long (-26 : Int64), .int (1 : Int32), .int (10 : Int32), .ref (ad b32), .int x31, .ref (ad a)]) (by rw [va_some ho32]) ?_
          obtain ⟨y33, hy33, hF⟩ := bnd_some hF
          have hf9 := wA_in hD hA9 hS
          refine va_calli (va_runV (As := [.int (10 : Int32), .int (1 : Int32), .long (-26 : Int64), .long (25 : Int64)]) (rest := [.int x31, .ref (ad a)]) ⟨hx, hb, hml, hown, hts⟩ (kX5_number l D ct ad Z G y7 H.size b32 ((10 : Int32)) ((1 : Int32)) ((-26 : Int64)) ((25 : Int64)) y33 hc32 hk32 hy33) (cwV 4 hts gX1_readPattern_X5_number rfl rfl rfl (by decide +kernel) ⟨Nat.le_of_ble_eq_true rfl, Nat.le_of_ble_eq_true rfl⟩) ⟨fun a U g mk q => by obtain ⟨q0, q1, qP, qK, qD, qZ, qN⟩ := q; exact ⟨q0, q1, qP, va_K.moved (u := U) (U := U.calling g mk a) (Vm.Alike.refl U.vm) qK, qD, sF.moved (u := U) (U := U.calling g mk a) (Vm.Alike.refl U.vm) qZ, nF.same rfl qN⟩, va_recv hK hP (ci := 5) (q0 := b32) rfl (wld_o ct ad G y7 hc32 hk32 (by decide)), fun U hU hW => ⟨rfl, by rw [hU], by rw [hU]; exact hP, va_K.moved hW.alike hK, hD.weaken (fun _ _ _ _ => trivial), by rw [hU]; exact ((hZ.kept hS.2.1).narrow hf9).moved hW.alike, hN.warm hW⟩⟩ rfl rfl hl.1 rfl (lv_room (Nat.le_of_ble_eq_true rfl)) dX1_readPattern_168 ⟨(Nat.zero_le _), (Nat.zero_le _)⟩) hS (fun q _ h => hf9 q h) hf9 (fun r u t H locs ht hvm hw hB hz1 hk1 hS => ?_)
          obtain ⟨hP, hK9, hD9⟩ := hB
          rw [ht] at hP
          try dsimp only at hw
          subst hw
          have hD := hD9.weaken (fun _ q _ h => hf9 q.1 h)
          refine lv_iadd hx hb dX1_readPattern_171 ?_
          obtain ⟨x34, ex34, hF⟩ := ltt_some hF
          refine lv_topi (fun zx34 ezx34 => ?_)
          obtain rfl : x34 = zx34 := ex34.trans ezx34.symm
          refine lv_bipush (v := (52 : Int32)) hx hb dX1_readPattern_172 (by decide) ?_
          refine lv_iadd hx hb dX1_readPattern_174 ?_
          obtain ⟨x35, ex35, hF⟩ := ltt_some hF
          refine lv_topi (fun zx35 ezx35 => ?_)
          obtain rfl : x35 = zx35 := ex35.trans ezx35.symm
          refine lv_bipush (v := (52 : Int32)) hx hb dX1_readPattern_175 (by decide) ?_
          refine lv_irem hx hb dX1_readPattern_177 (by decide) ?_
          obtain ⟨x36, ex36, hF⟩ := ltt_some hF
          refine lv_topi (fun zx36 ezx36 => ?_)
          obtain rfl : x36 = zx36 := ex36.trans ezx36.symm
          refine va_put (D := D) (ci := 1) (v := .int x36) (ty := .int) (C := RX1) (T := TX1) (N := 22) hx hb hts (by decide +kernel) tyX1 tyX1_ok nmX1 hown hK hP hD hS a (wld_o ct ad G y33.1 hc hk (by decide)) rfl 20 (by decide) (hts (.fieldLink RX1 328 "VideoSuite$Decoder" "step" "I") (by decide +kernel)) (fun _ h9 => h9) rfl (by decide +kernel) rfl rfl (Nat.le_of_ble_eq_true rfl) dX1_readPattern_178 (fun H locs hP hD hS => ?_)
          obtain ⟨M37, eM37, hF⟩ := ltt_some hF
          rw [set_oI ct ad G y33.1 hc hk (by decide) (by rfl), ← eM37] at hP hD
          obtain rfl := Option.some.inj hF
          exact J29 _ _ _ hP hD hS (lv_sub hl [0, 1, 2, 3] rfl)
    clear hF
    have hF := hy7
    clear hy7
    refine lv_icmp_eq (tgt := 119) hx hb dX1_readPattern_48 (by decide) (fun c38 => ?_) (fun c38 => ?_)
    · rw [if_pos c38] at hF
      obtain rfl := Option.some.inj hF
      exact J7 _ _ _ hP hD hS (lv_sub hl [0, 1, 2, 3] rfl)
    · rw [if_neg c38] at hF
      refine lv_aload_n hx hb dX1_readPattern_51 rfl (lv_at hl 2 rfl) ?_
      refine va_get (D := D) (ci := 1) (v := va_re ad (M.2 a 0)) (C := RX1) (T := TX1) (N := 22) hx hb hts (by decide +kernel) hown hK hP a (wld_o ct ad G M hc hk (by decide)) rfl 0 (by decide) (hts (.fieldLink RX1 12 "VideoSuite$Decoder" "reader" "LVideoSuite$Reader;") (by decide +kernel)) (fun _ h9 => h9) rfl dX1_readPattern_52 ?_
      refine lv_bipush (v := (9 : Int32)) hx hb dX1_readPattern_55 (by decide) ?_
      refine lv_iconst (v := (0 : Int32)) hx hb dX1_readPattern_57 (by decide) ?_
      refine lv_lconst (v := (0 : Int64)) hx hb dX1_readPattern_58 rfl ?_
      refine lv_ldc2 (v := (47 : Int64)) hx hb hown (hts (.constantLong RX1 479 (47 : Int64)) (by decide +kernel)) dX1_readPattern_59 ?_
      obtain ⟨b39, ho39, hc39, hk39, hF⟩ := dr_some hF
      refine W_st (st' := [.long (47 : Int64), .long (0 : Int64), .int (0 : Int32), .int (9 : Int32), .ref (ad b39)]) (by rw [va_some ho39]) ?_
      obtain ⟨y40, hy40, hF⟩ := bnd_some hF
      have hf9 := wA_in hD hA9 hS
      refine va_calli (va_runV (As := [.int (9 : Int32), .int (0 : Int32), .long (0 : Int64), .long (47 : Int64)]) (rest := []) ⟨hx, hb, hml, hown, hts⟩ (kX5_number l D ct ad Z G M s.heap.size b39 ((9 : Int32)) ((0 : Int32)) ((0 : Int64)) ((47 : Int64)) y40 hc39 hk39 hy40) (cwV 4 hts gX1_readPattern_X5_number rfl rfl rfl (by decide +kernel) ⟨Nat.le_of_ble_eq_true rfl, Nat.le_of_ble_eq_true rfl⟩) ⟨fun a U g mk q => by obtain ⟨q0, q1, qP, qK, qD, qZ, qN⟩ := q; exact ⟨q0, q1, qP, va_K.moved (u := U) (U := U.calling g mk a) (Vm.Alike.refl U.vm) qK, qD, sF.moved (u := U) (U := U.calling g mk a) (Vm.Alike.refl U.vm) qZ, nF.same rfl qN⟩, va_recv hK hP (ci := 5) (q0 := b39) rfl (wld_o ct ad G M hc39 hk39 (by decide)), fun U hU hW => ⟨rfl, by rw [hU], by rw [hU]; exact hP, va_K.moved hW.alike hK, hD.weaken (fun _ _ _ _ => trivial), by rw [hU]; exact ((hZ.kept hS.2.1).narrow hf9).moved hW.alike, hN.warm hW⟩⟩ rfl rfl hl.1 rfl (lv_room (Nat.le_of_ble_eq_true rfl)) dX1_readPattern_62 ⟨(Nat.zero_le _), (Nat.zero_le _)⟩) hS (fun q _ h => hf9 q h) hf9 (fun r u t H locs ht hvm hw hB hz1 hk1 hS => ?_)
      obtain ⟨hP, hK9, hD9⟩ := hB
      rw [ht] at hP
      try dsimp only at hw
      subst hw
      have hD := hD9.weaken (fun _ q _ h => hf9 q.1 h)
      refine lv_istore (lv' := [(4, .int y40.2), (3, .int x5), (2, .int x1), (0, .ref (ad a)), (1, .int p0)]) hx hb dX1_readPattern_65 hl (by decide) rfl (fun ls hl => ?_)
      refine va_gets hx hb (hZ.1 9 (by decide)).1 hS hown (hts (.fieldLink RX1 481 "VideoSuite$Reader" "PATTERN" "[I") (by decide +kernel)) (fun _ h => h) dX1_readPattern_67 ?_
      refine lv_iload_n hx hb dX1_readPattern_70 rfl (lv_at hl 1 rfl) ?_
      obtain ⟨y41, hy41, hF⟩ := bnd_some hF
      have J41 : ∀ (H : Heap) (locs : List Loc) (ls : Array Slot), va_P D classes (wld ct ad G y40.1) H → va_D A (wld ct ad G y40.1) → va_S A s.heap H locs → lv_has ls 6 [(4, .int y40.2), (3, .int x5), (2, .int x1), (0, .ref (ad a)), (1, .int p0)] → W p l e (headSpec wsX1_readPattern ({ frames := 2, cells := 0, slots := 0, locals := 59 })).room s m ([.ref (ad a), .int p0] : List Value).toArray below meth c H locs 0 0 (MQ below (va_Qv (fun (_ : Unit) => True) (fun _ t => kE D ct ad G A y t) A) ([.ref (ad a), .int p0] : List Value).toArray s 0 0 A) (F0 m 84 ls [.int y41, .ref (Z 9)]) := by
        intro H locs ls hP hD hS hl
        obtain ⟨hvc, hF⟩ := chk_some hF
        refine va_ti (v := .int ((sT 9).getD y41.toNatClampNeg 0)) hx hb (hZ.1 9 (by decide)).2 hS hvc rfl dX1_readPattern_84 ?_
        obtain ⟨x42, ex42, hF⟩ := ltt_some hF
        refine lv_topi (fun zx42 ezx42 => ?_)
        obtain rfl : x42 = zx42 := ex42.trans ezx42.symm
        refine lv_istore (lv' := [(5, .int x42), (4, .int y40.2), (3, .int x5), (2, .int x1), (0, .ref (ad a)), (1, .int p0)]) hx hb dX1_readPattern_85 hl (by decide) rfl (fun ls hl => ?_)
        refine lv_aload_n hx hb dX1_readPattern_87 rfl (lv_at hl 4 rfl) ?_
        refine va_get (D := D) (ci := 1) (v := va_re ad (y40.1.2 a 2)) (C := RX1) (T := TX1) (N := 22) hx hb hts (by decide +kernel) hown hK hP a (wld_o ct ad G y40.1 hc hk (by decide)) rfl 2 (by decide) (hts (.fieldLink RX1 28 "VideoSuite$Decoder" "work" "LVideoSuite$Work;") (by decide +kernel)) (fun _ h9 => h9) rfl dX1_readPattern_88 ?_
        obtain ⟨b43, ho43, hc43, hk43, hF⟩ := dr_some hF
        refine W_st (st' := [.ref (ad b43)]) (by rw [va_some ho43]) ?_
        refine va_get (D := D) (ci := 9) (v := va_re ad (y40.1.2 b43 6)) (C := RX9) (T := TX9) (N := 20) hx hb hts (by decide +kernel) hown hK hP b43 (wld_o ct ad G y40.1 hc43 hk43 (by decide)) rfl 6 (by decide) (hts (.fieldLink RX1 355 "VideoSuite$Work" "info" "[I") (by decide +kernel)) (fun _ h9 => h9) rfl dX1_readPattern_91 ?_
        refine lv_iload_n hx hb dX1_readPattern_94 rfl (lv_at hl 3 rfl) ?_
        refine lv_iconst (v := (3 : Int32)) hx hb dX1_readPattern_95 (by decide) ?_
        refine lv_iadd hx hb dX1_readPattern_96 ?_
        obtain ⟨x44, ex44, hF⟩ := ltt_some hF
        refine lv_topi (fun zx44 ezx44 => ?_)
        obtain rfl : x44 = zx44 := ex44.trans ezx44.symm
        refine lv_iload hx hb dX1_readPattern_97 (lv_at hl 0 rfl) ?_
        refine lv_bipush (v := (15 : Int32)) hx hb dX1_readPattern_99 (by decide) ?_
        refine lv_iand hx hb dX1_readPattern_101 ?_
        obtain ⟨x45, ex45, hF⟩ := ltt_some hF
        refine lv_topi (fun zx45 ezx45 => ?_)
        obtain rfl : x45 = zx45 := ex45.trans ezx45.symm
        obtain ⟨b46, ho46, hc46, hk46, hF⟩ := dr_some hF
        refine W_st (st' := [.int x45, .int x44, .ref (ad b46)]) (by rw [va_some ho46]) ?_
        obtain ⟨hvc, hF⟩ := chk_some hF
        refine va_iast hx hb hK hP hD hS b46 1 (wld_i ct ad G y40.1 hc46 hk46) rfl hvc dX1_readPattern_102 (fun H locs hP hD hS => ?_)
        obtain ⟨M47, eM47, hF⟩ := ltt_some hF
        rw [set_i ct ad G y40.1 hc46 hk46, ← eM47] at hP hD
        refine lv_aload_n hx hb dX1_readPattern_103 rfl (lv_at hl 4 rfl) ?_
        refine va_get (D := D) (ci := 1) (v := va_re ad (M47.2 a 2)) (C := RX1) (T := TX1) (N := 22) hx hb hts (by decide +kernel) hown hK hP a (wld_o ct ad G M47 hc hk (by decide)) rfl 2 (by decide) (hts (.fieldLink RX1 28 "VideoSuite$Decoder" "work" "LVideoSuite$Work;") (by decide +kernel)) (fun _ h9 => h9) rfl dX1_readPattern_104 ?_
        obtain ⟨b48, ho48, hc48, hk48, hF⟩ := dr_some hF
        refine W_st (st' := [.ref (ad b48)]) (by rw [va_some ho48]) ?_
        refine va_get (D := D) (ci := 9) (v := va_re ad (M47.2 b48 6)) (C := RX9) (T := TX9) (N := 20) hx hb hts (by decide +kernel) hown hK hP b48 (wld_o ct ad G M47 hc48 hk48 (by decide)) rfl 6 (by decide) (hts (.fieldLink RX1 355 "VideoSuite$Work" "info" "[I") (by decide +kernel)) (fun _ h9 => h9) rfl dX1_readPattern_107 ?_
        refine lv_iload_n hx hb dX1_readPattern_110 rfl (lv_at hl 3 rfl) ?_
        refine lv_iconst (v := (4 : Int32)) hx hb dX1_readPattern_111 (by decide) ?_
        refine lv_iadd hx hb dX1_readPattern_112 ?_
        obtain ⟨x49, ex49, hF⟩ := ltt_some hF
        refine lv_topi (fun zx49 ezx49 => ?_)
        obtain rfl : x49 = zx49 := ex49.trans ezx49.symm
        refine lv_iload hx hb dX1_readPattern_113 (lv_at hl 0 rfl) ?_
        refine lv_bipush (v := (16 : Int32)) hx hb dX1_readPattern_115 (by decide) ?_
        refine lv_idiv hx hb dX1_readPattern_117 (by decide) ?_
        obtain ⟨x50, ex50, hF⟩ := ltt_some hF
        refine lv_topi (fun zx50 ezx50 => ?_)
        obtain rfl : x50 = zx50 := ex50.trans ezx50.symm
        obtain ⟨b51, ho51, hc51, hk51, hF⟩ := dr_some hF
        refine W_st (st' := [.int x50, .int x49, .ref (ad b51)]) (by rw [va_some ho51]) ?_
        obtain ⟨hvc, hF⟩ := chk_some hF
        refine va_iast hx hb hK hP hD hS b51 1 (wld_i ct ad G M47 hc51 hk51) rfl hvc dX1_readPattern_118 (fun H locs hP hD hS => ?_)
        obtain ⟨M52, eM52, hF⟩ := ltt_some hF
        rw [set_i ct ad G M47 hc51 hk51, ← eM52] at hP hD
        obtain rfl := Option.some.inj hF
        exact J7 _ _ _ hP hD hS (lv_sub hl [2, 3, 4, 5] rfl)
      clear hF
      have hF := hy41
      clear hy41
      refine lv_if_ne (tgt := 79) hx hb dX1_readPattern_71 (by decide) (fun c53 => ?_) (fun c53 => ?_)
      · rw [if_neg c53] at hF
        refine lv_bipush (v := (48 : Int32)) hx hb dX1_readPattern_79 (by decide) ?_
        refine lv_iload hx hb dX1_readPattern_81 (lv_at hl 0 rfl) ?_
        refine lv_iadd hx hb dX1_readPattern_83 ?_
        obtain ⟨x54, ex54, hF⟩ := ltt_some hF
        refine lv_topi (fun zx54 ezx54 => ?_)
        obtain rfl : x54 = zx54 := ex54.trans ezx54.symm
        obtain rfl := Option.some.inj hF
        exact J41 _ _ _ hP hD hS (lv_sub hl [0, 1, 2, 3, 4] rfl)
      · rw [if_pos c53] at hF
        refine lv_iload hx hb dX1_readPattern_74 (lv_at hl 0 rfl) ?_
        refine lv_goto (tgt := 84) hx hb dX1_readPattern_76 (by decide) ?_
        obtain rfl := Option.some.inj hF
        exact J41 _ _ _ hP hD hS (lv_sub hl [0, 1, 2, 3, 4] rfl)
  · rw [if_pos c6] at hF
    refine lv_aload_n hx hb dX1_readPattern_22 rfl (lv_at hl 2 rfl) ?_
    refine va_get (D := D) (ci := 1) (v := va_re ad (M.2 a 2)) (C := RX1) (T := TX1) (N := 22) hx hb hts (by decide +kernel) hown hK hP a (wld_o ct ad G M hc hk (by decide)) rfl 2 (by decide) (hts (.fieldLink RX1 28 "VideoSuite$Decoder" "work" "LVideoSuite$Work;") (by decide +kernel)) (fun _ h9 => h9) rfl dX1_readPattern_23 ?_
    refine W_st (st' := [.ref (ad b2)]) (by rw [va_some ho2]) ?_
    refine va_get (D := D) (ci := 9) (v := va_re ad (M.2 b2 8)) (C := RX9) (T := TX9) (N := 20) hx hb hts (by decide +kernel) hown hK hP b2 (wld_o ct ad G M hc2 hk2 (by decide)) rfl 8 (by decide) (hts (.fieldLink RX1 476 "VideoSuite$Work" "total" "[I") (by decide +kernel)) (fun _ h9 => h9) rfl dX1_readPattern_26 ?_
    refine lv_bipush (v := (24 : Int32)) hx hb dX1_readPattern_29 (by decide) ?_
    refine lv_iload_n hx hb dX1_readPattern_31 rfl (lv_at hl 3 rfl) ?_
    refine lv_imul hx hb dX1_readPattern_32 ?_
    obtain ⟨x55, ex55, hF⟩ := ltt_some hF
    refine lv_topi (fun zx55 ezx55 => ?_)
    obtain rfl : x55 = zx55 := ex55.trans ezx55.symm
    refine lv_bipush (v := (24 : Int32)) hx hb dX1_readPattern_33 (by decide) ?_
    refine lv_iload_n hx hb dX1_readPattern_35 rfl (lv_at hl 3 rfl) ?_
    refine lv_imul hx hb dX1_readPattern_36 ?_
    obtain ⟨x56, ex56, hF⟩ := ltt_some hF
    refine lv_topi (fun zx56 ezx56 => ?_)
    obtain rfl : x56 = zx56 := ex56.trans ezx56.symm
    refine lv_bipush (v := (24 : Int32)) hx hb dX1_readPattern_37 (by decide) ?_
    refine lv_iadd hx hb dX1_readPattern_39 ?_
    obtain ⟨x57, ex57, hF⟩ := ltt_some hF
    refine lv_topi (fun zx57 ezx57 => ?_)
    obtain rfl : x57 = zx57 := ex57.trans ezx57.symm
    refine lv_bipush (v := (16 : Int32)) hx hb dX1_readPattern_40 (by decide) ?_
    obtain ⟨y58, hy58, hF⟩ := bnd_some hF
    have hf9 := wA_in hD hA9 hS
    refine va_callv (va_runS (As := [va_re ad (M.2 b2 8), .int x55, .int x57, .int (16 : Int32)]) (rest := []) ⟨hx, hb, hml, hown, hts⟩ (kJ7_fill_fda19 l D ct ad Z G M s.heap.size ((M.2 b2 8)) x55 x57 ((16 : Int32)) y58 hy58) (va_cwS 4 hts gX1_readPattern_J7_fill_fda19 rfl rfl rfl (by decide +kernel) ⟨Nat.le_of_ble_eq_true rfl, Nat.le_of_ble_eq_true rfl⟩) ⟨fun a U g mk q => by obtain ⟨q0, q1, qP, qK, qD, qZ, qN⟩ := q; exact ⟨q0, q1, qP, va_K.moved (u := U) (U := U.calling g mk a) (Vm.Alike.refl U.vm) qK, qD, sF.moved (u := U) (U := U.calling g mk a) (Vm.Alike.refl U.vm) qZ, nF.same rfl qN⟩, fun U hU hW => ⟨rfl, by rw [hU], by rw [hU]; exact hP, va_K.moved hW.alike hK, hD.weaken (fun _ _ _ _ => trivial), by rw [hU]; exact ((hZ.kept hS.2.1).narrow hf9).moved hW.alike, hN.warm hW⟩⟩ rfl rfl hl.1 rfl (lv_room (Nat.le_of_ble_eq_true rfl)) dX1_readPattern_42 ⟨(Nat.zero_le _), (Nat.zero_le _)⟩) hS (fun q _ h => hf9 q h) hf9 (fun u t H locs ht hvm hw hB hz1 hk1 hS => ?_)
    obtain ⟨hP, hK9, hD9⟩ := hB
    rw [ht] at hP
    have hD := hD9.weaken (fun _ q _ h => hf9 q.1 h)
    obtain rfl := Option.some.inj hF
    exact W.vret hx hb hr (fun t ht hW => ⟨⟨(), rfl, trivial, ⟨by rw [ht]; exact hP, va_K.moved hW.alike hK, hD⟩⟩, hS.F ht⟩) hS.2.2 dX1_readPattern_45
theorem ggX1_readReferences_X9_setReference : GoodIn wsX1_readReferences wsX9_setReference := goodIn_r _ [53, 54, 55, 56, 57, 58, 59, 60, 61, 52, 62, 63, 64, 65, 66, 67, 68, 69, 96, 97, 98, 99, 100, 101, 102, 103, 104, 105, 106, 107, 108, 109, 110, 111, 112, 113, 114, 115, 133, 134, 135, 136, 137, 138, 139, 140, 141, 142, 143, 144, 145, 146, 147, 148, 149, 150] (by decide +kernel) (by decide +kernel)
set_option maxRecDepth 20000 in
theorem gX1_readReferences_X9_setReference : GoodIn wsX1_readReferences (wsV RX1 446 RX9 yX9_setReference wsX9_setReference) := goodIn_app (goodIn_of _ (by decide +kernel)) ggX1_readReferences_X9_setReference
theorem ggX1_readReferences_X5_number : GoodIn wsX1_readReferences wsX5_number := goodIn_ca (goodIn_r _ [13, 14, 15, 16, 17, 18, 19, 12, 20, 21, 22, 23, 24, 25, 26, 27, 28, 29, 30, 31, 32, 33, 34, 35, 36, 37, 38, 39, 40, 41, 42, 43, 44, 116, 117, 118, 119, 120, 121, 122, 123, 124, 125, 126, 127, 128, 129, 130, 131, 132] (by decide +kernel) (by decide +kernel)) (goodIn_sub (fun _ h => List.mem_cons_of_mem _ (List.mem_append_right _ h)) (by decide +kernel))
set_option maxRecDepth 20000 in
theorem gX1_readReferences_X5_number : GoodIn wsX1_readReferences (wsV RX1 179 RX5 yX5_number wsX5_number) := goodIn_app (goodIn_of _ (by decide +kernel)) ggX1_readReferences_X5_number
set_option maxRecDepth 20000 in
theorem dX1_readReferences_0 : decode cX1_readReferences 0 = .ok (.aload_n 0, 1) := by decide +kernel
theorem dX1_readReferences_1 : decode cX1_readReferences 1 = .ok (.getfield 72, 3) := by decide +kernel
theorem dX1_readReferences_4 : decode cX1_readReferences 4 = .ok (.getfield 212, 3) := by decide +kernel
theorem dX1_readReferences_7 : decode cX1_readReferences 7 = .ok (.bipush 9, 2) := by decide +kernel
theorem dX1_readReferences_9 : decode cX1_readReferences 9 = .ok (.iload_n 2, 1) := by decide +kernel
theorem dX1_readReferences_10 : decode cX1_readReferences 10 = .ok (.iadd, 1) := by decide +kernel
theorem dX1_readReferences_11 : decode cX1_readReferences 11 = .ok (.iaload, 1) := by decide +kernel
theorem dX1_readReferences_12 : decode cX1_readReferences 12 = .ok (.iconst 1, 1) := by decide +kernel
theorem dX1_readReferences_13 : decode cX1_readReferences 13 = .ok (.isub, 1) := by decide +kernel
theorem dX1_readReferences_14 : decode cX1_readReferences 14 = .ok (.istore_n 3, 1) := by decide +kernel
theorem dX1_readReferences_15 : decode cX1_readReferences 15 = .ok (.aload_n 0, 1) := by decide +kernel
theorem dX1_readReferences_16 : decode cX1_readReferences 16 = .ok (.getfield 72, 3) := by decide +kernel
theorem dX1_readReferences_19 : decode cX1_readReferences 19 = .ok (.getfield 212, 3) := by decide +kernel
theorem dX1_readReferences_22 : decode cX1_readReferences 22 = .ok (.iconst 1, 1) := by decide +kernel
theorem dX1_readReferences_23 : decode cX1_readReferences 23 = .ok (.iaload, 1) := by decide +kernel
theorem dX1_readReferences_24 : decode cX1_readReferences 24 = .ok (.ifCond .ne 25, 3) := by decide +kernel
theorem dX1_readReferences_27 : decode cX1_readReferences 27 = .ok (.aload_n 0, 1) := by decide +kernel
theorem dX1_readReferences_28 : decode cX1_readReferences 28 = .ok (.getfield 28, 3) := by decide +kernel
theorem dX1_readReferences_31 : decode cX1_readReferences 31 = .ok (.getfield 355, 3) := by decide +kernel
theorem dX1_readReferences_34 : decode cX1_readReferences 34 = .ok (.bipush 8, 2) := by decide +kernel
theorem dX1_readReferences_36 : decode cX1_readReferences 36 = .ok (.iload_n 1, 1) := by decide +kernel
theorem dX1_readReferences_37 : decode cX1_readReferences 37 = .ok (.imul, 1) := by decide +kernel
theorem dX1_readReferences_38 : decode cX1_readReferences 38 = .ok (.iconst 1, 1) := by decide +kernel
theorem dX1_readReferences_39 : decode cX1_readReferences 39 = .ok (.iadd, 1) := by decide +kernel
theorem dX1_readReferences_40 : decode cX1_readReferences 40 = .ok (.iaload, 1) := by decide +kernel
theorem dX1_readReferences_41 : decode cX1_readReferences 41 = .ok (.iconst 4, 1) := by decide +kernel
theorem dX1_readReferences_42 : decode cX1_readReferences 42 = .ok (.if_icmp .ne 7, 3) := by decide +kernel
theorem dX1_readReferences_45 : decode cX1_readReferences 45 = .ok (.iconst 1, 1) := by decide +kernel
theorem dX1_readReferences_46 : decode cX1_readReferences 46 = .ok (.goto 4, 3) := by decide +kernel
theorem dX1_readReferences_49 : decode cX1_readReferences 49 = .ok (.iconst 0, 1) := by decide +kernel
theorem dX1_readReferences_50 : decode cX1_readReferences 50 = .ok (.istore 4, 2) := by decide +kernel
theorem dX1_readReferences_52 : decode cX1_readReferences 52 = .ok (.iconst 0, 1) := by decide +kernel
theorem dX1_readReferences_53 : decode cX1_readReferences 53 = .ok (.istore 5, 2) := by decide +kernel
theorem dX1_readReferences_55 : decode cX1_readReferences 55 = .ok (.iload 5, 2) := by decide +kernel
theorem dX1_readReferences_57 : decode cX1_readReferences 57 = .ok (.aload_n 0, 1) := by decide +kernel
theorem dX1_readReferences_58 : decode cX1_readReferences 58 = .ok (.getfield 28, 3) := by decide +kernel
theorem dX1_readReferences_61 : decode cX1_readReferences 61 = .ok (.getfield 394, 3) := by decide +kernel
theorem dX1_readReferences_64 : decode cX1_readReferences 64 = .ok (.if_icmp .ge 108, 3) := by decide +kernel
theorem dX1_readReferences_67 : decode cX1_readReferences 67 = .ok (.aload_n 0, 1) := by decide +kernel
theorem dX1_readReferences_68 : decode cX1_readReferences 68 = .ok (.getfield 28, 3) := by decide +kernel
theorem dX1_readReferences_71 : decode cX1_readReferences 71 = .ok (.getfield 443, 3) := by decide +kernel
theorem dX1_readReferences_74 : decode cX1_readReferences 74 = .ok (.iconst 4, 1) := by decide +kernel
theorem dX1_readReferences_75 : decode cX1_readReferences 75 = .ok (.iload 5, 2) := by decide +kernel
theorem dX1_readReferences_77 : decode cX1_readReferences 77 = .ok (.imul, 1) := by decide +kernel
theorem dX1_readReferences_78 : decode cX1_readReferences 78 = .ok (.iconst 3, 1) := by decide +kernel
theorem dX1_readReferences_79 : decode cX1_readReferences 79 = .ok (.iadd, 1) := by decide +kernel
theorem dX1_readReferences_80 : decode cX1_readReferences 80 = .ok (.iaload, 1) := by decide +kernel
theorem dX1_readReferences_81 : decode cX1_readReferences 81 = .ok (.iload_n 2, 1) := by decide +kernel
theorem dX1_readReferences_82 : decode cX1_readReferences 82 = .ok (.ishr, 1) := by decide +kernel
theorem dX1_readReferences_83 : decode cX1_readReferences 83 = .ok (.iconst 1, 1) := by decide +kernel
theorem dX1_readReferences_84 : decode cX1_readReferences 84 = .ok (.iand, 1) := by decide +kernel
theorem dX1_readReferences_85 : decode cX1_readReferences 85 = .ok (.ifCond .ne 6, 3) := by decide +kernel
theorem dX1_readReferences_88 : decode cX1_readReferences 88 = .ok (.goto 78, 3) := by decide +kernel
theorem dX1_readReferences_91 : decode cX1_readReferences 91 = .ok (.iload 4, 2) := by decide +kernel
theorem dX1_readReferences_93 : decode cX1_readReferences 93 = .ok (.ifCond .ne 8, 3) := by decide +kernel
theorem dX1_readReferences_96 : decode cX1_readReferences 96 = .ok (.iload_n 3, 1) := by decide +kernel
theorem dX1_readReferences_97 : decode cX1_readReferences 97 = .ok (.iconst 1, 1) := by decide +kernel
theorem dX1_readReferences_98 : decode cX1_readReferences 98 = .ok (.if_icmp .ge 7, 3) := by decide +kernel
theorem dX1_readReferences_101 : decode cX1_readReferences 101 = .ok (.iconst 0, 1) := by decide +kernel
theorem dX1_readReferences_102 : decode cX1_readReferences 102 = .ok (.goto 16, 3) := by decide +kernel
theorem dX1_readReferences_105 : decode cX1_readReferences 105 = .ok (.aload_n 0, 1) := by decide +kernel
theorem dX1_readReferences_106 : decode cX1_readReferences 106 = .ok (.getfield 12, 3) := by decide +kernel
theorem dX1_readReferences_109 : decode cX1_readReferences 109 = .ok (.bipush 6, 2) := by decide +kernel
theorem dX1_readReferences_111 : decode cX1_readReferences 111 = .ok (.iconst 2, 1) := by decide +kernel
theorem dX1_readReferences_112 : decode cX1_readReferences 112 = .ok (.lconst 0, 1) := by decide +kernel
theorem dX1_readReferences_113 : decode cX1_readReferences 113 = .ok (.iload_n 3, 1) := by decide +kernel
theorem dX1_readReferences_114 : decode cX1_readReferences 114 = .ok (.i2l, 1) := by decide +kernel
theorem dX1_readReferences_115 : decode cX1_readReferences 115 = .ok (.invokevirtual 179, 3) := by decide +kernel
theorem dX1_readReferences_118 : decode cX1_readReferences 118 = .ok (.istore 6, 2) := by decide +kernel
theorem dX1_readReferences_120 : decode cX1_readReferences 120 = .ok (.iload 6, 2) := by decide +kernel
theorem dX1_readReferences_122 : decode cX1_readReferences 122 = .ok (.bipush 7, 2) := by decide +kernel
theorem dX1_readReferences_124 : decode cX1_readReferences 124 = .ok (.if_icmp .gt 21, 3) := by decide +kernel
theorem dX1_readReferences_127 : decode cX1_readReferences 127 = .ok (.aload_n 0, 1) := by decide +kernel
theorem dX1_readReferences_128 : decode cX1_readReferences 128 = .ok (.getfield 28, 3) := by decide +kernel
theorem dX1_readReferences_131 : decode cX1_readReferences 131 = .ok (.getfield 384, 3) := by decide +kernel
theorem dX1_readReferences_134 : decode cX1_readReferences 134 = .ok (.bipush 9, 2) := by decide +kernel
theorem dX1_readReferences_136 : decode cX1_readReferences 136 = .ok (.iload_n 2, 1) := by decide +kernel
theorem dX1_readReferences_137 : decode cX1_readReferences 137 = .ok (.imul, 1) := by decide +kernel
theorem dX1_readReferences_138 : decode cX1_readReferences 138 = .ok (.iload 6, 2) := by decide +kernel
theorem dX1_readReferences_140 : decode cX1_readReferences 140 = .ok (.iadd, 1) := by decide +kernel
theorem dX1_readReferences_141 : decode cX1_readReferences 141 = .ok (.aaload, 1) := by decide +kernel
theorem dX1_readReferences_142 : decode cX1_readReferences 142 = .ok (.ifnonnull 11, 3) := by decide +kernel
theorem dX1_readReferences_145 : decode cX1_readReferences 145 = .ok (.aload_n 0, 1) := by decide +kernel
theorem dX1_readReferences_146 : decode cX1_readReferences 146 = .ok (.getfield 12, 3) := by decide +kernel
theorem dX1_readReferences_149 : decode cX1_readReferences 149 = .ok (.iconst 4, 1) := by decide +kernel
theorem dX1_readReferences_150 : decode cX1_readReferences 150 = .ok (.invokevirtual 325, 3) := by decide +kernel
theorem dX1_readReferences_153 : decode cX1_readReferences 153 = .ok (.aload_n 0, 1) := by decide +kernel
theorem dX1_readReferences_154 : decode cX1_readReferences 154 = .ok (.getfield 28, 3) := by decide +kernel
theorem dX1_readReferences_157 : decode cX1_readReferences 157 = .ok (.iload_n 1, 1) := by decide +kernel
theorem dX1_readReferences_158 : decode cX1_readReferences 158 = .ok (.iload_n 2, 1) := by decide +kernel
theorem dX1_readReferences_159 : decode cX1_readReferences 159 = .ok (.iload 5, 2) := by decide +kernel
theorem dX1_readReferences_161 : decode cX1_readReferences 161 = .ok (.iload 6, 2) := by decide +kernel
theorem dX1_readReferences_163 : decode cX1_readReferences 163 = .ok (.invokevirtual 446, 3) := by decide +kernel
theorem dX1_readReferences_166 : decode cX1_readReferences 166 = .ok (.iinc 5 1, 3) := by decide +kernel
theorem dX1_readReferences_169 : decode cX1_readReferences 169 = .ok (.goto (-114), 3) := by decide +kernel
theorem dX1_readReferences_172 : decode cX1_readReferences 172 = .ok (.return_, 1) := by decide +kernel
def FX1_readReferences (G : GG) (M : DD) (a : Nat) (p0 : Int32) (p1 : Int32) : Option (DD) :=
  dr G 3 ((M.2 a 11)) fun b2 =>
  ltt ((((9 : Int32)) + p1)) fun x3 =>
  dr G 13 ((M.2 b2 0)) fun b4 =>
  chk (¬ (x3 < 0 ∨ G.2.2 b4 ≤ x3.toNatClampNeg)) <|
  ltt (M.1 b4 x3.toNatClampNeg) fun x5 =>
  ltt ((x5 - ((1 : Int32)))) fun x6 =>
  chk (¬ (((1 : Int32)) < 0 ∨ G.2.2 b4 ≤ ((1 : Int32)).toNatClampNeg)) <|
  ltt (M.1 b4 ((1 : Int32)).toNatClampNeg) fun x7 =>
  bnd (if x7 = ((0 : Int32)) then (dr G 9 ((M.2 a 2)) fun b43 =>
  ltt ((((8 : Int32)) * p0)) fun x44 =>
  ltt ((x44 + ((1 : Int32)))) fun x45 =>
  dr G 13 ((M.2 b43 6)) fun b46 =>
  chk (¬ (x45 < 0 ∨ G.2.2 b46 ≤ x45.toNatClampNeg)) <|
  ltt (M.1 b46 x45.toNatClampNeg) fun x47 =>
  bnd (if x47 = ((4 : Int32)) then (some ((1 : Int32))) else
  (some ((0 : Int32)))) fun (y48 : Int32) =>
  some (y48)) else
  (some ((0 : Int32)))) fun (y8 : Int32) =>
  bnd (itr (fun (s10 : Int32 × DD) => ((dr G 9 ((s10.2.2 a 2)) fun b13 =>
  ltt (s10.2.1 b13 16) fun x14 =>
  if x14 ≤ s10.1 then (some (.inr (s10.1, s10.2))) else
  (ltt ((((4 : Int32)) * s10.1)) fun x16 =>
  ltt ((x16 + ((3 : Int32)))) fun x17 =>
  dr G 13 ((s10.2.2 b13 15)) fun b18 =>
  chk (¬ (x17 < 0 ∨ G.2.2 b18 ≤ x17.toNatClampNeg)) <|
  ltt (s10.2.1 b18 x17.toNatClampNeg) fun x19 =>
  ltt ((x19 >>> (p1 &&& 31))) fun x20 =>
  ltt ((x20 &&& ((1 : Int32)))) fun x21 =>
  bnd (if x21 = ((0 : Int32)) then (some (s10.2)) else
  (bnd (if y8 = ((0 : Int32)) then (bnd (if ((1 : Int32)) ≤ x6 then (ltt (x6.toInt64) fun x39 =>
  dr G 5 ((s10.2.2 a 0)) fun b40 =>
  bnd (FX5_number G s10.2 b40 ((6 : Int32)) ((2 : Int32)) ((0 : Int64)) x39) fun y41 =>
  some (y41.2, y41.1)) else
  (some ((0 : Int32), s10.2))) fun (y37 : Int32 × DD) =>
  some (y37.1, y37.2)) else
  (some ((0 : Int32), s10.2))) fun (y25 : Int32 × DD) =>
  bnd (if ((7 : Int32)) < y25.1 then (none) else
  (some (y25.2))) fun (y26 : DD) =>
  dr G 9 ((y26.2 a 2)) fun b27 =>
  ltt ((((9 : Int32)) * p1)) fun x28 =>
  ltt ((x28 + y25.1)) fun x29 =>
  dr G 14 ((y26.2 b27 3)) fun b30 =>
  chk (¬ (x29 < 0 ∨ G.2.2 b30 ≤ x29.toNatClampNeg)) <|
  bnd (if ((y26.2 b30 x29.toNatClampNeg)) = none then (none) else
  (some (y26))) fun (y31 : DD) =>
  dr G 9 ((y31.2 a 2)) fun b32 =>
  bnd (FX9_setReference G y31 b32 p0 p1 s10.1 y25.1) fun y33 =>
  some (y33))) fun (y22 : DD) =>
  ltt (s10.1 + (1 : Int32)) fun x23 =>
  some (.inl (x23, y22)))) : Option ((Int32 × DD) ⊕ (Int32 × DD)))) 1000000 ((0 : Int32), M)) fun (y9 : Int32 × DD) =>
  some y9.2
set_option maxHeartbeats 4000000 in
set_option maxRecDepth 100000 in
theorem kX1_readReferences (l : Launch) (D : va_G) (ct : CT) (ad : Nat → Nat) (Z : Nat → Nat) (G : GG) (M : DD) (sz : Nat) (a : Nat) (p0 : Int32) (p1 : Int32) (y : DD) (hc : a < G.1) (hk : G.2.1 a = 1) (hF : FX1_readReferences G M a p0 p1 = some y) : Met l yX1_readReferences wsX1_readReferences ({ frames := 2, cells := 0, slots := 0, locals := 59 }) (va_Pc [.ref (ad a), .int p0, .int p1] (kB D ct ad Z G M sz)) (va_Qv (fun (_ : Unit) => True) (fun _ t => kE D ct ad G (wA ad G sz) y t) (wA ad G sz)) 0 0 (wA ad G sz) := by
  refine Met.ofW (cc := cX1_readReferences) (maxL := 7) (ret := none) (by decide) rfl ?_
  intro p e s m args below meth c s₁ B hml hv
  obtain ⟨rfl, hsz, hP, hK, hD0, hZ, hN⟩ := hv
  have hx := B.exec
  have hb := B.bytes
  have hr := B.returns
  have hts := atoms_spec (ws := wsX1_readReferences) B.pre
  have hown : s.vm.findClass RX1 = some m.cls := findClass_of_methodNamed B.named
  have hlocks := B.notSynchronized
  subst hsz
  have hD := wD_self (sz := s.heap.size) hD0
  have hA9 : ∀ q, s.heap.size ≤ q → wA ad G s.heap.size q := fun q h => Or.inr h
  generalize hAe : wA ad G s.heap.size = A at hD hA9 hZ ⊢
  have hS : va_S A s.heap s.heap [] := va_S.rf
  have hl := lv_entry ([.ref (ad a), .int p0, .int p1]) (n := 7) (Nat.le_of_ble_eq_true rfl)
  rw [lg_entry_eq]
  generalize (lg_sl ([.ref (ad a), .int p0, .int p1]) ++ List.replicate (7 - (lg_sl ([.ref (ad a), .int p0, .int p1])).length) Slot.unset).toArray = ls at hl ⊢
  have hl : lv_has ls 7 [(0, .ref (ad a)), (1, .int p0), (2, .int p1)] := hl
  unfold FX1_readReferences at hF
  refine lv_aload_n hx hb dX1_readReferences_0 rfl (lv_at hl 0 rfl) ?_
  refine va_get (D := D) (ci := 1) (v := va_re ad (M.2 a 11)) (C := RX1) (T := TX1) (N := 22) hx hb hts (by decide +kernel) hown hK hP a (wld_o ct ad G M hc hk (by decide)) rfl 11 (by decide) (hts (.fieldLink RX1 72 "VideoSuite$Decoder" "latest" "LVideoSuite$Header;") (by decide +kernel)) (fun _ h9 => h9) rfl dX1_readReferences_1 ?_
  obtain ⟨b2, ho2, hc2, hk2, hF⟩ := dr_some hF
  refine W_st (st' := [.ref (ad b2)]) (by rw [va_some ho2]) ?_
  refine va_get (D := D) (ci := 3) (v := va_re ad (M.2 b2 0)) (C := RX3) (T := TX3) (N := 4) hx hb hts (by decide +kernel) hown hK hP b2 (wld_o ct ad G M hc2 hk2 (by decide)) rfl 0 (by decide) (hts (.fieldLink RX1 212 "VideoSuite$Header" "v" "[I") (by decide +kernel)) (fun _ h9 => h9) rfl dX1_readReferences_4 ?_
  refine lv_bipush (v := (9 : Int32)) hx hb dX1_readReferences_7 (by decide) ?_
  refine lv_iload_n hx hb dX1_readReferences_9 rfl (lv_at hl 2 rfl) ?_
  refine lv_iadd hx hb dX1_readReferences_10 ?_
  obtain ⟨x3, ex3, hF⟩ := ltt_some hF
  refine lv_topi (fun zx3 ezx3 => ?_)
  obtain rfl : x3 = zx3 := ex3.trans ezx3.symm
  obtain ⟨b4, ho4, hc4, hk4, hF⟩ := dr_some hF
  refine W_st (st' := [.int x3, .ref (ad b4)]) (by rw [va_some ho4]) ?_
  obtain ⟨hvc, hF⟩ := chk_some hF
  refine va_iald hx hb hK hP b4 1 (wld_i ct ad G M hc4 hk4) rfl hvc dX1_readReferences_11 ?_
  obtain ⟨x5, ex5, hF⟩ := ltt_some hF
  refine lv_topi (fun zx5 ezx5 => ?_)
  obtain rfl : x5 = zx5 := ex5.trans ezx5.symm
  refine lv_iconst (v := (1 : Int32)) hx hb dX1_readReferences_12 (by decide) ?_
  refine lv_isub hx hb dX1_readReferences_13 ?_
  obtain ⟨x6, ex6, hF⟩ := ltt_some hF
  refine lv_topi (fun zx6 ezx6 => ?_)
  obtain rfl : x6 = zx6 := ex6.trans ezx6.symm
  refine lv_istore_n (lv' := [(3, .int x6), (0, .ref (ad a)), (1, .int p0), (2, .int p1)]) hx hb dX1_readReferences_14 rfl hl (by decide) rfl (fun ls hl => ?_)
  refine lv_aload_n hx hb dX1_readReferences_15 rfl (lv_at hl 1 rfl) ?_
  refine va_get (D := D) (ci := 1) (v := va_re ad (M.2 a 11)) (C := RX1) (T := TX1) (N := 22) hx hb hts (by decide +kernel) hown hK hP a (wld_o ct ad G M hc hk (by decide)) rfl 11 (by decide) (hts (.fieldLink RX1 72 "VideoSuite$Decoder" "latest" "LVideoSuite$Header;") (by decide +kernel)) (fun _ h9 => h9) rfl dX1_readReferences_16 ?_
  refine W_st (st' := [.ref (ad b2)]) (by rw [va_some ho2]) ?_
  refine va_get (D := D) (ci := 3) (v := va_re ad (M.2 b2 0)) (C := RX3) (T := TX3) (N := 4) hx hb hts (by decide +kernel) hown hK hP b2 (wld_o ct ad G M hc2 hk2 (by decide)) rfl 0 (by decide) (hts (.fieldLink RX1 212 "VideoSuite$Header" "v" "[I") (by decide +kernel)) (fun _ h9 => h9) rfl dX1_readReferences_19 ?_
  refine lv_iconst (v := (1 : Int32)) hx hb dX1_readReferences_22 (by decide) ?_
  refine W_st (st' := [.int (1 : Int32), .ref (ad b4)]) (by rw [va_some ho4]) ?_
  obtain ⟨hvc, hF⟩ := chk_some hF
  refine va_iald hx hb hK hP b4 1 (wld_i ct ad G M hc4 hk4) rfl hvc dX1_readReferences_23 ?_
  obtain ⟨x7, ex7, hF⟩ := ltt_some hF
  refine lv_topi (fun zx7 ezx7 => ?_)
  obtain rfl : x7 = zx7 := ex7.trans ezx7.symm
  obtain ⟨y8, hy8, hF⟩ := bnd_some hF
  have J8 : ∀ (H : Heap) (locs : List Loc) (ls : Array Slot), va_P D classes (wld ct ad G M) H → va_D A (wld ct ad G M) → va_S A s.heap H locs → lv_has ls 7 [(3, .int x6), (0, .ref (ad a)), (1, .int p0), (2, .int p1)] → W p l e (headSpec wsX1_readReferences ({ frames := 2, cells := 0, slots := 0, locals := 59 })).room s m ([.ref (ad a), .int p0, .int p1] : List Value).toArray below meth c H locs 0 0 (MQ below (va_Qv (fun (_ : Unit) => True) (fun _ t => kE D ct ad G A y t) A) ([.ref (ad a), .int p0, .int p1] : List Value).toArray s 0 0 A) (F0 m 50 ls [.int y8]) := by
    intro H locs ls hP hD hS hl
    refine lv_istore (lv' := [(4, .int y8), (3, .int x6), (0, .ref (ad a)), (1, .int p0), (2, .int p1)]) hx hb dX1_readReferences_50 hl (by decide) rfl (fun ls hl => ?_)
    refine lv_iconst (v := (0 : Int32)) hx hb dX1_readReferences_52 (by decide) ?_
    refine lv_istore (lv' := [(5, .int (0 : Int32)), (4, .int y8), (3, .int x6), (0, .ref (ad a)), (1, .int p0), (2, .int p1)]) hx hb dX1_readReferences_53 hl (by decide) rfl (fun ls hl => ?_)
    obtain ⟨y9, hy9, hF⟩ := bnd_some hF
    have K9 : ∀ (H : Heap) (locs : List Loc) (ls : Array Slot), va_P D classes (wld ct ad G y9.2) H → va_D A (wld ct ad G y9.2) → va_S A s.heap H locs → lv_has ls 7 [(5, .int y9.1), (4, .int y8), (3, .int x6), (0, .ref (ad a)), (1, .int p0), (2, .int p1)] → W p l e (headSpec wsX1_readReferences ({ frames := 2, cells := 0, slots := 0, locals := 59 })).room s m ([.ref (ad a), .int p0, .int p1] : List Value).toArray below meth c H locs 0 0 (MQ below (va_Qv (fun (_ : Unit) => True) (fun _ t => kE D ct ad G A y t) A) ([.ref (ad a), .int p0, .int p1] : List Value).toArray s 0 0 A) (F0 m 172 ls []) := by
      intro H locs ls hP hD hS hl
      obtain rfl := Option.some.inj hF
      exact W.vret hx hb hr (fun t ht hW => ⟨⟨(), rfl, trivial, ⟨by rw [ht]; exact hP, va_K.moved hW.alike hK, hD⟩⟩, hS.F ht⟩) hS.2.2 dX1_readReferences_172
    clear hF
    refine itr_rule (fun (s10 : Int32 × DD) => ∀ (H : Heap) (locs : List Loc) (ls : Array Slot), va_P D classes (wld ct ad G s10.2) H → va_D A (wld ct ad G s10.2) → va_S A s.heap H locs → lv_has ls 7 [(5, .int s10.1), (4, .int y8), (3, .int x6), (0, .ref (ad a)), (1, .int p0), (2, .int p1)] → W p l e (headSpec wsX1_readReferences ({ frames := 2, cells := 0, slots := 0, locals := 59 })).room s m ([.ref (ad a), .int p0, .int p1] : List Value).toArray below meth c H locs 0 0 (MQ below (va_Qv (fun (_ : Unit) => True) (fun _ t => kE D ct ad G A y t) A) ([.ref (ad a), .int p0, .int p1] : List Value).toArray s 0 0 A) (F0 m 55 ls [])) ?_ _ _ hy9 _ _ _ hP hD hS (lv_sub hl [0, 1, 2, 3, 4, 5] rfl)
    rintro s10 ⟨z12, hF, hwz12⟩ H locs ls hP hD hS hl
    try dsimp only at hF
    refine lv_iload hx hb dX1_readReferences_55 (lv_at hl 0 rfl) ?_
    refine lv_aload_n hx hb dX1_readReferences_57 rfl (lv_at hl 3 rfl) ?_
    refine va_get (D := D) (ci := 1) (v := va_re ad (s10.2.2 a 2)) (C := RX1) (T := TX1) (N := 22) hx hb hts (by decide +kernel) hown hK hP a (wld_o ct ad G s10.2 hc hk (by decide)) rfl 2 (by decide) (hts (.fieldLink RX1 28 "VideoSuite$Decoder" "work" "LVideoSuite$Work;") (by decide +kernel)) (fun _ h9 => h9) rfl dX1_readReferences_58 ?_
    obtain ⟨b13, ho13, hc13, hk13, hF⟩ := dr_some hF
    refine W_st (st' := [.ref (ad b13), .int s10.1]) (by rw [va_some ho13]) ?_
    refine va_get (D := D) (ci := 9) (v := .int (s10.2.1 b13 16)) (C := RX9) (T := TX9) (N := 20) hx hb hts (by decide +kernel) hown hK hP b13 (wld_o ct ad G s10.2 hc13 hk13 (by decide)) rfl 16 (by decide) (hts (.fieldLink RX1 394 "VideoSuite$Work" "groups" "I") (by decide +kernel)) (fun _ h9 => h9) rfl dX1_readReferences_61 ?_
    obtain ⟨x14, ex14, hF⟩ := ltt_some hF
    refine lv_topi (fun zx14 ezx14 => ?_)
    obtain rfl : x14 = zx14 := ex14.trans ezx14.symm
    refine lv_icmp_ge (tgt := 172) hx hb dX1_readReferences_64 (by decide) (fun c15 => ?_) (fun c15 => ?_)
    · rw [if_pos c15] at hF
      obtain rfl := Option.some.inj hF
      subst hwz12
      exact K9 _ _ _ hP hD hS (lv_sub hl [0, 1, 2, 3, 4, 5] rfl)
    · rw [if_neg c15] at hF
      refine lv_aload_n hx hb dX1_readReferences_67 rfl (lv_at hl 3 rfl) ?_
      refine va_get (D := D) (ci := 1) (v := va_re ad (s10.2.2 a 2)) (C := RX1) (T := TX1) (N := 22) hx hb hts (by decide +kernel) hown hK hP a (wld_o ct ad G s10.2 hc hk (by decide)) rfl 2 (by decide) (hts (.fieldLink RX1 28 "VideoSuite$Decoder" "work" "LVideoSuite$Work;") (by decide +kernel)) (fun _ h9 => h9) rfl dX1_readReferences_68 ?_
      refine W_st (st' := [.ref (ad b13)]) (by rw [va_some ho13]) ?_
      refine va_get (D := D) (ci := 9) (v := va_re ad (s10.2.2 b13 15)) (C := RX9) (T := TX9) (N := 20) hx hb hts (by decide +kernel) hown hK hP b13 (wld_o ct ad G s10.2 hc13 hk13 (by decide)) rfl 15 (by decide) (hts (.fieldLink RX1 443 "VideoSuite$Work" "group" "[I") (by decide +kernel)) (fun _ h9 => h9) rfl dX1_readReferences_71 ?_
      refine lv_iconst (v := (4 : Int32)) hx hb dX1_readReferences_74 (by decide) ?_
      refine lv_iload hx hb dX1_readReferences_75 (lv_at hl 0 rfl) ?_
      refine lv_imul hx hb dX1_readReferences_77 ?_
      obtain ⟨x16, ex16, hF⟩ := ltt_some hF
      refine lv_topi (fun zx16 ezx16 => ?_)
      obtain rfl : x16 = zx16 := ex16.trans ezx16.symm
      refine lv_iconst (v := (3 : Int32)) hx hb dX1_readReferences_78 (by decide) ?_
      refine lv_iadd hx hb dX1_readReferences_79 ?_
      obtain ⟨x17, ex17, hF⟩ := ltt_some hF
      refine lv_topi (fun zx17 ezx17 => ?_)
      obtain rfl : x17 = zx17 := ex17.trans ezx17.symm
      obtain ⟨b18, ho18, hc18, hk18, hF⟩ := dr_some hF
      refine W_st (st' := [.int x17, .ref (ad b18)]) (by rw [va_some ho18]) ?_
      obtain ⟨hvc, hF⟩ := chk_some hF
      refine va_iald hx hb hK hP b18 1 (wld_i ct ad G s10.2 hc18 hk18) rfl hvc dX1_readReferences_80 ?_
      obtain ⟨x19, ex19, hF⟩ := ltt_some hF
      refine lv_topi (fun zx19 ezx19 => ?_)
      obtain rfl : x19 = zx19 := ex19.trans ezx19.symm
      refine lv_iload_n hx hb dX1_readReferences_81 rfl (lv_at hl 5 rfl) ?_
      refine lv_ishr hx hb dX1_readReferences_82 ?_
      obtain ⟨x20, ex20, hF⟩ := ltt_some hF
      refine lv_topi (fun zx20 ezx20 => ?_)
      obtain rfl : x20 = zx20 := ex20.trans ezx20.symm
      refine lv_iconst (v := (1 : Int32)) hx hb dX1_readReferences_83 (by decide) ?_
      refine lv_iand hx hb dX1_readReferences_84 ?_
      obtain ⟨x21, ex21, hF⟩ := ltt_some hF
      refine lv_topi (fun zx21 ezx21 => ?_)
      obtain rfl : x21 = zx21 := ex21.trans ezx21.symm
      obtain ⟨y22, hy22, hF⟩ := bnd_some hF
      have J22 : ∀ (H : Heap) (locs : List Loc) (ls : Array Slot), va_P D classes (wld ct ad G y22) H → va_D A (wld ct ad G y22) → va_S A s.heap H locs → lv_has ls 7 [(5, .int s10.1), (4, .int y8), (3, .int x6), (0, .ref (ad a)), (1, .int p0), (2, .int p1)] → W p l e (headSpec wsX1_readReferences ({ frames := 2, cells := 0, slots := 0, locals := 59 })).room s m ([.ref (ad a), .int p0, .int p1] : List Value).toArray below meth c H locs 0 0 (MQ below (va_Qv (fun (_ : Unit) => True) (fun _ t => kE D ct ad G A y t) A) ([.ref (ad a), .int p0, .int p1] : List Value).toArray s 0 0 A) (F0 m 166 ls []) := by
        intro H locs ls hP hD hS hl
        obtain ⟨x23, ex23, hF⟩ := ltt_some hF
        refine lv_iinc (v := x23) (lv' := [(5, .int x23), (4, .int y8), (3, .int x6), (0, .ref (ad a)), (1, .int p0), (2, .int p1)]) hx hb dX1_readReferences_166 hl (k := 0) rfl (by rw [ex23]; rfl) (by decide) rfl (fun ls hl => ?_)
        refine lv_goto (tgt := 55) hx hb dX1_readReferences_169 (by decide) ?_
        obtain rfl := Option.some.inj hF
        exact hwz12 _ _ _ hP hD hS (lv_sub hl [0, 1, 2, 3, 4, 5] rfl)
      clear hF
      have hF := hy22
      clear hy22
      refine lv_if_ne (tgt := 91) hx hb dX1_readReferences_85 (by decide) (fun c24 => ?_) (fun c24 => ?_)
      · rw [if_neg c24] at hF
        refine lv_iload hx hb dX1_readReferences_91 (lv_at hl 1 rfl) ?_
        obtain ⟨y25, hy25, hF⟩ := bnd_some hF
        have J25 : ∀ (H : Heap) (locs : List Loc) (ls : Array Slot), va_P D classes (wld ct ad G y25.2) H → va_D A (wld ct ad G y25.2) → va_S A s.heap H locs → lv_has ls 7 [(5, .int s10.1), (4, .int y8), (3, .int x6), (0, .ref (ad a)), (1, .int p0), (2, .int p1)] → W p l e (headSpec wsX1_readReferences ({ frames := 2, cells := 0, slots := 0, locals := 59 })).room s m ([.ref (ad a), .int p0, .int p1] : List Value).toArray below meth c H locs 0 0 (MQ below (va_Qv (fun (_ : Unit) => True) (fun _ t => kE D ct ad G A y t) A) ([.ref (ad a), .int p0, .int p1] : List Value).toArray s 0 0 A) (F0 m 118 ls [.int y25.1]) := by
          intro H locs ls hP hD hS hl
          refine lv_istore (lv' := [(6, .int y25.1), (5, .int s10.1), (4, .int y8), (3, .int x6), (0, .ref (ad a)), (1, .int p0), (2, .int p1)]) hx hb dX1_readReferences_118 hl (by decide) rfl (fun ls hl => ?_)
          refine lv_iload hx hb dX1_readReferences_120 (lv_at hl 0 rfl) ?_
          refine lv_bipush (v := (7 : Int32)) hx hb dX1_readReferences_122 (by decide) ?_
          obtain ⟨y26, hy26, hF⟩ := bnd_some hF
          have J26 : ∀ (H : Heap) (locs : List Loc) (ls : Array Slot), va_P D classes (wld ct ad G y26) H → va_D A (wld ct ad G y26) → va_S A s.heap H locs → lv_has ls 7 [(6, .int y25.1), (5, .int s10.1), (4, .int y8), (3, .int x6), (0, .ref (ad a)), (1, .int p0), (2, .int p1)] → W p l e (headSpec wsX1_readReferences ({ frames := 2, cells := 0, slots := 0, locals := 59 })).room s m ([.ref (ad a), .int p0, .int p1] : List Value).toArray below meth c H locs 0 0 (MQ below (va_Qv (fun (_ : Unit) => True) (fun _ t => kE D ct ad G A y t) A) ([.ref (ad a), .int p0, .int p1] : List Value).toArray s 0 0 A) (F0 m 127 ls []) := by
            intro H locs ls hP hD hS hl
            refine lv_aload_n hx hb dX1_readReferences_127 rfl (lv_at hl 4 rfl) ?_
            refine va_get (D := D) (ci := 1) (v := va_re ad (y26.2 a 2)) (C := RX1) (T := TX1) (N := 22) hx hb hts (by decide +kernel) hown hK hP a (wld_o ct ad G y26 hc hk (by decide)) rfl 2 (by decide) (hts (.fieldLink RX1 28 "VideoSuite$Decoder" "work" "LVideoSuite$Work;") (by decide +kernel)) (fun _ h9 => h9) rfl dX1_readReferences_128 ?_
            obtain ⟨b27, ho27, hc27, hk27, hF⟩ := dr_some hF
            refine W_st (st' := [.ref (ad b27)]) (by rw [va_some ho27]) ?_
            refine va_get (D := D) (ci := 9) (v := va_re ad (y26.2 b27 3)) (C := RX9) (T := TX9) (N := 20) hx hb hts (by decide +kernel) hown hK hP b27 (wld_o ct ad G y26 hc27 hk27 (by decide)) rfl 3 (by decide) (hts (.fieldLink RX1 384 "VideoSuite$Work" "lists" "[LVideoSuite$Picture;") (by decide +kernel)) (fun _ h9 => h9) rfl dX1_readReferences_131 ?_
            refine lv_bipush (v := (9 : Int32)) hx hb dX1_readReferences_134 (by decide) ?_
            refine lv_iload_n hx hb dX1_readReferences_136 rfl (lv_at hl 6 rfl) ?_
            refine lv_imul hx hb dX1_readReferences_137 ?_
            obtain ⟨x28, ex28, hF⟩ := ltt_some hF
            refine lv_topi (fun zx28 ezx28 => ?_)
            obtain rfl : x28 = zx28 := ex28.trans ezx28.symm
            refine lv_iload hx hb dX1_readReferences_138 (lv_at hl 0 rfl) ?_
            refine lv_iadd hx hb dX1_readReferences_140 ?_
            obtain ⟨x29, ex29, hF⟩ := ltt_some hF
            refine lv_topi (fun zx29 ezx29 => ?_)
            obtain rfl : x29 = zx29 := ex29.trans ezx29.symm
            obtain ⟨b30, ho30, hc30, hk30, hF⟩ := dr_some hF
            refine W_st (st' := [.int x29, .ref (ad b30)]) (by rw [va_some ho30]) ?_
            obtain ⟨hvc, hF⟩ := chk_some hF
            refine ld_q hx hb hK hP hc30 hk30 hvc dX1_readReferences_141 ?_
            obtain ⟨y31, hy31, hF⟩ := bnd_some hF
            have J31 : ∀ (H : Heap) (locs : List Loc) (ls : Array Slot), va_P D classes (wld ct ad G y31) H → va_D A (wld ct ad G y31) → va_S A s.heap H locs → lv_has ls 7 [(6, .int y25.1), (5, .int s10.1), (4, .int y8), (3, .int x6), (0, .ref (ad a)), (1, .int p0), (2, .int p1)] → W p l e (headSpec wsX1_readReferences ({ frames := 2, cells := 0, slots := 0, locals := 59 })).room s m ([.ref (ad a), .int p0, .int p1] : List Value).toArray below meth c H locs 0 0 (MQ below (va_Qv (fun (_ : Unit) => True) (fun _ t => kE D ct ad G A y t) A) ([.ref (ad a), .int p0, .int p1] : List Value).toArray s 0 0 A) (F0 m 153 ls []) := by
              intro H locs ls hP hD hS hl
              refine lv_aload_n hx hb dX1_readReferences_153 rfl (lv_at hl 4 rfl) ?_
              refine va_get (D := D) (ci := 1) (v := va_re ad (y31.2 a 2)) (C := RX1) (T := TX1) (N := 22) hx hb hts (by decide +kernel) hown hK hP a (wld_o ct ad G y31 hc hk (by decide)) rfl 2 (by decide) (hts (.fieldLink RX1 28 "VideoSuite$Decoder" "work" "LVideoSuite$Work;") (by decide +kernel)) (fun _ h9 => h9) rfl dX1_readReferences_154 ?_
              refine lv_iload_n hx hb dX1_readReferences_157 rfl (lv_at hl 5 rfl) ?_
              refine lv_iload_n hx hb dX1_readReferences_158 rfl (lv_at hl 6 rfl) ?_
              refine lv_iload hx hb dX1_readReferences_159 (lv_at hl 1 rfl) ?_
              refine lv_iload hx hb dX1_readReferences_161 (lv_at hl 0 rfl) ?_
              obtain ⟨b32, ho32, hc32, hk32, hF⟩ := dr_some hF
              refine W_st (st' := [.int y25.1, .int s10.1, .int p1, .int p0, .ref (ad b32)]) (by rw [va_some ho32]) ?_
              obtain ⟨y33, hy33, hF⟩ := bnd_some hF
              have hf9 := wA_in hD hA9 hS
              refine va_callv (va_runV (As := [.int p0, .int p1, .int s10.1, .int y25.1]) (rest := []) ⟨hx, hb, hml, hown, hts⟩ (kX9_setReference l D ct ad Z G y31 H.size b32 p0 p1 s10.1 y25.1 y33 hc32 hk32 hy33) (cwV 4 hts gX1_readReferences_X9_setReference rfl rfl rfl (by decide +kernel) ⟨Nat.le_of_ble_eq_true rfl, Nat.le_of_ble_eq_true rfl⟩) ⟨fun a U g mk q => by obtain ⟨q0, q1, qP, qK, qD, qZ, qN⟩ := q; exact ⟨q0, q1, qP, va_K.moved (u := U) (U := U.calling g mk a) (Vm.Alike.refl U.vm) qK, qD, sF.moved (u := U) (U := U.calling g mk a) (Vm.Alike.refl U.vm) qZ, nF.same rfl qN⟩, va_recv hK hP (ci := 9) (q0 := b32) rfl (wld_o ct ad G y31 hc32 hk32 (by decide)), fun U hU hW => ⟨rfl, by rw [hU], by rw [hU]; exact hP, va_K.moved hW.alike hK, hD.weaken (fun _ _ _ _ => trivial), by rw [hU]; exact ((hZ.kept hS.2.1).narrow hf9).moved hW.alike, hN.warm hW⟩⟩ rfl rfl hl.1 rfl (lv_room (Nat.le_of_ble_eq_true rfl)) dX1_readReferences_163 ⟨(Nat.zero_le _), (Nat.zero_le _)⟩) hS (fun q _ h => hf9 q h) hf9 (fun u t H locs ht hvm hw hB hz1 hk1 hS => ?_)
              obtain ⟨hP, hK9, hD9⟩ := hB
              rw [ht] at hP
              have hD := hD9.weaken (fun _ q _ h => hf9 q.1 h)
              obtain rfl := Option.some.inj hF
              exact J22 _ _ _ hP hD hS (lv_sub hl [1, 2, 3, 4, 5, 6] rfl)
            clear hF
            have hF := hy31
            clear hy31
            refine lv_ifnonnullq (tgt := 153) hx hb dX1_readReferences_142 (by decide) (fun c34 => ?_) (fun c34 => ?_)
            · rw [if_neg c34] at hF
              obtain rfl := Option.some.inj hF
              exact J31 _ _ _ hP hD hS (lv_sub hl [0, 1, 2, 3, 4, 5, 6] rfl)
            · rw [if_pos c34] at hF
              refine lv_aload_n hx hb dX1_readReferences_145 rfl (lv_at hl 4 rfl) ?_
              refine va_get (D := D) (ci := 1) (v := va_re ad (y26.2 a 0)) (C := RX1) (T := TX1) (N := 22) hx hb hts (by decide +kernel) hown hK hP a (wld_o ct ad G y26 hc hk (by decide)) rfl 0 (by decide) (hts (.fieldLink RX1 12 "VideoSuite$Decoder" "reader" "LVideoSuite$Reader;") (by decide +kernel)) (fun _ h9 => h9) rfl dX1_readReferences_146 ?_
              refine lv_iconst (v := (4 : Int32)) hx hb dX1_readReferences_149 (by decide) ?_
              cases hF
          clear hF
          have hF := hy26
          clear hy26
          refine lv_icmp_gt (tgt := 145) hx hb dX1_readReferences_124 (by decide) (fun c35 => ?_) (fun c35 => ?_)
          · rw [if_pos c35] at hF
            refine lv_aload_n hx hb dX1_readReferences_145 rfl (lv_at hl 4 rfl) ?_
            refine va_get (D := D) (ci := 1) (v := va_re ad (y25.2.2 a 0)) (C := RX1) (T := TX1) (N := 22) hx hb hts (by decide +kernel) hown hK hP a (wld_o ct ad G y25.2 hc hk (by decide)) rfl 0 (by decide) (hts (.fieldLink RX1 12 "VideoSuite$Decoder" "reader" "LVideoSuite$Reader;") (by decide +kernel)) (fun _ h9 => h9) rfl dX1_readReferences_146 ?_
            refine lv_iconst (v := (4 : Int32)) hx hb dX1_readReferences_149 (by decide) ?_
            cases hF
          · rw [if_neg c35] at hF
            obtain rfl := Option.some.inj hF
            exact J26 _ _ _ hP hD hS (lv_sub hl [0, 1, 2, 3, 4, 5, 6] rfl)
        clear hF
        have hF := hy25
        clear hy25
        refine lv_if_ne (tgt := 101) hx hb dX1_readReferences_93 (by decide) (fun c36 => ?_) (fun c36 => ?_)
        · rw [if_neg c36] at hF
          refine lv_iconst (v := (0 : Int32)) hx hb dX1_readReferences_101 (by decide) ?_
          refine lv_goto (tgt := 118) hx hb dX1_readReferences_102 (by decide) ?_
          obtain rfl := Option.some.inj hF
          exact J25 _ _ _ hP hD hS (lv_sub hl [0, 1, 2, 3, 4, 5] rfl)
        · rw [if_pos c36] at hF
          refine lv_iload_n hx hb dX1_readReferences_96 rfl (lv_at hl 2 rfl) ?_
          refine lv_iconst (v := (1 : Int32)) hx hb dX1_readReferences_97 (by decide) ?_
          obtain ⟨y37, hy37, hF⟩ := bnd_some hF
          have J37 : ∀ (H : Heap) (locs : List Loc) (ls : Array Slot), va_P D classes (wld ct ad G y37.2) H → va_D A (wld ct ad G y37.2) → va_S A s.heap H locs → lv_has ls 7 [(5, .int s10.1), (4, .int y8), (3, .int x6), (0, .ref (ad a)), (1, .int p0), (2, .int p1)] → W p l e (headSpec wsX1_readReferences ({ frames := 2, cells := 0, slots := 0, locals := 59 })).room s m ([.ref (ad a), .int p0, .int p1] : List Value).toArray below meth c H locs 0 0 (MQ below (va_Qv (fun (_ : Unit) => True) (fun _ t => kE D ct ad G A y t) A) ([.ref (ad a), .int p0, .int p1] : List Value).toArray s 0 0 A) (F0 m 118 ls [.int y37.1]) := by
            intro H locs ls hP hD hS hl
            obtain rfl := Option.some.inj hF
            exact J25 _ _ _ hP hD hS (lv_sub hl [0, 1, 2, 3, 4, 5] rfl)
          clear hF
          have hF := hy37
          clear hy37
          refine lv_icmp_ge (tgt := 105) hx hb dX1_readReferences_98 (by decide) (fun c38 => ?_) (fun c38 => ?_)
          · rw [if_pos c38] at hF
            refine lv_aload_n hx hb dX1_readReferences_105 rfl (lv_at hl 3 rfl) ?_
            refine va_get (D := D) (ci := 1) (v := va_re ad (s10.2.2 a 0)) (C := RX1) (T := TX1) (N := 22) hx hb hts (by decide +kernel) hown hK hP a (wld_o ct ad G s10.2 hc hk (by decide)) rfl 0 (by decide) (hts (.fieldLink RX1 12 "VideoSuite$Decoder" "reader" "LVideoSuite$Reader;") (by decide +kernel)) (fun _ h9 => h9) rfl dX1_readReferences_106 ?_
            refine lv_bipush (v := (6 : Int32)) hx hb dX1_readReferences_109 (by decide) ?_
            refine lv_iconst (v := (2 : Int32)) hx hb dX1_readReferences_111 (by decide) ?_
            refine lv_lconst (v := (0 : Int64)) hx hb dX1_readReferences_112 rfl ?_
            refine lv_iload_n hx hb dX1_readReferences_113 rfl (lv_at hl 2 rfl) ?_
            refine lv_i2l (v := x6.toInt64) hx hb dX1_readReferences_114 rfl ?_
            obtain ⟨x39, ex39, hF⟩ := ltt_some hF
            refine lv_topl (fun zx39 ezx39 => ?_)
            obtain rfl : x39 = zx39 := ex39.trans ezx39.symm
            obtain ⟨b40, ho40, hc40, hk40, hF⟩ := dr_some hF
            refine W_st (st' := [.long x39, .long (0 : Int64), .int (2 : Int32), .int (6 : Int32), .ref (ad b40)]) (by rw [va_some ho40]) ?_
            obtain ⟨y41, hy41, hF⟩ := bnd_some hF
            have hf9 := wA_in hD hA9 hS
            refine va_calli (va_runV (As := [.int (6 : Int32), .int (2 : Int32), .long (0 : Int64), .long x39]) (rest := []) ⟨hx, hb, hml, hown, hts⟩ (kX5_number l D ct ad Z G s10.2 H.size b40 ((6 : Int32)) ((2 : Int32)) ((0 : Int64)) x39 y41 hc40 hk40 hy41) (cwV 4 hts gX1_readReferences_X5_number rfl rfl rfl (by decide +kernel) ⟨Nat.le_of_ble_eq_true rfl, Nat.le_of_ble_eq_true rfl⟩) ⟨fun a U g mk q => by obtain ⟨q0, q1, qP, qK, qD, qZ, qN⟩ := q; exact ⟨q0, q1, qP, va_K.moved (u := U) (U := U.calling g mk a) (Vm.Alike.refl U.vm) qK, qD, sF.moved (u := U) (U := U.calling g mk a) (Vm.Alike.refl U.vm) qZ, nF.same rfl qN⟩, va_recv hK hP (ci := 5) (q0 := b40) rfl (wld_o ct ad G s10.2 hc40 hk40 (by decide)), fun U hU hW => ⟨rfl, by rw [hU], by rw [hU]; exact hP, va_K.moved hW.alike hK, hD.weaken (fun _ _ _ _ => trivial), by rw [hU]; exact ((hZ.kept hS.2.1).narrow hf9).moved hW.alike, hN.warm hW⟩⟩ rfl rfl hl.1 rfl (lv_room (Nat.le_of_ble_eq_true rfl)) dX1_readReferences_115 ⟨(Nat.zero_le _), (Nat.zero_le _)⟩) hS (fun q _ h => hf9 q h) hf9 (fun r u t H locs ht hvm hw hB hz1 hk1 hS => ?_)
            obtain ⟨hP, hK9, hD9⟩ := hB
            rw [ht] at hP
            try dsimp only at hw
            subst hw
            have hD := hD9.weaken (fun _ q _ h => hf9 q.1 h)
            obtain rfl := Option.some.inj hF
            exact J37 _ _ _ hP hD hS (lv_sub hl [0, 1, 2, 3, 4, 5] rfl)
          · rw [if_neg c38] at hF
            refine lv_iconst (v := (0 : Int32)) hx hb dX1_readReferences_101 (by decide) ?_
            refine lv_goto (tgt := 118) hx hb dX1_readReferences_102 (by decide) ?_
            obtain rfl := Option.some.inj hF
            exact J37 _ _ _ hP hD hS (lv_sub hl [0, 1, 2, 3, 4, 5] rfl)
      · rw [if_pos c24] at hF
        refine lv_goto (tgt := 166) hx hb dX1_readReferences_88 (by decide) ?_
        obtain rfl := Option.some.inj hF
        exact J22 _ _ _ hP hD hS (lv_sub hl [0, 1, 2, 3, 4, 5] rfl)
  clear hF
  have hF := hy8
  clear hy8
  refine lv_if_ne (tgt := 49) hx hb dX1_readReferences_24 (by decide) (fun c42 => ?_) (fun c42 => ?_)
  · rw [if_neg c42] at hF
    refine lv_iconst (v := (0 : Int32)) hx hb dX1_readReferences_49 (by decide) ?_
    obtain rfl := Option.some.inj hF
    exact J8 _ _ _ hP hD hS (lv_sub hl [0, 1, 2, 3] rfl)
  · rw [if_pos c42] at hF
    refine lv_aload_n hx hb dX1_readReferences_27 rfl (lv_at hl 1 rfl) ?_
    refine va_get (D := D) (ci := 1) (v := va_re ad (M.2 a 2)) (C := RX1) (T := TX1) (N := 22) hx hb hts (by decide +kernel) hown hK hP a (wld_o ct ad G M hc hk (by decide)) rfl 2 (by decide) (hts (.fieldLink RX1 28 "VideoSuite$Decoder" "work" "LVideoSuite$Work;") (by decide +kernel)) (fun _ h9 => h9) rfl dX1_readReferences_28 ?_
    obtain ⟨b43, ho43, hc43, hk43, hF⟩ := dr_some hF
    refine W_st (st' := [.ref (ad b43)]) (by rw [va_some ho43]) ?_
    refine va_get (D := D) (ci := 9) (v := va_re ad (M.2 b43 6)) (C := RX9) (T := TX9) (N := 20) hx hb hts (by decide +kernel) hown hK hP b43 (wld_o ct ad G M hc43 hk43 (by decide)) rfl 6 (by decide) (hts (.fieldLink RX1 355 "VideoSuite$Work" "info" "[I") (by decide +kernel)) (fun _ h9 => h9) rfl dX1_readReferences_31 ?_
    refine lv_bipush (v := (8 : Int32)) hx hb dX1_readReferences_34 (by decide) ?_
    refine lv_iload_n hx hb dX1_readReferences_36 rfl (lv_at hl 2 rfl) ?_
    refine lv_imul hx hb dX1_readReferences_37 ?_
    obtain ⟨x44, ex44, hF⟩ := ltt_some hF
    refine lv_topi (fun zx44 ezx44 => ?_)
    obtain rfl : x44 = zx44 := ex44.trans ezx44.symm
    refine lv_iconst (v := (1 : Int32)) hx hb dX1_readReferences_38 (by decide) ?_
    refine lv_iadd hx hb dX1_readReferences_39 ?_
    obtain ⟨x45, ex45, hF⟩ := ltt_some hF
    refine lv_topi (fun zx45 ezx45 => ?_)
    obtain rfl : x45 = zx45 := ex45.trans ezx45.symm
    obtain ⟨b46, ho46, hc46, hk46, hF⟩ := dr_some hF
    refine W_st (st' := [.int x45, .ref (ad b46)]) (by rw [va_some ho46]) ?_
    obtain ⟨hvc, hF⟩ := chk_some hF
    refine va_iald hx hb hK hP b46 1 (wld_i ct ad G M hc46 hk46) rfl hvc dX1_readReferences_40 ?_
    obtain ⟨x47, ex47, hF⟩ := ltt_some hF
    refine lv_topi (fun zx47 ezx47 => ?_)
    obtain rfl : x47 = zx47 := ex47.trans ezx47.symm
    refine lv_iconst (v := (4 : Int32)) hx hb dX1_readReferences_41 (by decide) ?_
    obtain ⟨y48, hy48, hF⟩ := bnd_some hF
    have J48 : ∀ (H : Heap) (locs : List Loc) (ls : Array Slot), va_P D classes (wld ct ad G M) H → va_D A (wld ct ad G M) → va_S A s.heap H locs → lv_has ls 7 [(3, .int x6), (0, .ref (ad a)), (1, .int p0), (2, .int p1)] → W p l e (headSpec wsX1_readReferences ({ frames := 2, cells := 0, slots := 0, locals := 59 })).room s m ([.ref (ad a), .int p0, .int p1] : List Value).toArray below meth c H locs 0 0 (MQ below (va_Qv (fun (_ : Unit) => True) (fun _ t => kE D ct ad G A y t) A) ([.ref (ad a), .int p0, .int p1] : List Value).toArray s 0 0 A) (F0 m 50 ls [.int y48]) := by
      intro H locs ls hP hD hS hl
      obtain rfl := Option.some.inj hF
      exact J8 _ _ _ hP hD hS (lv_sub hl [0, 1, 2, 3] rfl)
    clear hF
    have hF := hy48
    clear hy48
    refine lv_icmp_ne (tgt := 49) hx hb dX1_readReferences_42 (by decide) (fun c49 => ?_) (fun c49 => ?_)
    · rw [if_neg c49] at hF
      refine lv_iconst (v := (0 : Int32)) hx hb dX1_readReferences_49 (by decide) ?_
      obtain rfl := Option.some.inj hF
      exact J48 _ _ _ hP hD hS (lv_sub hl [0, 1, 2, 3] rfl)
    · rw [if_pos c49] at hF
      refine lv_iconst (v := (1 : Int32)) hx hb dX1_readReferences_45 (by decide) ?_
      refine lv_goto (tgt := 50) hx hb dX1_readReferences_46 (by decide) ?_
      obtain rfl := Option.some.inj hF
      exact J48 _ _ _ hP hD hS (lv_sub hl [0, 1, 2, 3] rfl)
theorem ggX1_readSixteen_X9_sides : GoodIn wsX1_readSixteen wsX9_sides := goodIn_r _ [9, 10, 11, 12, 8, 13, 14, 15, 16, 17, 18, 19, 20, 21, 22, 107, 108, 109, 110, 111, 112, 113, 114, 115, 116, 117, 118, 119, 120, 121, 122, 123, 124, 125, 126, 127, 128, 129, 130, 131, 132, 133, 134, 135, 136, 137, 138, 139, 140, 141, 142, 143, 144] (by decide +kernel) (by decide +kernel)
set_option maxRecDepth 20000 in
theorem gX1_readSixteen_X9_sides : GoodIn wsX1_readSixteen (wsV RX1 416 RX9 yX9_sides wsX9_sides) := goodIn_app (goodIn_of _ (by decide +kernel)) ggX1_readSixteen_X9_sides
set_option maxRecDepth 20000 in
theorem ggX1_readSixteen_X9_mayBeSixteen : GoodIn wsX1_readSixteen wsX9_mayBeSixteen := goodIn_r _ [25] (by decide +kernel) (by decide +kernel)
set_option maxRecDepth 20000 in
theorem gX1_readSixteen_X9_mayBeSixteen : GoodIn wsX1_readSixteen (va_wsS RX1 419 yX9_mayBeSixteen wsX9_mayBeSixteen) := goodIn_app (goodIn_of _ (by decide +kernel)) ggX1_readSixteen_X9_mayBeSixteen
set_option maxRecDepth 20000 in
theorem ggX1_readSixteen_J7_fill_fda19 : GoodIn wsX1_readSixteen wsJ7_fill_fda19 := goodIn_r _ [45, 46, 47, 44, 48, 49, 50, 51, 162, 163, 164, 165] (by decide +kernel) (by decide +kernel)
set_option maxRecDepth 20000 in
theorem gX1_readSixteen_J7_fill_fda19 : GoodIn wsX1_readSixteen (va_wsS RX1 425 yJ7_fill_fda19 wsJ7_fill_fda19) := goodIn_app (goodIn_of _ (by decide +kernel)) ggX1_readSixteen_J7_fill_fda19
set_option maxRecDepth 20000 in
theorem ggX1_readSixteen_X1_readColours : GoodIn wsX1_readSixteen wsX1_readColours := goodIn_ca (goodIn_r _ [56, 3, 57, 1, 2, 58, 59, 60, 29, 61, 40, 62, 63, 64, 65, 66, 67, 36, 37, 68, 69, 70, 71, 72, 73, 74, 38, 39, 41, 75, 32, 33, 34, 35, 76, 77, 78, 79, 31, 80, 81, 82, 83, 8, 84, 26, 27, 28, 30, 85, 86, 87, 88, 89, 90, 91, 92, 93, 94, 95, 96, 97, 98, 99, 100, 101, 102, 103, 104, 105, 106, 107, 108, 109, 110, 111, 112, 113, 114, 115, 116, 117, 118, 119, 120, 121, 122, 123, 124, 125, 126, 145, 146, 147, 148, 149, 150, 151, 152, 153, 154, 155, 156, 157, 158, 159, 160, 161] (by decide +kernel) (by decide +kernel)) (goodIn_sub (fun _ h => List.mem_cons_of_mem _ (List.mem_append_right _ h)) (by decide +kernel))
set_option maxRecDepth 20000 in
theorem gX1_readSixteen_X1_readColours : GoodIn wsX1_readSixteen (wsV RX1 428 RX1 yX1_readColours wsX1_readColours) := goodIn_app (goodIn_of _ (by decide +kernel)) ggX1_readSixteen_X1_readColours
theorem dX1_readSixteen_0 : decode cX1_readSixteen 0 = .ok (.aload_n 0, 1) := by decide +kernel
theorem dX1_readSixteen_1 : decode cX1_readSixteen 1 = .ok (.getfield 28, 3) := by decide +kernel
theorem dX1_readSixteen_4 : decode cX1_readSixteen 4 = .ok (.iload_n 1, 1) := by decide +kernel
theorem dX1_readSixteen_5 : decode cX1_readSixteen 5 = .ok (.invokevirtual 416, 3) := by decide +kernel
theorem dX1_readSixteen_8 : decode cX1_readSixteen 8 = .ok (.istore_n 3, 1) := by decide +kernel
theorem dX1_readSixteen_9 : decode cX1_readSixteen 9 = .ok (.aload_n 0, 1) := by decide +kernel
theorem dX1_readSixteen_10 : decode cX1_readSixteen 10 = .ok (.getfield 28, 3) := by decide +kernel
theorem dX1_readSixteen_13 : decode cX1_readSixteen 13 = .ok (.getfield 355, 3) := by decide +kernel
theorem dX1_readSixteen_16 : decode cX1_readSixteen 16 = .ok (.bipush 8, 2) := by decide +kernel
theorem dX1_readSixteen_18 : decode cX1_readSixteen 18 = .ok (.iload_n 1, 1) := by decide +kernel
theorem dX1_readSixteen_19 : decode cX1_readSixteen 19 = .ok (.imul, 1) := by decide +kernel
theorem dX1_readSixteen_20 : decode cX1_readSixteen 20 = .ok (.iconst 0, 1) := by decide +kernel
theorem dX1_readSixteen_21 : decode cX1_readSixteen 21 = .ok (.iadd, 1) := by decide +kernel
theorem dX1_readSixteen_22 : decode cX1_readSixteen 22 = .ok (.iconst 1, 1) := by decide +kernel
theorem dX1_readSixteen_23 : decode cX1_readSixteen 23 = .ok (.iastore, 1) := by decide +kernel
theorem dX1_readSixteen_24 : decode cX1_readSixteen 24 = .ok (.aload_n 0, 1) := by decide +kernel
theorem dX1_readSixteen_25 : decode cX1_readSixteen 25 = .ok (.getfield 28, 3) := by decide +kernel
theorem dX1_readSixteen_28 : decode cX1_readSixteen 28 = .ok (.getfield 355, 3) := by decide +kernel
theorem dX1_readSixteen_31 : decode cX1_readSixteen 31 = .ok (.bipush 8, 2) := by decide +kernel
theorem dX1_readSixteen_33 : decode cX1_readSixteen 33 = .ok (.iload_n 1, 1) := by decide +kernel
theorem dX1_readSixteen_34 : decode cX1_readSixteen 34 = .ok (.imul, 1) := by decide +kernel
theorem dX1_readSixteen_35 : decode cX1_readSixteen 35 = .ok (.iconst 3, 1) := by decide +kernel
theorem dX1_readSixteen_36 : decode cX1_readSixteen 36 = .ok (.iadd, 1) := by decide +kernel
theorem dX1_readSixteen_37 : decode cX1_readSixteen 37 = .ok (.iload_n 2, 1) := by decide +kernel
theorem dX1_readSixteen_38 : decode cX1_readSixteen 38 = .ok (.bipush 11, 2) := by decide +kernel
theorem dX1_readSixteen_40 : decode cX1_readSixteen 40 = .ok (.if_icmp .le 8, 3) := by decide +kernel
theorem dX1_readSixteen_43 : decode cX1_readSixteen 43 = .ok (.bipush 15, 2) := by decide +kernel
theorem dX1_readSixteen_45 : decode cX1_readSixteen 45 = .ok (.goto 4, 3) := by decide +kernel
theorem dX1_readSixteen_48 : decode cX1_readSixteen 48 = .ok (.iconst 0, 1) := by decide +kernel
theorem dX1_readSixteen_49 : decode cX1_readSixteen 49 = .ok (.iastore, 1) := by decide +kernel
theorem dX1_readSixteen_50 : decode cX1_readSixteen 50 = .ok (.aload_n 0, 1) := by decide +kernel
theorem dX1_readSixteen_51 : decode cX1_readSixteen 51 = .ok (.getfield 28, 3) := by decide +kernel
theorem dX1_readSixteen_54 : decode cX1_readSixteen 54 = .ok (.getfield 355, 3) := by decide +kernel
theorem dX1_readSixteen_57 : decode cX1_readSixteen 57 = .ok (.bipush 8, 2) := by decide +kernel
theorem dX1_readSixteen_59 : decode cX1_readSixteen 59 = .ok (.iload_n 1, 1) := by decide +kernel
theorem dX1_readSixteen_60 : decode cX1_readSixteen 60 = .ok (.imul, 1) := by decide +kernel
theorem dX1_readSixteen_61 : decode cX1_readSixteen 61 = .ok (.iconst 4, 1) := by decide +kernel
theorem dX1_readSixteen_62 : decode cX1_readSixteen 62 = .ok (.iadd, 1) := by decide +kernel
theorem dX1_readSixteen_63 : decode cX1_readSixteen 63 = .ok (.iload_n 2, 1) := by decide +kernel
theorem dX1_readSixteen_64 : decode cX1_readSixteen 64 = .ok (.iconst 4, 1) := by decide +kernel
theorem dX1_readSixteen_65 : decode cX1_readSixteen 65 = .ok (.idiv, 1) := by decide +kernel
theorem dX1_readSixteen_66 : decode cX1_readSixteen 66 = .ok (.iconst 3, 1) := by decide +kernel
theorem dX1_readSixteen_67 : decode cX1_readSixteen 67 = .ok (.irem, 1) := by decide +kernel
theorem dX1_readSixteen_68 : decode cX1_readSixteen 68 = .ok (.iastore, 1) := by decide +kernel
theorem dX1_readSixteen_69 : decode cX1_readSixteen 69 = .ok (.iload_n 2, 1) := by decide +kernel
theorem dX1_readSixteen_70 : decode cX1_readSixteen 70 = .ok (.iconst 4, 1) := by decide +kernel
theorem dX1_readSixteen_71 : decode cX1_readSixteen 71 = .ok (.irem, 1) := by decide +kernel
theorem dX1_readSixteen_72 : decode cX1_readSixteen 72 = .ok (.iload_n 3, 1) := by decide +kernel
theorem dX1_readSixteen_73 : decode cX1_readSixteen 73 = .ok (.invokestatic 419, 3) := by decide +kernel
theorem dX1_readSixteen_76 : decode cX1_readSixteen 76 = .ok (.ifCond .ne 11, 3) := by decide +kernel
theorem dX1_readSixteen_79 : decode cX1_readSixteen 79 = .ok (.aload_n 0, 1) := by decide +kernel
theorem dX1_readSixteen_80 : decode cX1_readSixteen 80 = .ok (.getfield 12, 3) := by decide +kernel
theorem dX1_readSixteen_83 : decode cX1_readSixteen 83 = .ok (.iconst 4, 1) := by decide +kernel
theorem dX1_readSixteen_84 : decode cX1_readSixteen 84 = .ok (.invokevirtual 325, 3) := by decide +kernel
theorem dX1_readSixteen_87 : decode cX1_readSixteen 87 = .ok (.aload_n 0, 1) := by decide +kernel
theorem dX1_readSixteen_88 : decode cX1_readSixteen 88 = .ok (.getfield 28, 3) := by decide +kernel
theorem dX1_readSixteen_91 : decode cX1_readSixteen 91 = .ok (.getfield 422, 3) := by decide +kernel
theorem dX1_readSixteen_94 : decode cX1_readSixteen 94 = .ok (.bipush 16, 2) := by decide +kernel
theorem dX1_readSixteen_96 : decode cX1_readSixteen 96 = .ok (.iload_n 1, 1) := by decide +kernel
theorem dX1_readSixteen_97 : decode cX1_readSixteen 97 = .ok (.imul, 1) := by decide +kernel
theorem dX1_readSixteen_98 : decode cX1_readSixteen 98 = .ok (.bipush 16, 2) := by decide +kernel
theorem dX1_readSixteen_100 : decode cX1_readSixteen 100 = .ok (.iload_n 1, 1) := by decide +kernel
theorem dX1_readSixteen_101 : decode cX1_readSixteen 101 = .ok (.imul, 1) := by decide +kernel
theorem dX1_readSixteen_102 : decode cX1_readSixteen 102 = .ok (.bipush 16, 2) := by decide +kernel
theorem dX1_readSixteen_104 : decode cX1_readSixteen 104 = .ok (.iadd, 1) := by decide +kernel
theorem dX1_readSixteen_105 : decode cX1_readSixteen 105 = .ok (.iload_n 2, 1) := by decide +kernel
theorem dX1_readSixteen_106 : decode cX1_readSixteen 106 = .ok (.iconst 4, 1) := by decide +kernel
theorem dX1_readSixteen_107 : decode cX1_readSixteen 107 = .ok (.irem, 1) := by decide +kernel
theorem dX1_readSixteen_108 : decode cX1_readSixteen 108 = .ok (.invokestatic 425, 3) := by decide +kernel
theorem dX1_readSixteen_111 : decode cX1_readSixteen 111 = .ok (.aload_n 0, 1) := by decide +kernel
theorem dX1_readSixteen_112 : decode cX1_readSixteen 112 = .ok (.iload_n 1, 1) := by decide +kernel
theorem dX1_readSixteen_113 : decode cX1_readSixteen 113 = .ok (.iload_n 3, 1) := by decide +kernel
theorem dX1_readSixteen_114 : decode cX1_readSixteen 114 = .ok (.invokevirtual 428, 3) := by decide +kernel
theorem dX1_readSixteen_117 : decode cX1_readSixteen 117 = .ok (.return_, 1) := by decide +kernel
def FX1_readSixteen (G : GG) (M : DD) (a : Nat) (p0 : Int32) (p1 : Int32) : Option (DD) :=
  dr G 9 ((M.2 a 2)) fun b2 =>
  bnd (FX9_sides G M b2 p0) fun y3 =>
  dr G 9 ((y3.1.2 a 2)) fun b4 =>
  ltt ((((8 : Int32)) * p0)) fun x5 =>
  ltt ((x5 + ((0 : Int32)))) fun x6 =>
  dr G 13 ((y3.1.2 b4 6)) fun b7 =>
  chk (¬ (x6 < 0 ∨ G.2.2 b7 ≤ x6.toNatClampNeg)) <|
  ltt (uI y3.1 b7 x6.toNatClampNeg ((1 : Int32))) fun M8 =>
  dr G 9 ((M8.2 a 2)) fun b9 =>
  ltt ((((8 : Int32)) * p0)) fun x10 =>
  ltt ((x10 + ((3 : Int32)))) fun x11 =>
  bnd (if p1 ≤ ((11 : Int32)) then (some ((0 : Int32))) else
  (some ((15 : Int32)))) fun (y12 : Int32) =>
  dr G 13 ((M8.2 b9 6)) fun b13 =>
  chk (¬ (x11 < 0 ∨ G.2.2 b13 ≤ x11.toNatClampNeg)) <|
  ltt (uI M8 b13 x11.toNatClampNeg y12) fun M14 =>
  dr G 9 ((M14.2 a 2)) fun b15 =>
  ltt ((((8 : Int32)) * p0)) fun x16 =>
  ltt ((x16 + ((4 : Int32)))) fun x17 =>
  ltt (p1 / ((4 : Int32))) fun x18 =>
  ltt (x18 - x18 / ((3 : Int32)) * ((3 : Int32))) fun x19 =>
  dr G 13 ((M14.2 b15 6)) fun b20 =>
  chk (¬ (x17 < 0 ∨ G.2.2 b20 ≤ x17.toNatClampNeg)) <|
  ltt (uI M14 b20 x17.toNatClampNeg x19) fun M21 =>
  ltt (p1 - p1 / ((4 : Int32)) * ((4 : Int32))) fun x22 =>
  bnd (FX9_mayBeSixteen G M21 x22 y3.2) fun y23 =>
  bnd (if y23.2 = ((0 : Int32)) then (none) else
  (some (y23.1))) fun (y24 : DD) =>
  dr G 9 ((y24.2 a 2)) fun b25 =>
  ltt ((((16 : Int32)) * p0)) fun x26 =>
  ltt ((((16 : Int32)) * p0)) fun x27 =>
  ltt ((x27 + ((16 : Int32)))) fun x28 =>
  ltt (p1 - p1 / ((4 : Int32)) * ((4 : Int32))) fun x29 =>
  bnd (FJ7_fill_fda19 G y24 ((y24.2 b25 7)) x26 x28 x29) fun y30 =>
  bnd (FX1_readColours G y30 a p0 y3.2) fun y31 =>
  some y31
set_option maxHeartbeats 4000000 in
set_option maxRecDepth 100000 in
theorem kX1_readSixteen (l : Launch) (D : va_G) (ct : CT) (ad : Nat → Nat) (Z : Nat → Nat) (G : GG) (M : DD) (sz : Nat) (a : Nat) (p0 : Int32) (p1 : Int32) (y : DD) (hc : a < G.1) (hk : G.2.1 a = 1) (hF : FX1_readSixteen G M a p0 p1 = some y) : Met l yX1_readSixteen wsX1_readSixteen ({ frames := 3, cells := 0, slots := 0, locals := 82 }) (va_Pc [.ref (ad a), .int p0, .int p1] (kB D ct ad Z G M sz)) (va_Qv (fun (_ : Unit) => True) (fun _ t => kE D ct ad G (wA ad G sz) y t) (wA ad G sz)) 0 0 (wA ad G sz) := by
  refine Met.ofW (cc := cX1_readSixteen) (maxL := 4) (ret := none) (by decide) rfl ?_
  intro p e s m args below meth c s₁ B hml hv
  obtain ⟨rfl, hsz, hP, hK, hD0, hZ, hN⟩ := hv
  have hx := B.exec
  have hb := B.bytes
  have hr := B.returns
  have hts := atoms_spec (ws := wsX1_readSixteen) B.pre
  have hown : s.vm.findClass RX1 = some m.cls := findClass_of_methodNamed B.named
  have hlocks := B.notSynchronized
  subst hsz
  have hD := wD_self (sz := s.heap.size) hD0
  have hA9 : ∀ q, s.heap.size ≤ q → wA ad G s.heap.size q := fun q h => Or.inr h
  generalize hAe : wA ad G s.heap.size = A at hD hA9 hZ ⊢
  have hS : va_S A s.heap s.heap [] := va_S.rf
  have hl := lv_entry ([.ref (ad a), .int p0, .int p1]) (n := 4) (Nat.le_of_ble_eq_true rfl)
  rw [lg_entry_eq]
  generalize (lg_sl ([.ref (ad a), .int p0, .int p1]) ++ List.replicate (4 - (lg_sl ([.ref (ad a), .int p0, .int p1])).length) Slot.unset).toArray = ls at hl ⊢
  have hl : lv_has ls 4 [(0, .ref (ad a)), (1, .int p0), (2, .int p1)] := hl
  unfold FX1_readSixteen at hF
  refine lv_aload_n hx hb dX1_readSixteen_0 rfl (lv_at hl 0 rfl) ?_
  refine va_get (D := D) (ci := 1) (v := va_re ad (M.2 a 2)) (C := RX1) (T := TX1) (N := 22) hx hb hts (by decide +kernel) hown hK hP a (wld_o ct ad G M hc hk (by decide)) rfl 2 (by decide) (hts (.fieldLink RX1 28 "VideoSuite$Decoder" "work" "LVideoSuite$Work;") (by decide +kernel)) (fun _ h9 => h9) rfl dX1_readSixteen_1 ?_
  refine lv_iload_n hx hb dX1_readSixteen_4 rfl (lv_at hl 1 rfl) ?_
  obtain ⟨b2, ho2, hc2, hk2, hF⟩ := dr_some hF
  refine W_st (st' := [.int p0, .ref (ad b2)]) (by rw [va_some ho2]) ?_
  obtain ⟨y3, hy3, hF⟩ := bnd_some hF
  have hf9 := wA_in hD hA9 hS
  refine va_calli (va_runV (As := [.int p0]) (rest := []) ⟨hx, hb, hml, hown, hts⟩ (kX9_sides l D ct ad Z G M s.heap.size b2 p0 y3 hc2 hk2 hy3) (cwV 1 hts gX1_readSixteen_X9_sides rfl rfl rfl (by decide +kernel) ⟨Nat.le_of_ble_eq_true rfl, Nat.le_of_ble_eq_true rfl⟩) ⟨fun a U g mk q => by obtain ⟨q0, q1, qP, qK, qD, qZ, qN⟩ := q; exact ⟨q0, q1, qP, va_K.moved (u := U) (U := U.calling g mk a) (Vm.Alike.refl U.vm) qK, qD, sF.moved (u := U) (U := U.calling g mk a) (Vm.Alike.refl U.vm) qZ, nF.same rfl qN⟩, va_recv hK hP (ci := 9) (q0 := b2) rfl (wld_o ct ad G M hc2 hk2 (by decide)), fun U hU hW => ⟨rfl, by rw [hU], by rw [hU]; exact hP, va_K.moved hW.alike hK, hD.weaken (fun _ _ _ _ => trivial), by rw [hU]; exact ((hZ.kept hS.2.1).narrow hf9).moved hW.alike, hN.warm hW⟩⟩ rfl rfl hl.1 rfl (lv_room (Nat.le_of_ble_eq_true rfl)) dX1_readSixteen_5 ⟨(Nat.zero_le _), (Nat.zero_le _)⟩) hS (fun q _ h => hf9 q h) hf9 (fun r u t H locs ht hvm hw hB hz1 hk1 hS => ?_)
  obtain ⟨hP, hK9, hD9⟩ := hB
  rw [ht] at hP
  try dsimp only at hw
  subst hw
  have hD := hD9.weaken (fun _ q _ h => hf9 q.1 h)
  refine lv_istore_n (lv' := [(3, .int y3.2), (0, .ref (ad a)), (1, .int p0), (2, .int p1)]) hx hb dX1_readSixteen_8 rfl hl (by decide) rfl (fun ls hl => ?_)
  refine lv_aload_n hx hb dX1_readSixteen_9 rfl (lv_at hl 1 rfl) ?_
  refine va_get (D := D) (ci := 1) (v := va_re ad (y3.1.2 a 2)) (C := RX1) (T := TX1) (N := 22) hx hb hts (by decide +kernel) hown hK hP a (wld_o ct ad G y3.1 hc hk (by decide)) rfl 2 (by decide) (hts (.fieldLink RX1 28 "VideoSuite$Decoder" "work" "LVideoSuite$Work;") (by decide +kernel)) (fun _ h9 => h9) rfl dX1_readSixteen_10 ?_
  obtain ⟨b4, ho4, hc4, hk4, hF⟩ := dr_some hF
  refine W_st (st' := [.ref (ad b4)]) (by rw [va_some ho4]) ?_
  refine va_get (D := D) (ci := 9) (v := va_re ad (y3.1.2 b4 6)) (C := RX9) (T := TX9) (N := 20) hx hb hts (by decide +kernel) hown hK hP b4 (wld_o ct ad G y3.1 hc4 hk4 (by decide)) rfl 6 (by decide) (hts (.fieldLink RX1 355 "VideoSuite$Work" "info" "[I") (by decide +kernel)) (fun _ h9 => h9) rfl dX1_readSixteen_13 ?_
  refine lv_bipush (v := (8 : Int32)) hx hb dX1_readSixteen_16 (by decide) ?_
  refine lv_iload_n hx hb dX1_readSixteen_18 rfl (lv_at hl 2 rfl) ?_
  refine lv_imul hx hb dX1_readSixteen_19 ?_
  obtain ⟨x5, ex5, hF⟩ := ltt_some hF
  refine lv_topi (fun zx5 ezx5 => ?_)
  obtain rfl : x5 = zx5 := ex5.trans ezx5.symm
  refine lv_iconst (v := (0 : Int32)) hx hb dX1_readSixteen_20 (by decide) ?_
  refine lv_iadd hx hb dX1_readSixteen_21 ?_
  obtain ⟨x6, ex6, hF⟩ := ltt_some hF
  refine lv_topi (fun zx6 ezx6 => ?_)
  obtain rfl : x6 = zx6 := ex6.trans ezx6.symm
  refine lv_iconst (v := (1 : Int32)) hx hb dX1_readSixteen_22 (by decide) ?_
  obtain ⟨b7, ho7, hc7, hk7, hF⟩ := dr_some hF
  refine W_st (st' := [.int (1 : Int32), .int x6, .ref (ad b7)]) (by rw [va_some ho7]) ?_
  obtain ⟨hvc, hF⟩ := chk_some hF
  refine va_iast hx hb hK hP hD hS b7 1 (wld_i ct ad G y3.1 hc7 hk7) rfl hvc dX1_readSixteen_23 (fun H locs hP hD hS => ?_)
  obtain ⟨M8, eM8, hF⟩ := ltt_some hF
  rw [set_i ct ad G y3.1 hc7 hk7, ← eM8] at hP hD
  refine lv_aload_n hx hb dX1_readSixteen_24 rfl (lv_at hl 1 rfl) ?_
  refine va_get (D := D) (ci := 1) (v := va_re ad (M8.2 a 2)) (C := RX1) (T := TX1) (N := 22) hx hb hts (by decide +kernel) hown hK hP a (wld_o ct ad G M8 hc hk (by decide)) rfl 2 (by decide) (hts (.fieldLink RX1 28 "VideoSuite$Decoder" "work" "LVideoSuite$Work;") (by decide +kernel)) (fun _ h9 => h9) rfl dX1_readSixteen_25 ?_
  obtain ⟨b9, ho9, hc9, hk9, hF⟩ := dr_some hF
  refine W_st (st' := [.ref (ad b9)]) (by rw [va_some ho9]) ?_
  refine va_get (D := D) (ci := 9) (v := va_re ad (M8.2 b9 6)) (C := RX9) (T := TX9) (N := 20) hx hb hts (by decide +kernel) hown hK hP b9 (wld_o ct ad G M8 hc9 hk9 (by decide)) rfl 6 (by decide) (hts (.fieldLink RX1 355 "VideoSuite$Work" "info" "[I") (by decide +kernel)) (fun _ h9 => h9) rfl dX1_readSixteen_28 ?_
  refine lv_bipush (v := (8 : Int32)) hx hb dX1_readSixteen_31 (by decide) ?_
  refine lv_iload_n hx hb dX1_readSixteen_33 rfl (lv_at hl 2 rfl) ?_
  refine lv_imul hx hb dX1_readSixteen_34 ?_
  obtain ⟨x10, ex10, hF⟩ := ltt_some hF
  refine lv_topi (fun zx10 ezx10 => ?_)
  obtain rfl : x10 = zx10 := ex10.trans ezx10.symm
  refine lv_iconst (v := (3 : Int32)) hx hb dX1_readSixteen_35 (by decide) ?_
  refine lv_iadd hx hb dX1_readSixteen_36 ?_
  obtain ⟨x11, ex11, hF⟩ := ltt_some hF
  refine lv_topi (fun zx11 ezx11 => ?_)
  obtain rfl : x11 = zx11 := ex11.trans ezx11.symm
  refine lv_iload_n hx hb dX1_readSixteen_37 rfl (lv_at hl 3 rfl) ?_
  refine lv_bipush (v := (11 : Int32)) hx hb dX1_readSixteen_38 (by decide) ?_
  obtain ⟨y12, hy12, hF⟩ := bnd_some hF
  have J12 : ∀ (H : Heap) (locs : List Loc) (ls : Array Slot), va_P D classes (wld ct ad G M8) H → va_D A (wld ct ad G M8) → va_S A s.heap H locs → lv_has ls 4 [(3, .int y3.2), (0, .ref (ad a)), (1, .int p0), (2, .int p1)] → W p l e (headSpec wsX1_readSixteen ({ frames := 3, cells := 0, slots := 0, locals := 82 })).room s m ([.ref (ad a), .int p0, .int p1] : List Value).toArray below meth c H locs 0 0 (MQ below (va_Qv (fun (_ : Unit) => True) (fun _ t => kE D ct ad G A y t) A) ([.ref (ad a), .int p0, .int p1] : List Value).toArray s 0 0 A) (F0 m 49 ls [.int y12, .int x11, va_re ad (M8.2 b9 6)]) := by
    intro H locs ls hP hD hS hl
    obtain ⟨b13, ho13, hc13, hk13, hF⟩ := dr_some hF
    refine W_st (st' := [.int y12, .int x11, .ref (ad b13)]) (by rw [va_some ho13]) ?_
    obtain ⟨hvc, hF⟩ := chk_some hF
    refine va_iast hx hb hK hP hD hS b13 1 (wld_i ct ad G M8 hc13 hk13) rfl hvc dX1_readSixteen_49 (fun H locs hP hD hS => ?_)
    obtain ⟨M14, eM14, hF⟩ := ltt_some hF
    rw [set_i ct ad G M8 hc13 hk13, ← eM14] at hP hD
    refine lv_aload_n hx hb dX1_readSixteen_50 rfl (lv_at hl 1 rfl) ?_
    refine va_get (D := D) (ci := 1) (v := va_re ad (M14.2 a 2)) (C := RX1) (T := TX1) (N := 22) hx hb hts (by decide +kernel) hown hK hP a (wld_o ct ad G M14 hc hk (by decide)) rfl 2 (by decide) (hts (.fieldLink RX1 28 "VideoSuite$Decoder" "work" "LVideoSuite$Work;") (by decide +kernel)) (fun _ h9 => h9) rfl dX1_readSixteen_51 ?_
    obtain ⟨b15, ho15, hc15, hk15, hF⟩ := dr_some hF
    refine W_st (st' := [.ref (ad b15)]) (by rw [va_some ho15]) ?_
    refine va_get (D := D) (ci := 9) (v := va_re ad (M14.2 b15 6)) (C := RX9) (T := TX9) (N := 20) hx hb hts (by decide +kernel) hown hK hP b15 (wld_o ct ad G M14 hc15 hk15 (by decide)) rfl 6 (by decide) (hts (.fieldLink RX1 355 "VideoSuite$Work" "info" "[I") (by decide +kernel)) (fun _ h9 => h9) rfl dX1_readSixteen_54 ?_
    refine lv_bipush (v := (8 : Int32)) hx hb dX1_readSixteen_57 (by decide) ?_
    refine lv_iload_n hx hb dX1_readSixteen_59 rfl (lv_at hl 2 rfl) ?_
    refine lv_imul hx hb dX1_readSixteen_60 ?_
    obtain ⟨x16, ex16, hF⟩ := ltt_some hF
    refine lv_topi (fun zx16 ezx16 => ?_)
    obtain rfl : x16 = zx16 := ex16.trans ezx16.symm
    refine lv_iconst (v := (4 : Int32)) hx hb dX1_readSixteen_61 (by decide) ?_
    refine lv_iadd hx hb dX1_readSixteen_62 ?_
    obtain ⟨x17, ex17, hF⟩ := ltt_some hF
    refine lv_topi (fun zx17 ezx17 => ?_)
    obtain rfl : x17 = zx17 := ex17.trans ezx17.symm
    refine lv_iload_n hx hb dX1_readSixteen_63 rfl (lv_at hl 3 rfl) ?_
    refine lv_iconst (v := (4 : Int32)) hx hb dX1_readSixteen_64 (by decide) ?_
    refine lv_idiv hx hb dX1_readSixteen_65 (by decide) ?_
    obtain ⟨x18, ex18, hF⟩ := ltt_some hF
    refine lv_topi (fun zx18 ezx18 => ?_)
    obtain rfl : x18 = zx18 := ex18.trans ezx18.symm
    refine lv_iconst (v := (3 : Int32)) hx hb dX1_readSixteen_66 (by decide) ?_
    refine lv_irem hx hb dX1_readSixteen_67 (by decide) ?_
    obtain ⟨x19, ex19, hF⟩ := ltt_some hF
    refine lv_topi (fun zx19 ezx19 => ?_)
    obtain rfl : x19 = zx19 := ex19.trans ezx19.symm
    obtain ⟨b20, ho20, hc20, hk20, hF⟩ := dr_some hF
    refine W_st (st' := [.int x19, .int x17, .ref (ad b20)]) (by rw [va_some ho20]) ?_
    obtain ⟨hvc, hF⟩ := chk_some hF
    refine va_iast hx hb hK hP hD hS b20 1 (wld_i ct ad G M14 hc20 hk20) rfl hvc dX1_readSixteen_68 (fun H locs hP hD hS => ?_)
    obtain ⟨M21, eM21, hF⟩ := ltt_some hF
    rw [set_i ct ad G M14 hc20 hk20, ← eM21] at hP hD
    refine lv_iload_n hx hb dX1_readSixteen_69 rfl (lv_at hl 3 rfl) ?_
    refine lv_iconst (v := (4 : Int32)) hx hb dX1_readSixteen_70 (by decide) ?_
    refine lv_irem hx hb dX1_readSixteen_71 (by decide) ?_
    obtain ⟨x22, ex22, hF⟩ := ltt_some hF
    refine lv_topi (fun zx22 ezx22 => ?_)
    obtain rfl : x22 = zx22 := ex22.trans ezx22.symm
    refine lv_iload_n hx hb dX1_readSixteen_72 rfl (lv_at hl 0 rfl) ?_
    obtain ⟨y23, hy23, hF⟩ := bnd_some hF
    have hf9 := wA_in hD hA9 hS
    refine va_calli (va_runS (As := [.int x22, .int y3.2]) (rest := []) ⟨hx, hb, hml, hown, hts⟩ (kX9_mayBeSixteen l D ct ad Z G M21 H.size x22 y3.2 y23 hy23) (va_cwS 2 hts gX1_readSixteen_X9_mayBeSixteen rfl rfl rfl (by decide +kernel) ⟨Nat.le_of_ble_eq_true rfl, Nat.le_of_ble_eq_true rfl⟩) ⟨fun a U g mk q => by obtain ⟨q0, q1, qP, qK, qD, qZ, qN⟩ := q; exact ⟨q0, q1, qP, va_K.moved (u := U) (U := U.calling g mk a) (Vm.Alike.refl U.vm) qK, qD, sF.moved (u := U) (U := U.calling g mk a) (Vm.Alike.refl U.vm) qZ, nF.same rfl qN⟩, fun U hU hW => ⟨rfl, by rw [hU], by rw [hU]; exact hP, va_K.moved hW.alike hK, hD.weaken (fun _ _ _ _ => trivial), by rw [hU]; exact ((hZ.kept hS.2.1).narrow hf9).moved hW.alike, hN.warm hW⟩⟩ rfl rfl hl.1 rfl (lv_room (Nat.le_of_ble_eq_true rfl)) dX1_readSixteen_73 ⟨(Nat.zero_le _), (Nat.zero_le _)⟩) hS (fun q _ h => hf9 q h) hf9 (fun r u t H locs ht hvm hw hB hz1 hk1 hS => ?_)
    obtain ⟨hP, hK9, hD9⟩ := hB
    rw [ht] at hP
    try dsimp only at hw
    subst hw
    have hD := hD9.weaken (fun _ q _ h => hf9 q.1 h)
    obtain ⟨y24, hy24, hF⟩ := bnd_some hF
    have J24 : ∀ (H : Heap) (locs : List Loc) (ls : Array Slot), va_P D classes (wld ct ad G y24) H → va_D A (wld ct ad G y24) → va_S A s.heap H locs → lv_has ls 4 [(3, .int y3.2), (0, .ref (ad a)), (1, .int p0), (2, .int p1)] → W p l e (headSpec wsX1_readSixteen ({ frames := 3, cells := 0, slots := 0, locals := 82 })).room s m ([.ref (ad a), .int p0, .int p1] : List Value).toArray below meth c H locs 0 0 (MQ below (va_Qv (fun (_ : Unit) => True) (fun _ t => kE D ct ad G A y t) A) ([.ref (ad a), .int p0, .int p1] : List Value).toArray s 0 0 A) (F0 m 87 ls []) := by
      intro H locs ls hP hD hS hl
      refine lv_aload_n hx hb dX1_readSixteen_87 rfl (lv_at hl 1 rfl) ?_
      refine va_get (D := D) (ci := 1) (v := va_re ad (y24.2 a 2)) (C := RX1) (T := TX1) (N := 22) hx hb hts (by decide +kernel) hown hK hP a (wld_o ct ad G y24 hc hk (by decide)) rfl 2 (by decide) (hts (.fieldLink RX1 28 "VideoSuite$Decoder" "work" "LVideoSuite$Work;") (by decide +kernel)) (fun _ h9 => h9) rfl dX1_readSixteen_88 ?_
      obtain ⟨b25, ho25, hc25, hk25, hF⟩ := dr_some hF
      refine W_st (st' := [.ref (ad b25)]) (by rw [va_some ho25]) ?_
      refine va_get (D := D) (ci := 9) (v := va_re ad (y24.2 b25 7)) (C := RX9) (T := TX9) (N := 20) hx hb hts (by decide +kernel) hown hK hP b25 (wld_o ct ad G y24 hc25 hk25 (by decide)) rfl 7 (by decide) (hts (.fieldLink RX1 422 "VideoSuite$Work" "mode" "[I") (by decide +kernel)) (fun _ h9 => h9) rfl dX1_readSixteen_91 ?_
      refine lv_bipush (v := (16 : Int32)) hx hb dX1_readSixteen_94 (by decide) ?_
      refine lv_iload_n hx hb dX1_readSixteen_96 rfl (lv_at hl 2 rfl) ?_
      refine lv_imul hx hb dX1_readSixteen_97 ?_
      obtain ⟨x26, ex26, hF⟩ := ltt_some hF
      refine lv_topi (fun zx26 ezx26 => ?_)
      obtain rfl : x26 = zx26 := ex26.trans ezx26.symm
      refine lv_bipush (v := (16 : Int32)) hx hb dX1_readSixteen_98 (by decide) ?_
      refine lv_iload_n hx hb dX1_readSixteen_100 rfl (lv_at hl 2 rfl) ?_
      refine lv_imul hx hb dX1_readSixteen_101 ?_
      obtain ⟨x27, ex27, hF⟩ := ltt_some hF
      refine lv_topi (fun zx27 ezx27 => ?_)
      obtain rfl : x27 = zx27 := ex27.trans ezx27.symm
      refine lv_bipush (v := (16 : Int32)) hx hb dX1_readSixteen_102 (by decide) ?_
      refine lv_iadd hx hb dX1_readSixteen_104 ?_
      obtain ⟨x28, ex28, hF⟩ := ltt_some hF
      refine lv_topi (fun zx28 ezx28 => ?_)
      obtain rfl : x28 = zx28 := ex28.trans ezx28.symm
      refine lv_iload_n hx hb dX1_readSixteen_105 rfl (lv_at hl 3 rfl) ?_
      refine lv_iconst (v := (4 : Int32)) hx hb dX1_readSixteen_106 (by decide) ?_
      refine lv_irem hx hb dX1_readSixteen_107 (by decide) ?_
      obtain ⟨x29, ex29, hF⟩ := ltt_some hF
      refine lv_topi (fun zx29 ezx29 => ?_)
      obtain rfl : x29 = zx29 := ex29.trans ezx29.symm
      obtain ⟨y30, hy30, hF⟩ := bnd_some hF
      have hf9 := wA_in hD hA9 hS
      refine va_callv (va_runS (As := [va_re ad (y24.2 b25 7), .int x26, .int x28, .int x29]) (rest := []) ⟨hx, hb, hml, hown, hts⟩ (kJ7_fill_fda19 l D ct ad Z G y24 H.size ((y24.2 b25 7)) x26 x28 x29 y30 hy30) (va_cwS 4 hts gX1_readSixteen_J7_fill_fda19 rfl rfl rfl (by decide +kernel) ⟨Nat.le_of_ble_eq_true rfl, Nat.le_of_ble_eq_true rfl⟩) ⟨fun a U g mk q => by obtain ⟨q0, q1, qP, qK, qD, qZ, qN⟩ := q; exact ⟨q0, q1, qP, va_K.moved (u := U) (U := U.calling g mk a) (Vm.Alike.refl U.vm) qK, qD, sF.moved (u := U) (U := U.calling g mk a) (Vm.Alike.refl U.vm) qZ, nF.same rfl qN⟩, fun U hU hW => ⟨rfl, by rw [hU], by rw [hU]; exact hP, va_K.moved hW.alike hK, hD.weaken (fun _ _ _ _ => trivial), by rw [hU]; exact ((hZ.kept hS.2.1).narrow hf9).moved hW.alike, hN.warm hW⟩⟩ rfl rfl hl.1 rfl (lv_room (Nat.le_of_ble_eq_true rfl)) dX1_readSixteen_108 ⟨(Nat.zero_le _), (Nat.zero_le _)⟩) hS (fun q _ h => hf9 q h) hf9 (fun u t H locs ht hvm hw hB hz1 hk1 hS => ?_)
      obtain ⟨hP, hK9, hD9⟩ := hB
      rw [ht] at hP
      have hD := hD9.weaken (fun _ q _ h => hf9 q.1 h)
      refine lv_aload_n hx hb dX1_readSixteen_111 rfl (lv_at hl 1 rfl) ?_
      refine lv_iload_n hx hb dX1_readSixteen_112 rfl (lv_at hl 2 rfl) ?_
      refine lv_iload_n hx hb dX1_readSixteen_113 rfl (lv_at hl 0 rfl) ?_
      obtain ⟨y31, hy31, hF⟩ := bnd_some hF
      have hf9 := wA_in hD hA9 hS
      refine va_callv (va_runV (As := [.int p0, .int y3.2]) (rest := []) ⟨hx, hb, hml, hown, hts⟩ (kX1_readColours l D ct ad Z G y30 H.size a p0 y3.2 y31 hc hk hy31) (cwV 2 hts gX1_readSixteen_X1_readColours rfl rfl rfl (by decide +kernel) ⟨Nat.le_of_ble_eq_true rfl, Nat.le_of_ble_eq_true rfl⟩) ⟨fun a U g mk q => by obtain ⟨q0, q1, qP, qK, qD, qZ, qN⟩ := q; exact ⟨q0, q1, qP, va_K.moved (u := U) (U := U.calling g mk a) (Vm.Alike.refl U.vm) qK, qD, sF.moved (u := U) (U := U.calling g mk a) (Vm.Alike.refl U.vm) qZ, nF.same rfl qN⟩, va_recv hK hP (ci := 1) (q0 := a) rfl (wld_o ct ad G y30 hc hk (by decide)), fun U hU hW => ⟨rfl, by rw [hU], by rw [hU]; exact hP, va_K.moved hW.alike hK, hD.weaken (fun _ _ _ _ => trivial), by rw [hU]; exact ((hZ.kept hS.2.1).narrow hf9).moved hW.alike, hN.warm hW⟩⟩ rfl rfl hl.1 rfl (lv_room (Nat.le_of_ble_eq_true rfl)) dX1_readSixteen_114 ⟨(Nat.zero_le _), (Nat.zero_le _)⟩) hS (fun q _ h => hf9 q h) hf9 (fun u t H locs ht hvm hw hB hz1 hk1 hS => ?_)
      obtain ⟨hP, hK9, hD9⟩ := hB
      rw [ht] at hP
      have hD := hD9.weaken (fun _ q _ h => hf9 q.1 h)
      obtain rfl := Option.some.inj hF
      exact W.vret hx hb hr (fun t ht hW => ⟨⟨(), rfl, trivial, ⟨by rw [ht]; exact hP, va_K.moved hW.alike hK, hD⟩⟩, hS.F ht⟩) hS.2.2 dX1_readSixteen_117
    clear hF
    have hF := hy24
    clear hy24
    refine lv_if_ne (tgt := 87) hx hb dX1_readSixteen_76 (by decide) (fun c32 => ?_) (fun c32 => ?_)
    · rw [if_neg c32] at hF
      obtain rfl := Option.some.inj hF
      exact J24 _ _ _ hP hD hS (lv_sub hl [0, 1, 2, 3] rfl)
    · rw [if_pos c32] at hF
      refine lv_aload_n hx hb dX1_readSixteen_79 rfl (lv_at hl 1 rfl) ?_
      refine va_get (D := D) (ci := 1) (v := va_re ad (y23.1.2 a 0)) (C := RX1) (T := TX1) (N := 22) hx hb hts (by decide +kernel) hown hK hP a (wld_o ct ad G y23.1 hc hk (by decide)) rfl 0 (by decide) (hts (.fieldLink RX1 12 "VideoSuite$Decoder" "reader" "LVideoSuite$Reader;") (by decide +kernel)) (fun _ h9 => h9) rfl dX1_readSixteen_80 ?_
      refine lv_iconst (v := (4 : Int32)) hx hb dX1_readSixteen_83 (by decide) ?_
      cases hF
  clear hF
  have hF := hy12
  clear hy12
  refine lv_icmp_le (tgt := 48) hx hb dX1_readSixteen_40 (by decide) (fun c33 => ?_) (fun c33 => ?_)
  · rw [if_pos c33] at hF
    refine lv_iconst (v := (0 : Int32)) hx hb dX1_readSixteen_48 (by decide) ?_
    obtain rfl := Option.some.inj hF
    exact J12 _ _ _ hP hD hS (lv_sub hl [0, 1, 2, 3] rfl)
  · rw [if_neg c33] at hF
    refine lv_bipush (v := (15 : Int32)) hx hb dX1_readSixteen_43 (by decide) ?_
    refine lv_goto (tgt := 49) hx hb dX1_readSixteen_45 (by decide) ?_
    obtain rfl := Option.some.inj hF
    exact J12 _ _ _ hP hD hS (lv_sub hl [0, 1, 2, 3] rfl)
