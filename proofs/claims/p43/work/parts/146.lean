theorem ggX6_fillLuma_X9_pieceX : GoodIn wsX6_fillLuma wsX9_pieceX := goodIn_r _ [8] (by decide +kernel) (by decide +kernel)
set_option maxRecDepth 20000 in
theorem gX6_fillLuma_X9_pieceX : GoodIn wsX6_fillLuma (va_wsS RX6 76 yX9_pieceX wsX9_pieceX) := goodIn_app (goodIn_of _ (by decide +kernel)) ggX6_fillLuma_X9_pieceX
set_option maxRecDepth 20000 in
theorem ggX6_fillLuma_X9_pieceY : GoodIn wsX6_fillLuma wsX9_pieceY := goodIn_r _ [11] (by decide +kernel) (by decide +kernel)
set_option maxRecDepth 20000 in
theorem gX6_fillLuma_X9_pieceY : GoodIn wsX6_fillLuma (va_wsS RX6 80 yX9_pieceY wsX9_pieceY) := goodIn_app (goodIn_of _ (by decide +kernel)) ggX6_fillLuma_X9_pieceY
set_option maxRecDepth 20000 in
theorem ggX6_fillLuma_X9_levelAt : GoodIn wsX6_fillLuma wsX9_levelAt := goodIn_r _ [14] (by decide +kernel) (by decide +kernel)
set_option maxRecDepth 20000 in
theorem gX6_fillLuma_X9_levelAt : GoodIn wsX6_fillLuma (va_wsS RX6 237 yX9_levelAt wsX9_levelAt) := goodIn_app (goodIn_of _ (by decide +kernel)) ggX6_fillLuma_X9_levelAt
set_option maxRecDepth 20000 in
theorem ggX6_fillLuma_X6_unfold : GoodIn wsX6_fillLuma wsX6_unfold := goodIn_r _ [19, 20, 21, 22, 23, 24, 25, 26, 27, 28, 29, 18, 30, 81, 82, 83, 84, 85, 86, 87, 88, 89, 90, 91, 92, 93, 94] (by decide +kernel) (by decide +kernel)
set_option maxRecDepth 20000 in
theorem gX6_fillLuma_X6_unfold : GoodIn wsX6_fillLuma (wsV RX6 240 RX6 yX6_unfold wsX6_unfold) := goodIn_app (goodIn_of _ (by decide +kernel)) ggX6_fillLuma_X6_unfold
set_option maxRecDepth 20000 in
theorem ggX6_fillLuma_X6_lumaAt : GoodIn wsX6_fillLuma wsX6_lumaAt := goodIn_r _ [33, 4, 63, 64, 65, 66, 67, 68, 69, 70, 71, 72, 73, 74, 75, 76, 77, 78, 79, 80] (by decide +kernel) (by decide +kernel)
set_option maxRecDepth 20000 in
theorem gX6_fillLuma_X6_lumaAt : GoodIn wsX6_fillLuma (va_wsS RX6 175 yX6_lumaAt wsX6_lumaAt) := goodIn_app (goodIn_of _ (by decide +kernel)) ggX6_fillLuma_X6_lumaAt
set_option maxRecDepth 20000 in
theorem ggX6_fillLuma_X6_fillPiece : GoodIn wsX6_fillLuma wsX6_fillPiece := goodIn_r _ [37, 38, 20, 39, 40, 41, 18, 42, 81, 82, 83, 84, 85, 86, 87, 88, 89, 90, 91, 92, 93, 94] (by decide +kernel) (by decide +kernel)
set_option maxRecDepth 20000 in
theorem gX6_fillLuma_X6_fillPiece : GoodIn wsX6_fillLuma (wsV RX6 244 RX6 yX6_fillPiece wsX6_fillPiece) := goodIn_app (goodIn_of _ (by decide +kernel)) ggX6_fillLuma_X6_fillPiece
theorem dX6_fillLuma_0 : decode cX6_fillLuma 0 = .ok (.iload_n 3, 1) := by decide +kernel
theorem dX6_fillLuma_1 : decode cX6_fillLuma 1 = .ok (.invokestatic 76, 3) := by decide +kernel
theorem dX6_fillLuma_4 : decode cX6_fillLuma 4 = .ok (.istore 5, 2) := by decide +kernel
theorem dX6_fillLuma_6 : decode cX6_fillLuma 6 = .ok (.iload_n 3, 1) := by decide +kernel
theorem dX6_fillLuma_7 : decode cX6_fillLuma 7 = .ok (.invokestatic 80, 3) := by decide +kernel
theorem dX6_fillLuma_10 : decode cX6_fillLuma 10 = .ok (.istore 6, 2) := by decide +kernel
theorem dX6_fillLuma_12 : decode cX6_fillLuma 12 = .ok (.aload_n 0, 1) := by decide +kernel
theorem dX6_fillLuma_13 : decode cX6_fillLuma 13 = .ok (.aload_n 1, 1) := by decide +kernel
theorem dX6_fillLuma_14 : decode cX6_fillLuma 14 = .ok (.getfield 234, 3) := by decide +kernel
theorem dX6_fillLuma_17 : decode cX6_fillLuma 17 = .ok (.iload_n 2, 1) := by decide +kernel
theorem dX6_fillLuma_18 : decode cX6_fillLuma 18 = .ok (.iload_n 3, 1) := by decide +kernel
theorem dX6_fillLuma_19 : decode cX6_fillLuma 19 = .ok (.invokestatic 237, 3) := by decide +kernel
theorem dX6_fillLuma_22 : decode cX6_fillLuma 22 = .ok (.iconst 0, 1) := by decide +kernel
theorem dX6_fillLuma_23 : decode cX6_fillLuma 23 = .ok (.iload 4, 2) := by decide +kernel
theorem dX6_fillLuma_25 : decode cX6_fillLuma 25 = .ok (.invokevirtual 240, 3) := by decide +kernel
theorem dX6_fillLuma_28 : decode cX6_fillLuma 28 = .ok (.aload_n 0, 1) := by decide +kernel
theorem dX6_fillLuma_29 : decode cX6_fillLuma 29 = .ok (.aload_n 1, 1) := by decide +kernel
theorem dX6_fillLuma_30 : decode cX6_fillLuma 30 = .ok (.getfield 46, 3) := by decide +kernel
theorem dX6_fillLuma_33 : decode cX6_fillLuma 33 = .ok (.getfield 121, 3) := by decide +kernel
theorem dX6_fillLuma_36 : decode cX6_fillLuma 36 = .ok (.iconst 0, 1) := by decide +kernel
theorem dX6_fillLuma_37 : decode cX6_fillLuma 37 = .ok (.aaload, 1) := by decide +kernel
theorem dX6_fillLuma_38 : decode cX6_fillLuma 38 = .ok (.aload_n 1, 1) := by decide +kernel
theorem dX6_fillLuma_39 : decode cX6_fillLuma 39 = .ok (.getfield 46, 3) := by decide +kernel
theorem dX6_fillLuma_42 : decode cX6_fillLuma 42 = .ok (.iload_n 2, 1) := by decide +kernel
theorem dX6_fillLuma_43 : decode cX6_fillLuma 43 = .ok (.iload 5, 2) := by decide +kernel
theorem dX6_fillLuma_45 : decode cX6_fillLuma 45 = .ok (.iload 6, 2) := by decide +kernel
theorem dX6_fillLuma_47 : decode cX6_fillLuma 47 = .ok (.invokestatic 175, 3) := by decide +kernel
theorem dX6_fillLuma_50 : decode cX6_fillLuma 50 = .ok (.bipush 16, 2) := by decide +kernel
theorem dX6_fillLuma_52 : decode cX6_fillLuma 52 = .ok (.aload_n 1, 1) := by decide +kernel
theorem dX6_fillLuma_53 : decode cX6_fillLuma 53 = .ok (.getfield 46, 3) := by decide +kernel
theorem dX6_fillLuma_56 : decode cX6_fillLuma 56 = .ok (.getfield 83, 3) := by decide +kernel
theorem dX6_fillLuma_59 : decode cX6_fillLuma 59 = .ok (.imul, 1) := by decide +kernel
theorem dX6_fillLuma_60 : decode cX6_fillLuma 60 = .ok (.bipush 16, 2) := by decide +kernel
theorem dX6_fillLuma_62 : decode cX6_fillLuma 62 = .ok (.iload 6, 2) := by decide +kernel
theorem dX6_fillLuma_64 : decode cX6_fillLuma 64 = .ok (.imul, 1) := by decide +kernel
theorem dX6_fillLuma_65 : decode cX6_fillLuma 65 = .ok (.iload 5, 2) := by decide +kernel
theorem dX6_fillLuma_67 : decode cX6_fillLuma 67 = .ok (.iadd, 1) := by decide +kernel
theorem dX6_fillLuma_68 : decode cX6_fillLuma 68 = .ok (.bipush 16, 2) := by decide +kernel
theorem dX6_fillLuma_70 : decode cX6_fillLuma 70 = .ok (.invokevirtual 244, 3) := by decide +kernel
theorem dX6_fillLuma_73 : decode cX6_fillLuma 73 = .ok (.return_, 1) := by decide +kernel
def FX6_fillLuma (G : GG) (M : DD) (a : Nat) (p0 : Option Nat) (p1 : Int32) (p2 : Int32) (p3 : Int32) : Option (DD) :=
  bnd (FX9_pieceX G M p2) fun y1 =>
  bnd (FX9_pieceY G y1.1 p2) fun y2 =>
  dr G 9 p0 fun b3 =>
  bnd (FX9_levelAt G y2.1 p1 p2) fun y4 =>
  bnd (FX6_unfold G y4.1 a ((y2.1.2 b3 9)) y4.2 ((0 : Int32)) p3) fun y5 =>
  dr G 4 ((y5.2 b3 0)) fun b6 =>
  dr G 15 ((y5.2 b6 4)) fun b7 =>
  chk (¬ (((0 : Int32)) < 0 ∨ G.2.2 b7 ≤ ((0 : Int32)).toNatClampNeg)) <|
  bnd (FX6_lumaAt G y5 ((y5.2 b3 0)) p1 y1.2 y2.2) fun y8 =>
  dr G 4 ((y8.1.2 b3 0)) fun b9 =>
  ltt (y8.1.1 b9 1) fun x10 =>
  ltt ((((16 : Int32)) * x10)) fun x11 =>
  ltt ((((16 : Int32)) * y2.2)) fun x12 =>
  ltt ((x12 + y1.2)) fun x13 =>
  bnd (FX6_fillPiece G y8.1 a ((y5.2 b7 ((0 : Int32)).toNatClampNeg)) y8.2 x11 x13 ((16 : Int32))) fun y14 =>
  some y14
set_option maxHeartbeats 4000000 in
set_option maxRecDepth 100000 in
theorem kX6_fillLuma (l : Launch) (D : va_G) (ct : CT) (ad : Nat → Nat) (Z : Nat → Nat) (G : GG) (M : DD) (sz : Nat) (a : Nat) (p0 : Option Nat) (p1 : Int32) (p2 : Int32) (p3 : Int32) (y : DD) (hc : a < G.1) (hk : G.2.1 a = 6) (hF : FX6_fillLuma G M a p0 p1 p2 p3 = some y) : Met l yX6_fillLuma wsX6_fillLuma ({ frames := 2, cells := 0, slots := 0, locals := 55 }) (va_Pc [.ref (ad a), va_re ad p0, .int p1, .int p2, .int p3] (kB D ct ad Z G M sz)) (va_Qv (fun (_ : Unit) => True) (fun _ t => kE D ct ad G (wA ad G sz) y t) (wA ad G sz)) 0 0 (wA ad G sz) := by
  refine Met.ofW (cc := cX6_fillLuma) (maxL := 7) (ret := none) (by decide) rfl ?_
  intro p e s m args below meth c s₁ B hml hv
  obtain ⟨rfl, hsz, hP, hK, hD0, hZ, hN⟩ := hv
  have hx := B.exec
  have hb := B.bytes
  have hr := B.returns
  have hts := atoms_spec (ws := wsX6_fillLuma) B.pre
  have hown : s.vm.findClass RX6 = some m.cls := findClass_of_methodNamed B.named
  have hlocks := B.notSynchronized
  subst hsz
  have hD := wD_self (sz := s.heap.size) hD0
  have hA9 : ∀ q, s.heap.size ≤ q → wA ad G s.heap.size q := fun q h => Or.inr h
  generalize hAe : wA ad G s.heap.size = A at hD hA9 hZ ⊢
  have hS : va_S A s.heap s.heap [] := va_S.rf
  have hl := lv_entry ([.ref (ad a), va_re ad p0, .int p1, .int p2, .int p3]) (n := 7) (by cases p0 <;> exact Nat.le_of_ble_eq_true rfl)
  rw [lg_entry_eq]
  generalize (lg_sl ([.ref (ad a), va_re ad p0, .int p1, .int p2, .int p3]) ++ List.replicate (7 - (lg_sl ([.ref (ad a), va_re ad p0, .int p1, .int p2, .int p3])).length) Slot.unset).toArray = ls at hl ⊢
  have hl : lv_has ls 7 [(0, .ref (ad a)), (1, va_re ad p0), (2, .int p1), (3, .int p2), (4, .int p3)] := by have e9 : lv_args 0 [.ref (ad a), va_re ad p0, .int p1, .int p2, .int p3] = [(0, .ref (ad a)), (1, va_re ad p0), (2, .int p1), (3, .int p2), (4, .int p3)] := (by cases p0 <;> rfl); rw [e9] at hl; exact hl
  unfold FX6_fillLuma at hF
  refine lv_iload_n hx hb dX6_fillLuma_0 rfl (lv_at hl 3 rfl) ?_
  obtain ⟨y1, hy1, hF⟩ := bnd_some hF
  have hf9 := wA_in hD hA9 hS
  refine va_calli (va_runS (As := [.int p2]) (rest := []) ⟨hx, hb, hml, hown, hts⟩ (kX9_pieceX l D ct ad Z G M s.heap.size p2 y1 hy1) (va_cwS 1 hts gX6_fillLuma_X9_pieceX rfl rfl rfl (by decide +kernel) ⟨Nat.le_of_ble_eq_true rfl, Nat.le_of_ble_eq_true rfl⟩) ⟨fun a U g mk q => by obtain ⟨q0, q1, qP, qK, qD, qZ, qN⟩ := q; exact ⟨q0, q1, qP, va_K.moved (u := U) (U := U.calling g mk a) (Vm.Alike.refl U.vm) qK, qD, sF.moved (u := U) (U := U.calling g mk a) (Vm.Alike.refl U.vm) qZ, nF.same rfl qN⟩, fun U hU hW => ⟨rfl, by rw [hU], by rw [hU]; exact hP, va_K.moved hW.alike hK, hD.weaken (fun _ _ _ _ => trivial), by rw [hU]; exact ((hZ.kept hS.2.1).narrow hf9).moved hW.alike, hN.warm hW⟩⟩ rfl rfl hl.1 rfl (lv_room (Nat.le_of_ble_eq_true rfl)) dX6_fillLuma_1 ⟨(Nat.zero_le _), (Nat.zero_le _)⟩) hS (fun q _ h => hf9 q h) hf9 (fun r u t H locs ht hvm hw hB hz1 hk1 hS => ?_)
  obtain ⟨hP, hK9, hD9⟩ := hB
  rw [ht] at hP
  try dsimp only at hw
  subst hw
  have hD := hD9.weaken (fun _ q _ h => hf9 q.1 h)
  refine lv_istore (lv' := [(5, .int y1.2), (0, .ref (ad a)), (1, va_re ad p0), (2, .int p1), (3, .int p2), (4, .int p3)]) hx hb dX6_fillLuma_4 hl (by decide) rfl (fun ls hl => ?_)
  refine lv_iload_n hx hb dX6_fillLuma_6 rfl (lv_at hl 4 rfl) ?_
  obtain ⟨y2, hy2, hF⟩ := bnd_some hF
  have hf9 := wA_in hD hA9 hS
  refine va_calli (va_runS (As := [.int p2]) (rest := []) ⟨hx, hb, hml, hown, hts⟩ (kX9_pieceY l D ct ad Z G y1.1 H.size p2 y2 hy2) (va_cwS 1 hts gX6_fillLuma_X9_pieceY rfl rfl rfl (by decide +kernel) ⟨Nat.le_of_ble_eq_true rfl, Nat.le_of_ble_eq_true rfl⟩) ⟨fun a U g mk q => by obtain ⟨q0, q1, qP, qK, qD, qZ, qN⟩ := q; exact ⟨q0, q1, qP, va_K.moved (u := U) (U := U.calling g mk a) (Vm.Alike.refl U.vm) qK, qD, sF.moved (u := U) (U := U.calling g mk a) (Vm.Alike.refl U.vm) qZ, nF.same rfl qN⟩, fun U hU hW => ⟨rfl, by rw [hU], by rw [hU]; exact hP, va_K.moved hW.alike hK, hD.weaken (fun _ _ _ _ => trivial), by rw [hU]; exact ((hZ.kept hS.2.1).narrow hf9).moved hW.alike, hN.warm hW⟩⟩ rfl rfl hl.1 rfl (lv_room (Nat.le_of_ble_eq_true rfl)) dX6_fillLuma_7 ⟨(Nat.zero_le _), (Nat.zero_le _)⟩) hS (fun q _ h => hf9 q h) hf9 (fun r u t H locs ht hvm hw hB hz1 hk1 hS => ?_)
  obtain ⟨hP, hK9, hD9⟩ := hB
  rw [ht] at hP
  try dsimp only at hw
  subst hw
  have hD := hD9.weaken (fun _ q _ h => hf9 q.1 h)
  refine lv_istore (lv' := [(6, .int y2.2), (5, .int y1.2), (0, .ref (ad a)), (1, va_re ad p0), (2, .int p1), (3, .int p2), (4, .int p3)]) hx hb dX6_fillLuma_10 hl (by decide) rfl (fun ls hl => ?_)
  refine lv_aload_n hx hb dX6_fillLuma_12 rfl (lv_at hl 2 rfl) ?_
  refine lv_aloadq_n hx hb dX6_fillLuma_13 rfl (lv_at hl 3 rfl) ?_
  obtain ⟨b3, ho3, hc3, hk3, hF⟩ := dr_some hF
  refine W_st (st' := [.ref (ad b3), .ref (ad a)]) (by rw [va_some ho3]) ?_
  refine va_get (D := D) (ci := 9) (v := va_re ad (y2.1.2 b3 9)) (C := RX9) (T := TX9) (N := 20) hx hb hts (by decide +kernel) hown hK hP b3 (wld_o ct ad G y2.1 hc3 hk3 (by decide)) rfl 9 (by decide) (hts (.fieldLink RX6 234 "VideoSuite$Work" "level" "[I") (by decide +kernel)) (fun _ h9 => h9) rfl dX6_fillLuma_14 ?_
  refine lv_iload_n hx hb dX6_fillLuma_17 rfl (lv_at hl 4 rfl) ?_
  refine lv_iload_n hx hb dX6_fillLuma_18 rfl (lv_at hl 5 rfl) ?_
  obtain ⟨y4, hy4, hF⟩ := bnd_some hF
  have hf9 := wA_in hD hA9 hS
  refine va_calli (va_runS (As := [.int p1, .int p2]) (rest := [va_re ad (y2.1.2 b3 9), .ref (ad a)]) ⟨hx, hb, hml, hown, hts⟩ (kX9_levelAt l D ct ad Z G y2.1 H.size p1 p2 y4 hy4) (va_cwS 2 hts gX6_fillLuma_X9_levelAt rfl rfl rfl (by decide +kernel) ⟨Nat.le_of_ble_eq_true rfl, Nat.le_of_ble_eq_true rfl⟩) ⟨fun a U g mk q => by obtain ⟨q0, q1, qP, qK, qD, qZ, qN⟩ := q; exact ⟨q0, q1, qP, va_K.moved (u := U) (U := U.calling g mk a) (Vm.Alike.refl U.vm) qK, qD, sF.moved (u := U) (U := U.calling g mk a) (Vm.Alike.refl U.vm) qZ, nF.same rfl qN⟩, fun U hU hW => ⟨rfl, by rw [hU], by rw [hU]; exact hP, va_K.moved hW.alike hK, hD.weaken (fun _ _ _ _ => trivial), by rw [hU]; exact ((hZ.kept hS.2.1).narrow hf9).moved hW.alike, hN.warm hW⟩⟩ rfl rfl hl.1 rfl (lv_room (by simp only [List.map, va_re_cat]; exact Nat.le_of_ble_eq_true rfl)) dX6_fillLuma_19 ⟨(Nat.zero_le _), (Nat.zero_le _)⟩) hS (fun q _ h => hf9 q h) hf9 (fun r u t H locs ht hvm hw hB hz1 hk1 hS => ?_)
  obtain ⟨hP, hK9, hD9⟩ := hB
  rw [ht] at hP
  try dsimp only at hw
  subst hw
  have hD := hD9.weaken (fun _ q _ h => hf9 q.1 h)
  refine lv_iconst (v := (0 : Int32)) hx hb dX6_fillLuma_22 (by decide) ?_
  refine lv_iload hx hb dX6_fillLuma_23 (lv_at hl 6 rfl) ?_
  obtain ⟨y5, hy5, hF⟩ := bnd_some hF
  have hf9 := wA_in hD hA9 hS
  refine va_callv (va_runV (As := [va_re ad (y2.1.2 b3 9), .int y4.2, .int (0 : Int32), .int p3]) (rest := []) ⟨hx, hb, hml, hown, hts⟩ (kX6_unfold l D ct ad Z G y4.1 H.size a ((y2.1.2 b3 9)) y4.2 ((0 : Int32)) p3 y5 hc hk hy5) (cwV 4 hts gX6_fillLuma_X6_unfold rfl rfl rfl (by decide +kernel) ⟨Nat.le_of_ble_eq_true rfl, Nat.le_of_ble_eq_true rfl⟩) ⟨fun a U g mk q => by obtain ⟨q0, q1, qP, qK, qD, qZ, qN⟩ := q; exact ⟨q0, q1, qP, va_K.moved (u := U) (U := U.calling g mk a) (Vm.Alike.refl U.vm) qK, qD, sF.moved (u := U) (U := U.calling g mk a) (Vm.Alike.refl U.vm) qZ, nF.same rfl qN⟩, va_recv hK hP (ci := 6) (q0 := a) rfl (wld_o ct ad G y4.1 hc hk (by decide)), fun U hU hW => ⟨rfl, by rw [hU], by rw [hU]; exact hP, va_K.moved hW.alike hK, hD.weaken (fun _ _ _ _ => trivial), by rw [hU]; exact ((hZ.kept hS.2.1).narrow hf9).moved hW.alike, hN.warm hW⟩⟩ rfl rfl hl.1 rfl (lv_room (Nat.le_of_ble_eq_true rfl)) dX6_fillLuma_25 ⟨(Nat.zero_le _), (Nat.zero_le _)⟩) hS (fun q _ h => hf9 q h) hf9 (fun u t H locs ht hvm hw hB hz1 hk1 hS => ?_)
  obtain ⟨hP, hK9, hD9⟩ := hB
  rw [ht] at hP
  have hD := hD9.weaken (fun _ q _ h => hf9 q.1 h)
  refine lv_aload_n hx hb dX6_fillLuma_28 rfl (lv_at hl 2 rfl) ?_
  refine lv_aloadq_n hx hb dX6_fillLuma_29 rfl (lv_at hl 3 rfl) ?_
  refine W_st (st' := [.ref (ad b3), .ref (ad a)]) (by rw [va_some ho3]) ?_
  refine va_get (D := D) (ci := 9) (v := va_re ad (y5.2 b3 0)) (C := RX9) (T := TX9) (N := 20) hx hb hts (by decide +kernel) hown hK hP b3 (wld_o ct ad G y5 hc3 hk3 (by decide)) rfl 0 (by decide) (hts (.fieldLink RX6 46 "VideoSuite$Work" "pic" "LVideoSuite$Picture;") (by decide +kernel)) (fun _ h9 => h9) rfl dX6_fillLuma_30 ?_
  obtain ⟨b6, ho6, hc6, hk6, hF⟩ := dr_some hF
  refine W_st (st' := [.ref (ad b6), .ref (ad a)]) (by rw [va_some ho6]) ?_
  refine va_get (D := D) (ci := 4) (v := va_re ad (y5.2 b6 4)) (C := RX4) (T := TX4) (N := 18) hx hb hts (by decide +kernel) hown hK hP b6 (wld_o ct ad G y5 hc6 hk6 (by decide)) rfl 4 (by decide) (hts (.fieldLink RX6 121 "VideoSuite$Picture" "plane" "[[I") (by decide +kernel)) (fun _ h9 => h9) rfl dX6_fillLuma_33 ?_
  refine lv_iconst (v := (0 : Int32)) hx hb dX6_fillLuma_36 (by decide) ?_
  obtain ⟨b7, ho7, hc7, hk7, hF⟩ := dr_some hF
  refine W_st (st' := [.int (0 : Int32), .ref (ad b7), .ref (ad a)]) (by rw [va_some ho7]) ?_
  obtain ⟨hvc, hF⟩ := chk_some hF
  refine ld_g hx hb hK hP hc7 hk7 hvc dX6_fillLuma_37 ?_
  refine lv_aloadq_n hx hb dX6_fillLuma_38 rfl (lv_at hl 3 rfl) ?_
  refine W_st (st' := [.ref (ad b3), va_re ad (y5.2 b7 ((0 : Int32)).toNatClampNeg), .ref (ad a)]) (by rw [va_some ho3]) ?_
  refine va_get (D := D) (ci := 9) (v := va_re ad (y5.2 b3 0)) (C := RX9) (T := TX9) (N := 20) hx hb hts (by decide +kernel) hown hK hP b3 (wld_o ct ad G y5 hc3 hk3 (by decide)) rfl 0 (by decide) (hts (.fieldLink RX6 46 "VideoSuite$Work" "pic" "LVideoSuite$Picture;") (by decide +kernel)) (fun _ h9 => h9) rfl dX6_fillLuma_39 ?_
  refine lv_iload_n hx hb dX6_fillLuma_42 rfl (lv_at hl 4 rfl) ?_
  refine lv_iload hx hb dX6_fillLuma_43 (lv_at hl 1 rfl) ?_
  refine lv_iload hx hb dX6_fillLuma_45 (lv_at hl 0 rfl) ?_
  obtain ⟨y8, hy8, hF⟩ := bnd_some hF
  have hf9 := wA_in hD hA9 hS
  refine va_calli (va_runS (As := [va_re ad (y5.2 b3 0), .int p1, .int y1.2, .int y2.2]) (rest := [va_re ad (y5.2 b7 ((0 : Int32)).toNatClampNeg), .ref (ad a)]) ⟨hx, hb, hml, hown, hts⟩ (kX6_lumaAt l D ct ad Z G y5 H.size ((y5.2 b3 0)) p1 y1.2 y2.2 y8 hy8) (va_cwS 4 hts gX6_fillLuma_X6_lumaAt rfl rfl rfl (by decide +kernel) ⟨Nat.le_of_ble_eq_true rfl, Nat.le_of_ble_eq_true rfl⟩) ⟨fun a U g mk q => by obtain ⟨q0, q1, qP, qK, qD, qZ, qN⟩ := q; exact ⟨q0, q1, qP, va_K.moved (u := U) (U := U.calling g mk a) (Vm.Alike.refl U.vm) qK, qD, sF.moved (u := U) (U := U.calling g mk a) (Vm.Alike.refl U.vm) qZ, nF.same rfl qN⟩, fun U hU hW => ⟨rfl, by rw [hU], by rw [hU]; exact hP, va_K.moved hW.alike hK, hD.weaken (fun _ _ _ _ => trivial), by rw [hU]; exact ((hZ.kept hS.2.1).narrow hf9).moved hW.alike, hN.warm hW⟩⟩ rfl rfl hl.1 rfl (lv_room (by simp only [List.map, va_re_cat]; exact Nat.le_of_ble_eq_true rfl)) dX6_fillLuma_47 ⟨(Nat.zero_le _), (Nat.zero_le _)⟩) hS (fun q _ h => hf9 q h) hf9 (fun r u t H locs ht hvm hw hB hz1 hk1 hS => ?_)
  obtain ⟨hP, hK9, hD9⟩ := hB
  rw [ht] at hP
  try dsimp only at hw
  subst hw
  have hD := hD9.weaken (fun _ q _ h => hf9 q.1 h)
  refine lv_bipush (v := (16 : Int32)) hx hb dX6_fillLuma_50 (by decide) ?_
  refine lv_aloadq_n hx hb dX6_fillLuma_52 rfl (lv_at hl 3 rfl) ?_
  refine W_st (st' := [.ref (ad b3), .int (16 : Int32), .int y8.2, va_re ad (y5.2 b7 ((0 : Int32)).toNatClampNeg), .ref (ad a)]) (by rw [va_some ho3]) ?_
  refine va_get (D := D) (ci := 9) (v := va_re ad (y8.1.2 b3 0)) (C := RX9) (T := TX9) (N := 20) hx hb hts (by decide +kernel) hown hK hP b3 (wld_o ct ad G y8.1 hc3 hk3 (by decide)) rfl 0 (by decide) (hts (.fieldLink RX6 46 "VideoSuite$Work" "pic" "LVideoSuite$Picture;") (by decide +kernel)) (fun _ h9 => h9) rfl dX6_fillLuma_53 ?_
  obtain ⟨b9, ho9, hc9, hk9, hF⟩ := dr_some hF
  refine W_st (st' := [.ref (ad b9), .int (16 : Int32), .int y8.2, va_re ad (y5.2 b7 ((0 : Int32)).toNatClampNeg), .ref (ad a)]) (by rw [va_some ho9]) ?_
  refine va_get (D := D) (ci := 4) (v := .int (y8.1.1 b9 1)) (C := RX4) (T := TX4) (N := 18) hx hb hts (by decide +kernel) hown hK hP b9 (wld_o ct ad G y8.1 hc9 hk9 (by decide)) rfl 1 (by decide) (hts (.fieldLink RX6 83 "VideoSuite$Picture" "width" "I") (by decide +kernel)) (fun _ h9 => h9) rfl dX6_fillLuma_56 ?_
  obtain ⟨x10, ex10, hF⟩ := ltt_some hF
  refine lv_topi (fun zx10 ezx10 => ?_)
  obtain rfl : x10 = zx10 := ex10.trans ezx10.symm
  refine lv_imul hx hb dX6_fillLuma_59 ?_
  obtain ⟨x11, ex11, hF⟩ := ltt_some hF
  refine lv_topi (fun zx11 ezx11 => ?_)
  obtain rfl : x11 = zx11 := ex11.trans ezx11.symm
  refine lv_bipush (v := (16 : Int32)) hx hb dX6_fillLuma_60 (by decide) ?_
  refine lv_iload hx hb dX6_fillLuma_62 (lv_at hl 0 rfl) ?_
  refine lv_imul hx hb dX6_fillLuma_64 ?_
  obtain ⟨x12, ex12, hF⟩ := ltt_some hF
  refine lv_topi (fun zx12 ezx12 => ?_)
  obtain rfl : x12 = zx12 := ex12.trans ezx12.symm
  refine lv_iload hx hb dX6_fillLuma_65 (lv_at hl 1 rfl) ?_
  refine lv_iadd hx hb dX6_fillLuma_67 ?_
  obtain ⟨x13, ex13, hF⟩ := ltt_some hF
  refine lv_topi (fun zx13 ezx13 => ?_)
  obtain rfl : x13 = zx13 := ex13.trans ezx13.symm
  refine lv_bipush (v := (16 : Int32)) hx hb dX6_fillLuma_68 (by decide) ?_
  obtain ⟨y14, hy14, hF⟩ := bnd_some hF
  have hf9 := wA_in hD hA9 hS
  refine va_callv (va_runV (As := [va_re ad (y5.2 b7 ((0 : Int32)).toNatClampNeg), .int y8.2, .int x11, .int x13, .int (16 : Int32)]) (rest := []) ⟨hx, hb, hml, hown, hts⟩ (kX6_fillPiece l D ct ad Z G y8.1 H.size a ((y5.2 b7 ((0 : Int32)).toNatClampNeg)) y8.2 x11 x13 ((16 : Int32)) y14 hc hk hy14) (cwV 5 hts gX6_fillLuma_X6_fillPiece rfl rfl rfl (by decide +kernel) ⟨Nat.le_of_ble_eq_true rfl, Nat.le_of_ble_eq_true rfl⟩) ⟨fun a U g mk q => by obtain ⟨q0, q1, qP, qK, qD, qZ, qN⟩ := q; exact ⟨q0, q1, qP, va_K.moved (u := U) (U := U.calling g mk a) (Vm.Alike.refl U.vm) qK, qD, sF.moved (u := U) (U := U.calling g mk a) (Vm.Alike.refl U.vm) qZ, nF.same rfl qN⟩, va_recv hK hP (ci := 6) (q0 := a) rfl (wld_o ct ad G y8.1 hc hk (by decide)), fun U hU hW => ⟨rfl, by rw [hU], by rw [hU]; exact hP, va_K.moved hW.alike hK, hD.weaken (fun _ _ _ _ => trivial), by rw [hU]; exact ((hZ.kept hS.2.1).narrow hf9).moved hW.alike, hN.warm hW⟩⟩ rfl rfl hl.1 rfl (lv_room (Nat.le_of_ble_eq_true rfl)) dX6_fillLuma_70 ⟨(Nat.zero_le _), (Nat.zero_le _)⟩) hS (fun q _ h => hf9 q h) hf9 (fun u t H locs ht hvm hw hB hz1 hk1 hS => ?_)
  obtain ⟨hP, hK9, hD9⟩ := hB
  rw [ht] at hP
  have hD := hD9.weaken (fun _ q _ h => hf9 q.1 h)
  obtain rfl := Option.some.inj hF
  exact W.vret hx hb hr (fun t ht hW => ⟨⟨(), rfl, trivial, ⟨by rw [ht]; exact hP, va_K.moved hW.alike hK, hD⟩⟩, hS.F ht⟩) hS.2.2 dX6_fillLuma_73
theorem ggX6_predictByLists_X4_movesAlike : GoodIn wsX6_predictByLists wsX4_movesAlike := goodIn_r _ [6, 7, 8, 9, 10, 5, 11, 121, 122, 123, 124, 125, 126, 127, 128, 129, 130, 131, 132, 133, 134, 135, 136, 137, 138] (by decide +kernel) (by decide +kernel)
set_option maxRecDepth 20000 in
theorem gX6_predictByLists_X4_movesAlike : GoodIn wsX6_predictByLists (wsV RX6 52 RX4 yX4_movesAlike wsX4_movesAlike) := goodIn_app (goodIn_of _ (by decide +kernel)) ggX6_predictByLists_X4_movesAlike
set_option maxRecDepth 20000 in
theorem ggX6_predictByLists_X6_takeMotion : GoodIn wsX6_predictByLists wsX6_takeMotion := goodIn_r _ [16, 17, 18, 19, 20, 10, 5, 11, 139, 140, 141, 142, 143, 144, 145, 146, 147, 148, 149, 150, 151, 152, 121, 122, 123, 124, 125, 126, 127, 128, 129, 130, 131, 132, 133, 134, 135, 136, 137, 138] (by decide +kernel) (by decide +kernel)
set_option maxRecDepth 20000 in
theorem gX6_predictByLists_X6_takeMotion : GoodIn wsX6_predictByLists (wsV RX6 58 RX6 yX6_takeMotion wsX6_takeMotion) := goodIn_app (goodIn_of _ (by decide +kernel)) ggX6_predictByLists_X6_takeMotion
set_option maxRecDepth 20000 in
theorem ggX6_predictByLists_X6_predictRegion : GoodIn wsX6_predictByLists wsX6_predictRegion := goodIn_r _ [24, 1, 25, 17, 26, 27, 28, 29, 30, 31, 32, 33, 34, 35, 36, 37, 38, 15, 39, 40, 41, 42, 43, 44, 45, 46, 47, 48, 49, 50, 51, 52, 53, 54, 55, 56, 57, 58, 59, 60, 61, 62, 63, 64, 65, 66, 67, 68, 69, 70, 71, 72, 73, 74, 75, 76, 77, 78, 79, 80, 81, 82, 83, 84, 85, 86, 87, 88, 89, 90, 91, 92, 93, 94, 95, 96, 97, 98, 99, 100, 101, 102, 103, 104, 105, 106, 107, 108, 109, 110, 111, 112, 113, 114, 115, 116, 117, 118, 119, 120, 121, 122, 123, 124, 125, 126, 127, 128, 129, 130, 131, 132, 133, 134, 135, 136, 137, 138, 139, 140, 141, 142, 143, 144, 145, 146, 147, 148, 149, 150, 151, 152, 153, 154, 155, 156] (by decide +kernel) (by decide +kernel)
set_option maxRecDepth 20000 in
theorem gX6_predictByLists_X6_predictRegion : GoodIn wsX6_predictByLists (wsV RX6 62 RX6 yX6_predictRegion wsX6_predictRegion) := goodIn_app (goodIn_of _ (by decide +kernel)) ggX6_predictByLists_X6_predictRegion
theorem dX6_predictByLists_0 : decode cX6_predictByLists 0 = .ok (.iconst 1, 1) := by decide +kernel
theorem dX6_predictByLists_1 : decode cX6_predictByLists 1 = .ok (.istore_n 3, 1) := by decide +kernel
theorem dX6_predictByLists_2 : decode cX6_predictByLists 2 = .ok (.iconst 1, 1) := by decide +kernel
theorem dX6_predictByLists_3 : decode cX6_predictByLists 3 = .ok (.istore 4, 2) := by decide +kernel
theorem dX6_predictByLists_5 : decode cX6_predictByLists 5 = .ok (.iload 4, 2) := by decide +kernel
theorem dX6_predictByLists_7 : decode cX6_predictByLists 7 = .ok (.bipush 16, 2) := by decide +kernel
theorem dX6_predictByLists_9 : decode cX6_predictByLists 9 = .ok (.if_icmp .ge 32, 3) := by decide +kernel
theorem dX6_predictByLists_12 : decode cX6_predictByLists 12 = .ok (.iload_n 3, 1) := by decide +kernel
theorem dX6_predictByLists_13 : decode cX6_predictByLists 13 = .ok (.ifCond .eq 28, 3) := by decide +kernel
theorem dX6_predictByLists_16 : decode cX6_predictByLists 16 = .ok (.aload_n 1, 1) := by decide +kernel
theorem dX6_predictByLists_17 : decode cX6_predictByLists 17 = .ok (.getfield 46, 3) := by decide +kernel
theorem dX6_predictByLists_20 : decode cX6_predictByLists 20 = .ok (.bipush 16, 2) := by decide +kernel
theorem dX6_predictByLists_22 : decode cX6_predictByLists 22 = .ok (.iload_n 2, 1) := by decide +kernel
theorem dX6_predictByLists_23 : decode cX6_predictByLists 23 = .ok (.imul, 1) := by decide +kernel
theorem dX6_predictByLists_24 : decode cX6_predictByLists 24 = .ok (.bipush 16, 2) := by decide +kernel
theorem dX6_predictByLists_26 : decode cX6_predictByLists 26 = .ok (.iload_n 2, 1) := by decide +kernel
theorem dX6_predictByLists_27 : decode cX6_predictByLists 27 = .ok (.imul, 1) := by decide +kernel
theorem dX6_predictByLists_28 : decode cX6_predictByLists 28 = .ok (.iload 4, 2) := by decide +kernel
theorem dX6_predictByLists_30 : decode cX6_predictByLists 30 = .ok (.iadd, 1) := by decide +kernel
theorem dX6_predictByLists_31 : decode cX6_predictByLists 31 = .ok (.invokevirtual 52, 3) := by decide +kernel
theorem dX6_predictByLists_34 : decode cX6_predictByLists 34 = .ok (.istore_n 3, 1) := by decide +kernel
theorem dX6_predictByLists_35 : decode cX6_predictByLists 35 = .ok (.iinc 4 1, 3) := by decide +kernel
theorem dX6_predictByLists_38 : decode cX6_predictByLists 38 = .ok (.goto (-33), 3) := by decide +kernel
theorem dX6_predictByLists_41 : decode cX6_predictByLists 41 = .ok (.iload_n 3, 1) := by decide +kernel
theorem dX6_predictByLists_42 : decode cX6_predictByLists 42 = .ok (.ifCond .eq 26, 3) := by decide +kernel
theorem dX6_predictByLists_45 : decode cX6_predictByLists 45 = .ok (.aload_n 0, 1) := by decide +kernel
theorem dX6_predictByLists_46 : decode cX6_predictByLists 46 = .ok (.aload_n 1, 1) := by decide +kernel
theorem dX6_predictByLists_47 : decode cX6_predictByLists 47 = .ok (.getfield 46, 3) := by decide +kernel
theorem dX6_predictByLists_50 : decode cX6_predictByLists 50 = .ok (.bipush 16, 2) := by decide +kernel
theorem dX6_predictByLists_52 : decode cX6_predictByLists 52 = .ok (.iload_n 2, 1) := by decide +kernel
theorem dX6_predictByLists_53 : decode cX6_predictByLists 53 = .ok (.imul, 1) := by decide +kernel
theorem dX6_predictByLists_54 : decode cX6_predictByLists 54 = .ok (.invokevirtual 58, 3) := by decide +kernel
theorem dX6_predictByLists_57 : decode cX6_predictByLists 57 = .ok (.aload_n 0, 1) := by decide +kernel
theorem dX6_predictByLists_58 : decode cX6_predictByLists 58 = .ok (.aload_n 1, 1) := by decide +kernel
theorem dX6_predictByLists_59 : decode cX6_predictByLists 59 = .ok (.iload_n 2, 1) := by decide +kernel
theorem dX6_predictByLists_60 : decode cX6_predictByLists 60 = .ok (.iconst 0, 1) := by decide +kernel
theorem dX6_predictByLists_61 : decode cX6_predictByLists 61 = .ok (.bipush 16, 2) := by decide +kernel
theorem dX6_predictByLists_63 : decode cX6_predictByLists 63 = .ok (.iconst 1, 1) := by decide +kernel
theorem dX6_predictByLists_64 : decode cX6_predictByLists 64 = .ok (.invokevirtual 62, 3) := by decide +kernel
theorem dX6_predictByLists_67 : decode cX6_predictByLists 67 = .ok (.return_, 1) := by decide +kernel
theorem dX6_predictByLists_68 : decode cX6_predictByLists 68 = .ok (.iconst 0, 1) := by decide +kernel
theorem dX6_predictByLists_69 : decode cX6_predictByLists 69 = .ok (.istore 4, 2) := by decide +kernel
theorem dX6_predictByLists_71 : decode cX6_predictByLists 71 = .ok (.iload 4, 2) := by decide +kernel
theorem dX6_predictByLists_73 : decode cX6_predictByLists 73 = .ok (.iconst 4, 1) := by decide +kernel
theorem dX6_predictByLists_74 : decode cX6_predictByLists 74 = .ok (.if_icmp .ge 137, 3) := by decide +kernel
theorem dX6_predictByLists_77 : decode cX6_predictByLists 77 = .ok (.bipush 16, 2) := by decide +kernel
theorem dX6_predictByLists_79 : decode cX6_predictByLists 79 = .ok (.iload_n 2, 1) := by decide +kernel
theorem dX6_predictByLists_80 : decode cX6_predictByLists 80 = .ok (.imul, 1) := by decide +kernel
theorem dX6_predictByLists_81 : decode cX6_predictByLists 81 = .ok (.iconst 4, 1) := by decide +kernel
theorem dX6_predictByLists_82 : decode cX6_predictByLists 82 = .ok (.iload 4, 2) := by decide +kernel
theorem dX6_predictByLists_84 : decode cX6_predictByLists 84 = .ok (.imul, 1) := by decide +kernel
theorem dX6_predictByLists_85 : decode cX6_predictByLists 85 = .ok (.iadd, 1) := by decide +kernel
theorem dX6_predictByLists_86 : decode cX6_predictByLists 86 = .ok (.istore 5, 2) := by decide +kernel
theorem dX6_predictByLists_88 : decode cX6_predictByLists 88 = .ok (.aload_n 1, 1) := by decide +kernel
theorem dX6_predictByLists_89 : decode cX6_predictByLists 89 = .ok (.getfield 46, 3) := by decide +kernel
theorem dX6_predictByLists_92 : decode cX6_predictByLists 92 = .ok (.iload 5, 2) := by decide +kernel
theorem dX6_predictByLists_94 : decode cX6_predictByLists 94 = .ok (.iload 5, 2) := by decide +kernel
theorem dX6_predictByLists_96 : decode cX6_predictByLists 96 = .ok (.iconst 1, 1) := by decide +kernel
theorem dX6_predictByLists_97 : decode cX6_predictByLists 97 = .ok (.iadd, 1) := by decide +kernel
theorem dX6_predictByLists_98 : decode cX6_predictByLists 98 = .ok (.invokevirtual 52, 3) := by decide +kernel
theorem dX6_predictByLists_101 : decode cX6_predictByLists 101 = .ok (.ifCond .eq 39, 3) := by decide +kernel
theorem dX6_predictByLists_104 : decode cX6_predictByLists 104 = .ok (.aload_n 1, 1) := by decide +kernel
theorem dX6_predictByLists_105 : decode cX6_predictByLists 105 = .ok (.getfield 46, 3) := by decide +kernel
theorem dX6_predictByLists_108 : decode cX6_predictByLists 108 = .ok (.iload 5, 2) := by decide +kernel
theorem dX6_predictByLists_110 : decode cX6_predictByLists 110 = .ok (.iload 5, 2) := by decide +kernel
theorem dX6_predictByLists_112 : decode cX6_predictByLists 112 = .ok (.iconst 2, 1) := by decide +kernel
theorem dX6_predictByLists_113 : decode cX6_predictByLists 113 = .ok (.iadd, 1) := by decide +kernel
theorem dX6_predictByLists_114 : decode cX6_predictByLists 114 = .ok (.invokevirtual 52, 3) := by decide +kernel
theorem dX6_predictByLists_117 : decode cX6_predictByLists 117 = .ok (.ifCond .eq 23, 3) := by decide +kernel
theorem dX6_predictByLists_120 : decode cX6_predictByLists 120 = .ok (.aload_n 1, 1) := by decide +kernel
theorem dX6_predictByLists_121 : decode cX6_predictByLists 121 = .ok (.getfield 46, 3) := by decide +kernel
theorem dX6_predictByLists_124 : decode cX6_predictByLists 124 = .ok (.iload 5, 2) := by decide +kernel
theorem dX6_predictByLists_126 : decode cX6_predictByLists 126 = .ok (.iload 5, 2) := by decide +kernel
theorem dX6_predictByLists_128 : decode cX6_predictByLists 128 = .ok (.iconst 3, 1) := by decide +kernel
theorem dX6_predictByLists_129 : decode cX6_predictByLists 129 = .ok (.iadd, 1) := by decide +kernel
theorem dX6_predictByLists_130 : decode cX6_predictByLists 130 = .ok (.invokevirtual 52, 3) := by decide +kernel
theorem dX6_predictByLists_133 : decode cX6_predictByLists 133 = .ok (.ifCond .eq 7, 3) := by decide +kernel
theorem dX6_predictByLists_136 : decode cX6_predictByLists 136 = .ok (.iconst 1, 1) := by decide +kernel
theorem dX6_predictByLists_137 : decode cX6_predictByLists 137 = .ok (.goto 4, 3) := by decide +kernel
theorem dX6_predictByLists_140 : decode cX6_predictByLists 140 = .ok (.iconst 0, 1) := by decide +kernel
theorem dX6_predictByLists_141 : decode cX6_predictByLists 141 = .ok (.istore 6, 2) := by decide +kernel
theorem dX6_predictByLists_143 : decode cX6_predictByLists 143 = .ok (.iconst 0, 1) := by decide +kernel
theorem dX6_predictByLists_144 : decode cX6_predictByLists 144 = .ok (.istore 7, 2) := by decide +kernel
theorem dX6_predictByLists_146 : decode cX6_predictByLists 146 = .ok (.iload 7, 2) := by decide +kernel
theorem dX6_predictByLists_148 : decode cX6_predictByLists 148 = .ok (.iload 6, 2) := by decide +kernel
theorem dX6_predictByLists_150 : decode cX6_predictByLists 150 = .ok (.ifCond .eq 7, 3) := by decide +kernel
theorem dX6_predictByLists_153 : decode cX6_predictByLists 153 = .ok (.iconst 1, 1) := by decide +kernel
theorem dX6_predictByLists_154 : decode cX6_predictByLists 154 = .ok (.goto 4, 3) := by decide +kernel
theorem dX6_predictByLists_157 : decode cX6_predictByLists 157 = .ok (.iconst 4, 1) := by decide +kernel
theorem dX6_predictByLists_158 : decode cX6_predictByLists 158 = .ok (.if_icmp .ge 47, 3) := by decide +kernel
theorem dX6_predictByLists_161 : decode cX6_predictByLists 161 = .ok (.aload_n 0, 1) := by decide +kernel
theorem dX6_predictByLists_162 : decode cX6_predictByLists 162 = .ok (.aload_n 1, 1) := by decide +kernel
theorem dX6_predictByLists_163 : decode cX6_predictByLists 163 = .ok (.getfield 46, 3) := by decide +kernel
theorem dX6_predictByLists_166 : decode cX6_predictByLists 166 = .ok (.iload 5, 2) := by decide +kernel
theorem dX6_predictByLists_168 : decode cX6_predictByLists 168 = .ok (.iload 7, 2) := by decide +kernel
theorem dX6_predictByLists_170 : decode cX6_predictByLists 170 = .ok (.iadd, 1) := by decide +kernel
theorem dX6_predictByLists_171 : decode cX6_predictByLists 171 = .ok (.invokevirtual 58, 3) := by decide +kernel
theorem dX6_predictByLists_174 : decode cX6_predictByLists 174 = .ok (.aload_n 0, 1) := by decide +kernel
theorem dX6_predictByLists_175 : decode cX6_predictByLists 175 = .ok (.aload_n 1, 1) := by decide +kernel
theorem dX6_predictByLists_176 : decode cX6_predictByLists 176 = .ok (.iload_n 2, 1) := by decide +kernel
theorem dX6_predictByLists_177 : decode cX6_predictByLists 177 = .ok (.iconst 4, 1) := by decide +kernel
theorem dX6_predictByLists_178 : decode cX6_predictByLists 178 = .ok (.iload 4, 2) := by decide +kernel
theorem dX6_predictByLists_180 : decode cX6_predictByLists 180 = .ok (.imul, 1) := by decide +kernel
theorem dX6_predictByLists_181 : decode cX6_predictByLists 181 = .ok (.iload 7, 2) := by decide +kernel
theorem dX6_predictByLists_183 : decode cX6_predictByLists 183 = .ok (.iadd, 1) := by decide +kernel
theorem dX6_predictByLists_184 : decode cX6_predictByLists 184 = .ok (.iload 6, 2) := by decide +kernel
theorem dX6_predictByLists_186 : decode cX6_predictByLists 186 = .ok (.ifCond .eq 8, 3) := by decide +kernel
theorem dX6_predictByLists_189 : decode cX6_predictByLists 189 = .ok (.bipush 8, 2) := by decide +kernel
theorem dX6_predictByLists_191 : decode cX6_predictByLists 191 = .ok (.goto 4, 3) := by decide +kernel
theorem dX6_predictByLists_194 : decode cX6_predictByLists 194 = .ok (.iconst 4, 1) := by decide +kernel
theorem dX6_predictByLists_195 : decode cX6_predictByLists 195 = .ok (.iconst 1, 1) := by decide +kernel
theorem dX6_predictByLists_196 : decode cX6_predictByLists 196 = .ok (.invokevirtual 62, 3) := by decide +kernel
theorem dX6_predictByLists_199 : decode cX6_predictByLists 199 = .ok (.iinc 7 1, 3) := by decide +kernel
theorem dX6_predictByLists_202 : decode cX6_predictByLists 202 = .ok (.goto (-56), 3) := by decide +kernel
theorem dX6_predictByLists_205 : decode cX6_predictByLists 205 = .ok (.iinc 4 1, 3) := by decide +kernel
theorem dX6_predictByLists_208 : decode cX6_predictByLists 208 = .ok (.goto (-137), 3) := by decide +kernel
theorem dX6_predictByLists_211 : decode cX6_predictByLists 211 = .ok (.return_, 1) := by decide +kernel
def FX6_predictByLists (G : GG) (M : DD) (a : Nat) (p0 : Option Nat) (p1 : Int32) : Option (DD) :=
  bnd (itr (fun (s2 : Int32 × Int32 × DD) => ((if ((16 : Int32)) ≤ s2.2.1 then (some (.inr (s2.1, s2.2.1, s2.2.2))) else
  (if s2.1 = ((0 : Int32)) then (some (.inr (s2.1, s2.2.1, s2.2.2))) else
  (dr G 9 p0 fun b52 =>
  ltt ((((16 : Int32)) * p1)) fun x53 =>
  ltt ((((16 : Int32)) * p1)) fun x54 =>
  ltt ((x54 + s2.2.1)) fun x55 =>
  dr G 4 ((s2.2.2.2 b52 0)) fun b56 =>
  bnd (FX4_movesAlike G s2.2.2 b56 x53 x55) fun y57 =>
  ltt (s2.2.1 + (1 : Int32)) fun x58 =>
  some (.inl (y57.2, x58, y57.1))))) : Option ((Int32 × Int32 × DD) ⊕ (Int32 × Int32 × DD)))) 1000000 ((1 : Int32), (1 : Int32), M)) fun (y1 : Int32 × Int32 × DD) =>
  if y1.1 = ((0 : Int32)) then (bnd (itr (fun (s6 : Int32 × DD) => ((if ((4 : Int32)) ≤ s6.1 then (some (.inr (s6.1, s6.2))) else
  (ltt ((((16 : Int32)) * p1)) fun x10 =>
  ltt ((((4 : Int32)) * s6.1)) fun x11 =>
  ltt ((x10 + x11)) fun x12 =>
  dr G 9 p0 fun b13 =>
  ltt ((x12 + ((1 : Int32)))) fun x14 =>
  dr G 4 ((s6.2.2 b13 0)) fun b15 =>
  bnd (FX4_movesAlike G s6.2 b15 x12 x14) fun y16 =>
  bnd (if y16.2 = ((0 : Int32)) then (some ((0 : Int32), y16.1)) else
  (ltt ((x12 + ((2 : Int32)))) fun x35 =>
  dr G 4 ((y16.1.2 b13 0)) fun b36 =>
  bnd (FX4_movesAlike G y16.1 b36 x12 x35) fun y37 =>
  bnd (if y37.2 = ((0 : Int32)) then (some ((0 : Int32), y37.1)) else
  (ltt ((x12 + ((3 : Int32)))) fun x40 =>
  dr G 4 ((y37.1.2 b13 0)) fun b41 =>
  bnd (FX4_movesAlike G y37.1 b41 x12 x40) fun y42 =>
  bnd (if y42.2 = ((0 : Int32)) then (some ((0 : Int32))) else
  (some ((1 : Int32)))) fun (y43 : Int32) =>
  some (y43, y42.1))) fun (y38 : Int32 × DD) =>
  some (y38.1, y38.2))) fun (y17 : Int32 × DD) =>
  bnd (itr (fun (s19 : Int32 × DD) => ((bnd (if y17.1 = ((0 : Int32)) then (some ((4 : Int32))) else
  (some ((1 : Int32)))) fun (y23 : Int32) =>
  if y23 ≤ s19.1 then (some (.inr (s19.1, s19.2))) else
  (ltt ((x12 + s19.1)) fun x25 =>
  bnd (FX6_takeMotion G s19.2 a ((s19.2.2 b13 0)) x25) fun y26 =>
  ltt ((((4 : Int32)) * s6.1)) fun x27 =>
  ltt ((x27 + s19.1)) fun x28 =>
  bnd (if y17.1 = ((0 : Int32)) then (some ((4 : Int32))) else
  (some ((8 : Int32)))) fun (y29 : Int32) =>
  bnd (FX6_predictRegion G y26 a p0 p1 x28 y29 ((1 : Int32))) fun y30 =>
  ltt (s19.1 + (1 : Int32)) fun x31 =>
  some (.inl (x31, y30)))) : Option ((Int32 × DD) ⊕ (Int32 × DD)))) 1000000 ((0 : Int32), y17.2)) fun (y18 : Int32 × DD) =>
  ltt (s6.1 + (1 : Int32)) fun x21 =>
  some (.inl (x21, y18.2)))) : Option ((Int32 × DD) ⊕ (Int32 × DD)))) 1000000 ((0 : Int32), y1.2.2)) fun (y5 : Int32 × DD) =>
  some y5.2) else
  (dr G 9 p0 fun b45 =>
  ltt ((((16 : Int32)) * p1)) fun x46 =>
  bnd (FX6_takeMotion G y1.2.2 a ((y1.2.2.2 b45 0)) x46) fun y47 =>
  bnd (FX6_predictRegion G y47 a p0 p1 ((0 : Int32)) ((16 : Int32)) ((1 : Int32))) fun y48 =>
  some y48)
set_option maxHeartbeats 4000000 in
set_option maxRecDepth 100000 in
theorem kX6_predictByLists (l : Launch) (D : va_G) (ct : CT) (ad : Nat → Nat) (Z : Nat → Nat) (G : GG) (M : DD) (sz : Nat) (a : Nat) (p0 : Option Nat) (p1 : Int32) (y : DD) (hc : a < G.1) (hk : G.2.1 a = 6) (hF : FX6_predictByLists G M a p0 p1 = some y) : Met l yX6_predictByLists wsX6_predictByLists ({ frames := 4, cells := 0, slots := 0, locals := 113 }) (va_Pc [.ref (ad a), va_re ad p0, .int p1] (kB D ct ad Z G M sz)) (va_Qv (fun (_ : Unit) => True) (fun _ t => kE D ct ad G (wA ad G sz) y t) (wA ad G sz)) 0 0 (wA ad G sz) := by
  refine Met.ofW (cc := cX6_predictByLists) (maxL := 8) (ret := none) (by decide) rfl ?_
  intro p e s m args below meth c s₁ B hml hv
  obtain ⟨rfl, hsz, hP, hK, hD0, hZ, hN⟩ := hv
  have hx := B.exec
  have hb := B.bytes
  have hr := B.returns
  have hts := atoms_spec (ws := wsX6_predictByLists) B.pre
  have hown : s.vm.findClass RX6 = some m.cls := findClass_of_methodNamed B.named
  have hlocks := B.notSynchronized
  subst hsz
  have hD := wD_self (sz := s.heap.size) hD0
  have hA9 : ∀ q, s.heap.size ≤ q → wA ad G s.heap.size q := fun q h => Or.inr h
  generalize hAe : wA ad G s.heap.size = A at hD hA9 hZ ⊢
  have hS : va_S A s.heap s.heap [] := va_S.rf
  have hl := lv_entry ([.ref (ad a), va_re ad p0, .int p1]) (n := 8) (by cases p0 <;> exact Nat.le_of_ble_eq_true rfl)
  rw [lg_entry_eq]
  generalize (lg_sl ([.ref (ad a), va_re ad p0, .int p1]) ++ List.replicate (8 - (lg_sl ([.ref (ad a), va_re ad p0, .int p1])).length) Slot.unset).toArray = ls at hl ⊢
  have hl : lv_has ls 8 [(0, .ref (ad a)), (1, va_re ad p0), (2, .int p1)] := by have e9 : lv_args 0 [.ref (ad a), va_re ad p0, .int p1] = [(0, .ref (ad a)), (1, va_re ad p0), (2, .int p1)] := (by cases p0 <;> rfl); rw [e9] at hl; exact hl
  unfold FX6_predictByLists at hF
  refine lv_iconst (v := (1 : Int32)) hx hb dX6_predictByLists_0 (by decide) ?_
  refine lv_istore_n (lv' := [(3, .int (1 : Int32)), (0, .ref (ad a)), (1, va_re ad p0), (2, .int p1)]) hx hb dX6_predictByLists_1 rfl hl (by decide) rfl (fun ls hl => ?_)
  refine lv_iconst (v := (1 : Int32)) hx hb dX6_predictByLists_2 (by decide) ?_
  refine lv_istore (lv' := [(4, .int (1 : Int32)), (3, .int (1 : Int32)), (0, .ref (ad a)), (1, va_re ad p0), (2, .int p1)]) hx hb dX6_predictByLists_3 hl (by decide) rfl (fun ls hl => ?_)
  obtain ⟨y1, hy1, hF⟩ := bnd_some hF
  have K1 : ∀ (H : Heap) (locs : List Loc) (ls : Array Slot), va_P D classes (wld ct ad G y1.2.2) H → va_D A (wld ct ad G y1.2.2) → va_S A s.heap H locs → lv_has ls 8 [(4, .int y1.2.1), (3, .int y1.1), (0, .ref (ad a)), (1, va_re ad p0), (2, .int p1)] → W p l e (headSpec wsX6_predictByLists ({ frames := 4, cells := 0, slots := 0, locals := 113 })).room s m ([.ref (ad a), va_re ad p0, .int p1] : List Value).toArray below meth c H locs 0 0 (MQ below (va_Qv (fun (_ : Unit) => True) (fun _ t => kE D ct ad G A y t) A) ([.ref (ad a), va_re ad p0, .int p1] : List Value).toArray s 0 0 A) (F0 m 41 ls []) := by
    intro H locs ls hP hD hS hl
    refine lv_iload_n hx hb dX6_predictByLists_41 rfl (lv_at hl 1 rfl) ?_
    refine lv_if_eq (tgt := 68) hx hb dX6_predictByLists_42 (by decide) (fun c4 => ?_) (fun c4 => ?_)
    · rw [if_pos c4] at hF
      refine lv_iconst (v := (0 : Int32)) hx hb dX6_predictByLists_68 (by decide) ?_
      refine lv_istore (lv' := [(4, .int (0 : Int32)), (3, .int y1.1), (0, .ref (ad a)), (1, va_re ad p0), (2, .int p1)]) hx hb dX6_predictByLists_69 hl (by decide) rfl (fun ls hl => ?_)
      obtain ⟨y5, hy5, hF⟩ := bnd_some hF
      have K5 : ∀ (H : Heap) (locs : List Loc) (ls : Array Slot), va_P D classes (wld ct ad G y5.2) H → va_D A (wld ct ad G y5.2) → va_S A s.heap H locs → lv_has ls 8 [(4, .int y5.1), (3, .int y1.1), (0, .ref (ad a)), (1, va_re ad p0), (2, .int p1)] → W p l e (headSpec wsX6_predictByLists ({ frames := 4, cells := 0, slots := 0, locals := 113 })).room s m ([.ref (ad a), va_re ad p0, .int p1] : List Value).toArray below meth c H locs 0 0 (MQ below (va_Qv (fun (_ : Unit) => True) (fun _ t => kE D ct ad G A y t) A) ([.ref (ad a), va_re ad p0, .int p1] : List Value).toArray s 0 0 A) (F0 m 211 ls []) := by
        intro H locs ls hP hD hS hl
        obtain rfl := Option.some.inj hF
        exact W.vret hx hb hr (fun t ht hW => ⟨⟨(), rfl, trivial, ⟨by rw [ht]; exact hP, va_K.moved hW.alike hK, hD⟩⟩, hS.F ht⟩) hS.2.2 dX6_predictByLists_211
      clear hF
      refine itr_rule (fun (s6 : Int32 × DD) => ∀ (H : Heap) (locs : List Loc) (ls : Array Slot), va_P D classes (wld ct ad G s6.2) H → va_D A (wld ct ad G s6.2) → va_S A s.heap H locs → lv_has ls 8 [(4, .int s6.1), (3, .int y1.1), (0, .ref (ad a)), (1, va_re ad p0), (2, .int p1)] → W p l e (headSpec wsX6_predictByLists ({ frames := 4, cells := 0, slots := 0, locals := 113 })).room s m ([.ref (ad a), va_re ad p0, .int p1] : List Value).toArray below meth c H locs 0 0 (MQ below (va_Qv (fun (_ : Unit) => True) (fun _ t => kE D ct ad G A y t) A) ([.ref (ad a), va_re ad p0, .int p1] : List Value).toArray s 0 0 A) (F0 m 71 ls [])) ?_ _ _ hy5 _ _ _ hP hD hS (lv_sub hl [0, 1, 2, 3, 4] rfl)
      rintro s6 ⟨z8, hF, hwz8⟩ H locs ls hP hD hS hl
      try dsimp only at hF
      refine lv_iload hx hb dX6_predictByLists_71 (lv_at hl 0 rfl) ?_
      refine lv_iconst (v := (4 : Int32)) hx hb dX6_predictByLists_73 (by decide) ?_
      refine lv_icmp_ge (tgt := 211) hx hb dX6_predictByLists_74 (by decide) (fun c9 => ?_) (fun c9 => ?_)
      · rw [if_pos c9] at hF
        obtain rfl := Option.some.inj hF
        subst hwz8
        exact K5 _ _ _ hP hD hS (lv_sub hl [0, 1, 2, 3, 4] rfl)
      · rw [if_neg c9] at hF
        refine lv_bipush (v := (16 : Int32)) hx hb dX6_predictByLists_77 (by decide) ?_
        refine lv_iload_n hx hb dX6_predictByLists_79 rfl (lv_at hl 4 rfl) ?_
        refine lv_imul hx hb dX6_predictByLists_80 ?_
        obtain ⟨x10, ex10, hF⟩ := ltt_some hF
        refine lv_topi (fun zx10 ezx10 => ?_)
        obtain rfl : x10 = zx10 := ex10.trans ezx10.symm
        refine lv_iconst (v := (4 : Int32)) hx hb dX6_predictByLists_81 (by decide) ?_
        refine lv_iload hx hb dX6_predictByLists_82 (lv_at hl 0 rfl) ?_
        refine lv_imul hx hb dX6_predictByLists_84 ?_
        obtain ⟨x11, ex11, hF⟩ := ltt_some hF
        refine lv_topi (fun zx11 ezx11 => ?_)
        obtain rfl : x11 = zx11 := ex11.trans ezx11.symm
        refine lv_iadd hx hb dX6_predictByLists_85 ?_
        obtain ⟨x12, ex12, hF⟩ := ltt_some hF
        refine lv_topi (fun zx12 ezx12 => ?_)
        obtain rfl : x12 = zx12 := ex12.trans ezx12.symm
        refine lv_istore (lv' := [(5, .int x12), (4, .int s6.1), (3, .int y1.1), (0, .ref (ad a)), (1, va_re ad p0), (2, .int p1)]) hx hb dX6_predictByLists_86 hl (by decide) rfl (fun ls hl => ?_)
        refine lv_aloadq_n hx hb dX6_predictByLists_88 rfl (lv_at hl 4 rfl) ?_
        obtain ⟨b13, ho13, hc13, hk13, hF⟩ := dr_some hF
        refine W_st (st' := [.ref (ad b13)]) (by rw [va_some ho13]) ?_
        refine va_get (D := D) (ci := 9) (v := va_re ad (s6.2.2 b13 0)) (C := RX9) (T := TX9) (N := 20) hx hb hts (by decide +kernel) hown hK hP b13 (wld_o ct ad G s6.2 hc13 hk13 (by decide)) rfl 0 (by decide) (hts (.fieldLink RX6 46 "VideoSuite$Work" "pic" "LVideoSuite$Picture;") (by decide +kernel)) (fun _ h9 => h9) rfl dX6_predictByLists_89 ?_
        refine lv_iload hx hb dX6_predictByLists_92 (lv_at hl 0 rfl) ?_
        refine lv_iload hx hb dX6_predictByLists_94 (lv_at hl 0 rfl) ?_
        refine lv_iconst (v := (1 : Int32)) hx hb dX6_predictByLists_96 (by decide) ?_
        refine lv_iadd hx hb dX6_predictByLists_97 ?_
        obtain ⟨x14, ex14, hF⟩ := ltt_some hF
        refine lv_topi (fun zx14 ezx14 => ?_)
        obtain rfl : x14 = zx14 := ex14.trans ezx14.symm
        obtain ⟨b15, ho15, hc15, hk15, hF⟩ := dr_some hF
        refine W_st (st' := [.int x14, .int x12, .ref (ad b15)]) (by rw [va_some ho15]) ?_
        obtain ⟨y16, hy16, hF⟩ := bnd_some hF
        have hf9 := wA_in hD hA9 hS
        refine va_calli (va_runV (As := [.int x12, .int x14]) (rest := []) ⟨hx, hb, hml, hown, hts⟩ (kX4_movesAlike l D ct ad Z G s6.2 H.size b15 x12 x14 y16 hc15 hk15 hy16) (cwV 2 hts gX6_predictByLists_X4_movesAlike rfl rfl rfl (by decide +kernel) ⟨Nat.le_of_ble_eq_true rfl, Nat.le_of_ble_eq_true rfl⟩) ⟨fun a U g mk q => by obtain ⟨q0, q1, qP, qK, qD, qZ, qN⟩ := q; exact ⟨q0, q1, qP, va_K.moved (u := U) (U := U.calling g mk a) (Vm.Alike.refl U.vm) qK, qD, sF.moved (u := U) (U := U.calling g mk a) (Vm.Alike.refl U.vm) qZ, nF.same rfl qN⟩, va_recv hK hP (ci := 4) (q0 := b15) rfl (wld_o ct ad G s6.2 hc15 hk15 (by decide)), fun U hU hW => ⟨rfl, by rw [hU], by rw [hU]; exact hP, va_K.moved hW.alike hK, hD.weaken (fun _ _ _ _ => trivial), by rw [hU]; exact ((hZ.kept hS.2.1).narrow hf9).moved hW.alike, hN.warm hW⟩⟩ rfl rfl hl.1 rfl (lv_room (Nat.le_of_ble_eq_true rfl)) dX6_predictByLists_98 ⟨(Nat.zero_le _), (Nat.zero_le _)⟩) hS (fun q _ h => hf9 q h) hf9 (fun r u t H locs ht hvm hw hB hz1 hk1 hS => ?_)
        obtain ⟨hP, hK9, hD9⟩ := hB
        rw [ht] at hP
        try dsimp only at hw
        subst hw
        have hD := hD9.weaken (fun _ q _ h => hf9 q.1 h)
        obtain ⟨y17, hy17, hF⟩ := bnd_some hF
        have J17 : ∀ (H : Heap) (locs : List Loc) (ls : Array Slot), va_P D classes (wld ct ad G y17.2) H → va_D A (wld ct ad G y17.2) → va_S A s.heap H locs → lv_has ls 8 [(5, .int x12), (4, .int s6.1), (3, .int y1.1), (0, .ref (ad a)), (1, va_re ad p0), (2, .int p1)] → W p l e (headSpec wsX6_predictByLists ({ frames := 4, cells := 0, slots := 0, locals := 113 })).room s m ([.ref (ad a), va_re ad p0, .int p1] : List Value).toArray below meth c H locs 0 0 (MQ below (va_Qv (fun (_ : Unit) => True) (fun _ t => kE D ct ad G A y t) A) ([.ref (ad a), va_re ad p0, .int p1] : List Value).toArray s 0 0 A) (F0 m 141 ls [.int y17.1]) := by
          intro H locs ls hP hD hS hl
          refine lv_istore (lv' := [(6, .int y17.1), (5, .int x12), (4, .int s6.1), (3, .int y1.1), (0, .ref (ad a)), (1, va_re ad p0), (2, .int p1)]) hx hb dX6_predictByLists_141 hl (by decide) rfl (fun ls hl => ?_)
          refine lv_iconst (v := (0 : Int32)) hx hb dX6_predictByLists_143 (by decide) ?_
          refine lv_istore (lv' := [(7, .int (0 : Int32)), (6, .int y17.1), (5, .int x12), (4, .int s6.1), (3, .int y1.1), (0, .ref (ad a)), (1, va_re ad p0), (2, .int p1)]) hx hb dX6_predictByLists_144 hl (by decide) rfl (fun ls hl => ?_)
          obtain ⟨y18, hy18, hF⟩ := bnd_some hF
          have K18 : ∀ (H : Heap) (locs : List Loc) (ls : Array Slot), va_P D classes (wld ct ad G y18.2) H → va_D A (wld ct ad G y18.2) → va_S A s.heap H locs → lv_has ls 8 [(7, .int y18.1), (6, .int y17.1), (5, .int x12), (4, .int s6.1), (3, .int y1.1), (0, .ref (ad a)), (1, va_re ad p0), (2, .int p1)] → W p l e (headSpec wsX6_predictByLists ({ frames := 4, cells := 0, slots := 0, locals := 113 })).room s m ([.ref (ad a), va_re ad p0, .int p1] : List Value).toArray below meth c H locs 0 0 (MQ below (va_Qv (fun (_ : Unit) => True) (fun _ t => kE D ct ad G A y t) A) ([.ref (ad a), va_re ad p0, .int p1] : List Value).toArray s 0 0 A) (F0 m 205 ls []) := by
            intro H locs ls hP hD hS hl
            obtain ⟨x21, ex21, hF⟩ := ltt_some hF
            refine lv_iinc (v := x21) (lv' := [(4, .int x21), (7, .int y18.1), (6, .int y17.1), (5, .int x12), (3, .int y1.1), (0, .ref (ad a)), (1, va_re ad p0), (2, .int p1)]) hx hb dX6_predictByLists_205 hl (k := 3) rfl (by rw [ex21]; rfl) (by decide) rfl (fun ls hl => ?_)
            refine lv_goto (tgt := 71) hx hb dX6_predictByLists_208 (by decide) ?_
            obtain rfl := Option.some.inj hF
            exact hwz8 _ _ _ hP hD hS (lv_sub hl [0, 4, 5, 6, 7] rfl)
          clear hF
          refine itr_rule (fun (s19 : Int32 × DD) => ∀ (H : Heap) (locs : List Loc) (ls : Array Slot), va_P D classes (wld ct ad G s19.2) H → va_D A (wld ct ad G s19.2) → va_S A s.heap H locs → lv_has ls 8 [(7, .int s19.1), (6, .int y17.1), (5, .int x12), (4, .int s6.1), (3, .int y1.1), (0, .ref (ad a)), (1, va_re ad p0), (2, .int p1)] → W p l e (headSpec wsX6_predictByLists ({ frames := 4, cells := 0, slots := 0, locals := 113 })).room s m ([.ref (ad a), va_re ad p0, .int p1] : List Value).toArray below meth c H locs 0 0 (MQ below (va_Qv (fun (_ : Unit) => True) (fun _ t => kE D ct ad G A y t) A) ([.ref (ad a), va_re ad p0, .int p1] : List Value).toArray s 0 0 A) (F0 m 146 ls [])) ?_ _ _ hy18 _ _ _ hP hD hS (lv_sub hl [0, 1, 2, 3, 4, 5, 6, 7] rfl)
          rintro s19 ⟨z22, hF, hwz22⟩ H locs ls hP hD hS hl
          try dsimp only at hF
          refine lv_iload hx hb dX6_predictByLists_146 (lv_at hl 0 rfl) ?_
          refine lv_iload hx hb dX6_predictByLists_148 (lv_at hl 1 rfl) ?_
          obtain ⟨y23, hy23, hF⟩ := bnd_some hF
          have J23 : ∀ (H : Heap) (locs : List Loc) (ls : Array Slot), va_P D classes (wld ct ad G s19.2) H → va_D A (wld ct ad G s19.2) → va_S A s.heap H locs → lv_has ls 8 [(7, .int s19.1), (6, .int y17.1), (5, .int x12), (4, .int s6.1), (3, .int y1.1), (0, .ref (ad a)), (1, va_re ad p0), (2, .int p1)] → W p l e (headSpec wsX6_predictByLists ({ frames := 4, cells := 0, slots := 0, locals := 113 })).room s m ([.ref (ad a), va_re ad p0, .int p1] : List Value).toArray below meth c H locs 0 0 (MQ below (va_Qv (fun (_ : Unit) => True) (fun _ t => kE D ct ad G A y t) A) ([.ref (ad a), va_re ad p0, .int p1] : List Value).toArray s 0 0 A) (F0 m 158 ls [.int y23, .int s19.1]) := by
            intro H locs ls hP hD hS hl
            refine lv_icmp_ge (tgt := 205) hx hb dX6_predictByLists_158 (by decide) (fun c24 => ?_) (fun c24 => ?_)
            · rw [if_pos c24] at hF
              obtain rfl := Option.some.inj hF
              subst hwz22
              exact K18 _ _ _ hP hD hS (lv_sub hl [0, 1, 2, 3, 4, 5, 6, 7] rfl)
            · rw [if_neg c24] at hF
              refine lv_aload_n hx hb dX6_predictByLists_161 rfl (lv_at hl 5 rfl) ?_
              refine lv_aloadq_n hx hb dX6_predictByLists_162 rfl (lv_at hl 6 rfl) ?_
              refine W_st (st' := [.ref (ad b13), .ref (ad a)]) (by rw [va_some ho13]) ?_
              refine va_get (D := D) (ci := 9) (v := va_re ad (s19.2.2 b13 0)) (C := RX9) (T := TX9) (N := 20) hx hb hts (by decide +kernel) hown hK hP b13 (wld_o ct ad G s19.2 hc13 hk13 (by decide)) rfl 0 (by decide) (hts (.fieldLink RX6 46 "VideoSuite$Work" "pic" "LVideoSuite$Picture;") (by decide +kernel)) (fun _ h9 => h9) rfl dX6_predictByLists_163 ?_
              refine lv_iload hx hb dX6_predictByLists_166 (lv_at hl 2 rfl) ?_
              refine lv_iload hx hb dX6_predictByLists_168 (lv_at hl 0 rfl) ?_
              refine lv_iadd hx hb dX6_predictByLists_170 ?_
              obtain ⟨x25, ex25, hF⟩ := ltt_some hF
              refine lv_topi (fun zx25 ezx25 => ?_)
              obtain rfl : x25 = zx25 := ex25.trans ezx25.symm
              obtain ⟨y26, hy26, hF⟩ := bnd_some hF
              have hf9 := wA_in hD hA9 hS
              refine va_callv (va_runV (As := [va_re ad (s19.2.2 b13 0), .int x25]) (rest := []) ⟨hx, hb, hml, hown, hts⟩ (kX6_takeMotion l D ct ad Z G s19.2 H.size a ((s19.2.2 b13 0)) x25 y26 hc hk hy26) (cwV 2 hts gX6_predictByLists_X6_takeMotion rfl rfl rfl (by decide +kernel) ⟨Nat.le_of_ble_eq_true rfl, Nat.le_of_ble_eq_true rfl⟩) ⟨fun a U g mk q => by obtain ⟨q0, q1, qP, qK, qD, qZ, qN⟩ := q; exact ⟨q0, q1, qP, va_K.moved (u := U) (U := U.calling g mk a) (Vm.Alike.refl U.vm) qK, qD, sF.moved (u := U) (U := U.calling g mk a) (Vm.Alike.refl U.vm) qZ, nF.same rfl qN⟩, va_recv hK hP (ci := 6) (q0 := a) rfl (wld_o ct ad G s19.2 hc hk (by decide)), fun U hU hW => ⟨rfl, by rw [hU], by rw [hU]; exact hP, va_K.moved hW.alike hK, hD.weaken (fun _ _ _ _ => trivial), by rw [hU]; exact ((hZ.kept hS.2.1).narrow hf9).moved hW.alike, hN.warm hW⟩⟩ rfl rfl hl.1 rfl (lv_room (Nat.le_of_ble_eq_true rfl)) dX6_predictByLists_171 ⟨(Nat.zero_le _), (Nat.zero_le _)⟩) hS (fun q _ h => hf9 q h) hf9 (fun u t H locs ht hvm hw hB hz1 hk1 hS => ?_)
              obtain ⟨hP, hK9, hD9⟩ := hB
              rw [ht] at hP
              have hD := hD9.weaken (fun _ q _ h => hf9 q.1 h)
              refine lv_aload_n hx hb dX6_predictByLists_174 rfl (lv_at hl 5 rfl) ?_
              refine lv_aloadq_n hx hb dX6_predictByLists_175 rfl (lv_at hl 6 rfl) ?_
              refine lv_iload_n hx hb dX6_predictByLists_176 rfl (lv_at hl 7 rfl) ?_
              refine lv_iconst (v := (4 : Int32)) hx hb dX6_predictByLists_177 (by decide) ?_
              refine lv_iload hx hb dX6_predictByLists_178 (lv_at hl 3 rfl) ?_
              refine lv_imul hx hb dX6_predictByLists_180 ?_
              obtain ⟨x27, ex27, hF⟩ := ltt_some hF
              refine lv_topi (fun zx27 ezx27 => ?_)
              obtain rfl : x27 = zx27 := ex27.trans ezx27.symm
              refine lv_iload hx hb dX6_predictByLists_181 (lv_at hl 0 rfl) ?_
              refine lv_iadd hx hb dX6_predictByLists_183 ?_
              obtain ⟨x28, ex28, hF⟩ := ltt_some hF
              refine lv_topi (fun zx28 ezx28 => ?_)
              obtain rfl : x28 = zx28 := ex28.trans ezx28.symm
              refine lv_iload hx hb dX6_predictByLists_184 (lv_at hl 1 rfl) ?_
              obtain ⟨y29, hy29, hF⟩ := bnd_some hF
              have J29 : ∀ (H : Heap) (locs : List Loc) (ls : Array Slot), va_P D classes (wld ct ad G y26) H → va_D A (wld ct ad G y26) → va_S A s.heap H locs → lv_has ls 8 [(7, .int s19.1), (6, .int y17.1), (5, .int x12), (4, .int s6.1), (3, .int y1.1), (0, .ref (ad a)), (1, va_re ad p0), (2, .int p1)] → W p l e (headSpec wsX6_predictByLists ({ frames := 4, cells := 0, slots := 0, locals := 113 })).room s m ([.ref (ad a), va_re ad p0, .int p1] : List Value).toArray below meth c H locs 0 0 (MQ below (va_Qv (fun (_ : Unit) => True) (fun _ t => kE D ct ad G A y t) A) ([.ref (ad a), va_re ad p0, .int p1] : List Value).toArray s 0 0 A) (F0 m 195 ls [.int y29, .int x28, .int p1, va_re ad p0, .ref (ad a)]) := by
                intro H locs ls hP hD hS hl
                refine lv_iconst (v := (1 : Int32)) hx hb dX6_predictByLists_195 (by decide) ?_
                obtain ⟨y30, hy30, hF⟩ := bnd_some hF
                have hf9 := wA_in hD hA9 hS
                refine va_callv (va_runV (As := [va_re ad p0, .int p1, .int x28, .int y29, .int (1 : Int32)]) (rest := []) ⟨hx, hb, hml, hown, hts⟩ (kX6_predictRegion l D ct ad Z G y26 H.size a p0 p1 x28 y29 ((1 : Int32)) y30 hc hk hy30) (cwV 5 hts gX6_predictByLists_X6_predictRegion rfl rfl rfl (by decide +kernel) ⟨Nat.le_of_ble_eq_true rfl, Nat.le_of_ble_eq_true rfl⟩) ⟨fun a U g mk q => by obtain ⟨q0, q1, qP, qK, qD, qZ, qN⟩ := q; exact ⟨q0, q1, qP, va_K.moved (u := U) (U := U.calling g mk a) (Vm.Alike.refl U.vm) qK, qD, sF.moved (u := U) (U := U.calling g mk a) (Vm.Alike.refl U.vm) qZ, nF.same rfl qN⟩, va_recv hK hP (ci := 6) (q0 := a) rfl (wld_o ct ad G y26 hc hk (by decide)), fun U hU hW => ⟨rfl, by rw [hU], by rw [hU]; exact hP, va_K.moved hW.alike hK, hD.weaken (fun _ _ _ _ => trivial), by rw [hU]; exact ((hZ.kept hS.2.1).narrow hf9).moved hW.alike, hN.warm hW⟩⟩ rfl rfl hl.1 rfl (lv_room (Nat.le_of_ble_eq_true rfl)) dX6_predictByLists_196 ⟨(Nat.zero_le _), (Nat.zero_le _)⟩) hS (fun q _ h => hf9 q h) hf9 (fun u t H locs ht hvm hw hB hz1 hk1 hS => ?_)
                obtain ⟨hP, hK9, hD9⟩ := hB
                rw [ht] at hP
                have hD := hD9.weaken (fun _ q _ h => hf9 q.1 h)
                obtain ⟨x31, ex31, hF⟩ := ltt_some hF
                refine lv_iinc (v := x31) (lv' := [(7, .int x31), (6, .int y17.1), (5, .int x12), (4, .int s6.1), (3, .int y1.1), (0, .ref (ad a)), (1, va_re ad p0), (2, .int p1)]) hx hb dX6_predictByLists_199 hl (k := 0) rfl (by rw [ex31]; rfl) (by decide) rfl (fun ls hl => ?_)
                refine lv_goto (tgt := 146) hx hb dX6_predictByLists_202 (by decide) ?_
                obtain rfl := Option.some.inj hF
                exact hwz22 _ _ _ hP hD hS (lv_sub hl [0, 1, 2, 3, 4, 5, 6, 7] rfl)
              clear hF
              have hF := hy29
              clear hy29
              refine lv_if_eq (tgt := 194) hx hb dX6_predictByLists_186 (by decide) (fun c32 => ?_) (fun c32 => ?_)
              · rw [if_pos c32] at hF
                refine lv_iconst (v := (4 : Int32)) hx hb dX6_predictByLists_194 (by decide) ?_
                obtain rfl := Option.some.inj hF
                exact J29 _ _ _ hP hD hS (lv_sub hl [0, 1, 2, 3, 4, 5, 6, 7] rfl)
              · rw [if_neg c32] at hF
                refine lv_bipush (v := (8 : Int32)) hx hb dX6_predictByLists_189 (by decide) ?_
                refine lv_goto (tgt := 195) hx hb dX6_predictByLists_191 (by decide) ?_
                obtain rfl := Option.some.inj hF
                exact J29 _ _ _ hP hD hS (lv_sub hl [0, 1, 2, 3, 4, 5, 6, 7] rfl)
          clear hF
          have hF := hy23
          clear hy23
          refine lv_if_eq (tgt := 157) hx hb dX6_predictByLists_150 (by decide) (fun c33 => ?_) (fun c33 => ?_)
          · rw [if_pos c33] at hF
            refine lv_iconst (v := (4 : Int32)) hx hb dX6_predictByLists_157 (by decide) ?_
            obtain rfl := Option.some.inj hF
            exact J23 _ _ _ hP hD hS (lv_sub hl [0, 1, 2, 3, 4, 5, 6, 7] rfl)
          · rw [if_neg c33] at hF
            refine lv_iconst (v := (1 : Int32)) hx hb dX6_predictByLists_153 (by decide) ?_
            refine lv_goto (tgt := 158) hx hb dX6_predictByLists_154 (by decide) ?_
            obtain rfl := Option.some.inj hF
            exact J23 _ _ _ hP hD hS (lv_sub hl [0, 1, 2, 3, 4, 5, 6, 7] rfl)
        clear hF
        have hF := hy17
        clear hy17
        refine lv_if_eq (tgt := 140) hx hb dX6_predictByLists_101 (by decide) (fun c34 => ?_) (fun c34 => ?_)
        · rw [if_pos c34] at hF
          refine lv_iconst (v := (0 : Int32)) hx hb dX6_predictByLists_140 (by decide) ?_
          obtain rfl := Option.some.inj hF
          exact J17 _ _ _ hP hD hS (lv_sub hl [0, 1, 2, 3, 4, 5] rfl)
        · rw [if_neg c34] at hF
          refine lv_aloadq_n hx hb dX6_predictByLists_104 rfl (lv_at hl 4 rfl) ?_
          refine W_st (st' := [.ref (ad b13)]) (by rw [va_some ho13]) ?_
          refine va_get (D := D) (ci := 9) (v := va_re ad (y16.1.2 b13 0)) (C := RX9) (T := TX9) (N := 20) hx hb hts (by decide +kernel) hown hK hP b13 (wld_o ct ad G y16.1 hc13 hk13 (by decide)) rfl 0 (by decide) (hts (.fieldLink RX6 46 "VideoSuite$Work" "pic" "LVideoSuite$Picture;") (by decide +kernel)) (fun _ h9 => h9) rfl dX6_predictByLists_105 ?_
          refine lv_iload hx hb dX6_predictByLists_108 (lv_at hl 0 rfl) ?_
          refine lv_iload hx hb dX6_predictByLists_110 (lv_at hl 0 rfl) ?_
          refine lv_iconst (v := (2 : Int32)) hx hb dX6_predictByLists_112 (by decide) ?_
          refine lv_iadd hx hb dX6_predictByLists_113 ?_
          obtain ⟨x35, ex35, hF⟩ := ltt_some hF
          refine lv_topi (fun zx35 ezx35 => ?_)
          obtain rfl : x35 = zx35 := ex35.trans ezx35.symm
          obtain ⟨b36, ho36, hc36, hk36, hF⟩ := dr_some hF
          refine W_st (st' := [.int x35, .int x12, .ref (ad b36)]) (by rw [va_some ho36]) ?_
          obtain ⟨y37, hy37, hF⟩ := bnd_some hF
          have hf9 := wA_in hD hA9 hS
          refine va_calli (va_runV (As := [.int x12, .int x35]) (rest := []) ⟨hx, hb, hml, hown, hts⟩ (kX4_movesAlike l D ct ad Z G y16.1 H.size b36 x12 x35 y37 hc36 hk36 hy37) (cwV 2 hts gX6_predictByLists_X4_movesAlike rfl rfl rfl (by decide +kernel) ⟨Nat.le_of_ble_eq_true rfl, Nat.le_of_ble_eq_true rfl⟩) ⟨fun a U g mk q => by obtain ⟨q0, q1, qP, qK, qD, qZ, qN⟩ := q; exact ⟨q0, q1, qP, va_K.moved (u := U) (U := U.calling g mk a) (Vm.Alike.refl U.vm) qK, qD, sF.moved (u := U) (U := U.calling g mk a) (Vm.Alike.refl U.vm) qZ, nF.same rfl qN⟩, va_recv hK hP (ci := 4) (q0 := b36) rfl (wld_o ct ad G y16.1 hc36 hk36 (by decide)), fun U hU hW => ⟨rfl, by rw [hU], by rw [hU]; exact hP, va_K.moved hW.alike hK, hD.weaken (fun _ _ _ _ => trivial), by rw [hU]; exact ((hZ.kept hS.2.1).narrow hf9).moved hW.alike, hN.warm hW⟩⟩ rfl rfl hl.1 rfl (lv_room (Nat.le_of_ble_eq_true rfl)) dX6_predictByLists_114 ⟨(Nat.zero_le _), (Nat.zero_le _)⟩) hS (fun q _ h => hf9 q h) hf9 (fun r u t H locs ht hvm hw hB hz1 hk1 hS => ?_)
          obtain ⟨hP, hK9, hD9⟩ := hB
          rw [ht] at hP
          try dsimp only at hw
          subst hw
          have hD := hD9.weaken (fun _ q _ h => hf9 q.1 h)
          obtain ⟨y38, hy38, hF⟩ := bnd_some hF
          have J38 : ∀ (H : Heap) (locs : List Loc) (ls : Array Slot), va_P D classes (wld ct ad G y38.2) H → va_D A (wld ct ad G y38.2) → va_S A s.heap H locs → lv_has ls 8 [(5, .int x12), (4, .int s6.1), (3, .int y1.1), (0, .ref (ad a)), (1, va_re ad p0), (2, .int p1)] → W p l e (headSpec wsX6_predictByLists ({ frames := 4, cells := 0, slots := 0, locals := 113 })).room s m ([.ref (ad a), va_re ad p0, .int p1] : List Value).toArray below meth c H locs 0 0 (MQ below (va_Qv (fun (_ : Unit) => True) (fun _ t => kE D ct ad G A y t) A) ([.ref (ad a), va_re ad p0, .int p1] : List Value).toArray s 0 0 A) (F0 m 141 ls [.int y38.1]) := by
            intro H locs ls hP hD hS hl
            obtain rfl := Option.some.inj hF
            exact J17 _ _ _ hP hD hS (lv_sub hl [0, 1, 2, 3, 4, 5] rfl)
          clear hF
          have hF := hy38
          clear hy38
          refine lv_if_eq (tgt := 140) hx hb dX6_predictByLists_117 (by decide) (fun c39 => ?_) (fun c39 => ?_)
          · rw [if_pos c39] at hF
            refine lv_iconst (v := (0 : Int32)) hx hb dX6_predictByLists_140 (by decide) ?_
            obtain rfl := Option.some.inj hF
            exact J38 _ _ _ hP hD hS (lv_sub hl [0, 1, 2, 3, 4, 5] rfl)
          · rw [if_neg c39] at hF
            refine lv_aloadq_n hx hb dX6_predictByLists_120 rfl (lv_at hl 4 rfl) ?_
            refine W_st (st' := [.ref (ad b13)]) (by rw [va_some ho13]) ?_
            refine va_get (D := D) (ci := 9) (v := va_re ad (y37.1.2 b13 0)) (C := RX9) (T := TX9) (N := 20) hx hb hts (by decide +kernel) hown hK hP b13 (wld_o ct ad G y37.1 hc13 hk13 (by decide)) rfl 0 (by decide) (hts (.fieldLink RX6 46 "VideoSuite$Work" "pic" "LVideoSuite$Picture;") (by decide +kernel)) (fun _ h9 => h9) rfl dX6_predictByLists_121 ?_
            refine lv_iload hx hb dX6_predictByLists_124 (lv_at hl 0 rfl) ?_
            refine lv_iload hx hb dX6_predictByLists_126 (lv_at hl 0 rfl) ?_
            refine lv_iconst (v := (3 : Int32)) hx hb dX6_predictByLists_128 (by decide) ?_
            refine lv_iadd hx hb dX6_predictByLists_129 ?_
            obtain ⟨x40, ex40, hF⟩ := ltt_some hF
            refine lv_topi (fun zx40 ezx40 => ?_)
            obtain rfl : x40 = zx40 := ex40.trans ezx40.symm
            obtain ⟨b41, ho41, hc41, hk41, hF⟩ := dr_some hF
            refine W_st (st' := [.int x40, .int x12, .ref (ad b41)]) (by rw [va_some ho41]) ?_
            obtain ⟨y42, hy42, hF⟩ := bnd_some hF
            have hf9 := wA_in hD hA9 hS
            refine va_calli (va_runV (As := [.int x12, .int x40]) (rest := []) ⟨hx, hb, hml, hown, hts⟩ (kX4_movesAlike l D ct ad Z G y37.1 H.size b41 x12 x40 y42 hc41 hk41 hy42) (cwV 2 hts gX6_predictByLists_X4_movesAlike rfl rfl rfl (by decide +kernel) ⟨Nat.le_of_ble_eq_true rfl, Nat.le_of_ble_eq_true rfl⟩) ⟨fun a U g mk q => by obtain ⟨q0, q1, qP, qK, qD, qZ, qN⟩ := q; exact ⟨q0, q1, qP, va_K.moved (u := U) (U := U.calling g mk a) (Vm.Alike.refl U.vm) qK, qD, sF.moved (u := U) (U := U.calling g mk a) (Vm.Alike.refl U.vm) qZ, nF.same rfl qN⟩, va_recv hK hP (ci := 4) (q0 := b41) rfl (wld_o ct ad G y37.1 hc41 hk41 (by decide)), fun U hU hW => ⟨rfl, by rw [hU], by rw [hU]; exact hP, va_K.moved hW.alike hK, hD.weaken (fun _ _ _ _ => trivial), by rw [hU]; exact ((hZ.kept hS.2.1).narrow hf9).moved hW.alike, hN.warm hW⟩⟩ rfl rfl hl.1 rfl (lv_room (Nat.le_of_ble_eq_true rfl)) dX6_predictByLists_130 ⟨(Nat.zero_le _), (Nat.zero_le _)⟩) hS (fun q _ h => hf9 q h) hf9 (fun r u t H locs ht hvm hw hB hz1 hk1 hS => ?_)
            obtain ⟨hP, hK9, hD9⟩ := hB
            rw [ht] at hP
            try dsimp only at hw
            subst hw
            have hD := hD9.weaken (fun _ q _ h => hf9 q.1 h)
            obtain ⟨y43, hy43, hF⟩ := bnd_some hF
            have J43 : ∀ (H : Heap) (locs : List Loc) (ls : Array Slot), va_P D classes (wld ct ad G y42.1) H → va_D A (wld ct ad G y42.1) → va_S A s.heap H locs → lv_has ls 8 [(5, .int x12), (4, .int s6.1), (3, .int y1.1), (0, .ref (ad a)), (1, va_re ad p0), (2, .int p1)] → W p l e (headSpec wsX6_predictByLists ({ frames := 4, cells := 0, slots := 0, locals := 113 })).room s m ([.ref (ad a), va_re ad p0, .int p1] : List Value).toArray below meth c H locs 0 0 (MQ below (va_Qv (fun (_ : Unit) => True) (fun _ t => kE D ct ad G A y t) A) ([.ref (ad a), va_re ad p0, .int p1] : List Value).toArray s 0 0 A) (F0 m 141 ls [.int y43]) := by
              intro H locs ls hP hD hS hl
              obtain rfl := Option.some.inj hF
              exact J38 _ _ _ hP hD hS (lv_sub hl [0, 1, 2, 3, 4, 5] rfl)
            clear hF
            have hF := hy43
            clear hy43
            refine lv_if_eq (tgt := 140) hx hb dX6_predictByLists_133 (by decide) (fun c44 => ?_) (fun c44 => ?_)
            · rw [if_pos c44] at hF
              refine lv_iconst (v := (0 : Int32)) hx hb dX6_predictByLists_140 (by decide) ?_
              obtain rfl := Option.some.inj hF
              exact J43 _ _ _ hP hD hS (lv_sub hl [0, 1, 2, 3, 4, 5] rfl)
            · rw [if_neg c44] at hF
              refine lv_iconst (v := (1 : Int32)) hx hb dX6_predictByLists_136 (by decide) ?_
              refine lv_goto (tgt := 141) hx hb dX6_predictByLists_137 (by decide) ?_
              obtain rfl := Option.some.inj hF
              exact J43 _ _ _ hP hD hS (lv_sub hl [0, 1, 2, 3, 4, 5] rfl)
    · rw [if_neg c4] at hF
      refine lv_aload_n hx hb dX6_predictByLists_45 rfl (lv_at hl 2 rfl) ?_
      refine lv_aloadq_n hx hb dX6_predictByLists_46 rfl (lv_at hl 3 rfl) ?_
      obtain ⟨b45, ho45, hc45, hk45, hF⟩ := dr_some hF
      refine W_st (st' := [.ref (ad b45), .ref (ad a)]) (by rw [va_some ho45]) ?_
      refine va_get (D := D) (ci := 9) (v := va_re ad (y1.2.2.2 b45 0)) (C := RX9) (T := TX9) (N := 20) hx hb hts (by decide +kernel) hown hK hP b45 (wld_o ct ad G y1.2.2 hc45 hk45 (by decide)) rfl 0 (by decide) (hts (.fieldLink RX6 46 "VideoSuite$Work" "pic" "LVideoSuite$Picture;") (by decide +kernel)) (fun _ h9 => h9) rfl dX6_predictByLists_47 ?_
      refine lv_bipush (v := (16 : Int32)) hx hb dX6_predictByLists_50 (by decide) ?_
      refine lv_iload_n hx hb dX6_predictByLists_52 rfl (lv_at hl 4 rfl) ?_
      refine lv_imul hx hb dX6_predictByLists_53 ?_
      obtain ⟨x46, ex46, hF⟩ := ltt_some hF
      refine lv_topi (fun zx46 ezx46 => ?_)
      obtain rfl : x46 = zx46 := ex46.trans ezx46.symm
      obtain ⟨y47, hy47, hF⟩ := bnd_some hF
      have hf9 := wA_in hD hA9 hS
      refine va_callv (va_runV (As := [va_re ad (y1.2.2.2 b45 0), .int x46]) (rest := []) ⟨hx, hb, hml, hown, hts⟩ (kX6_takeMotion l D ct ad Z G y1.2.2 H.size a ((y1.2.2.2 b45 0)) x46 y47 hc hk hy47) (cwV 2 hts gX6_predictByLists_X6_takeMotion rfl rfl rfl (by decide +kernel) ⟨Nat.le_of_ble_eq_true rfl, Nat.le_of_ble_eq_true rfl⟩) ⟨fun a U g mk q => by obtain ⟨q0, q1, qP, qK, qD, qZ, qN⟩ := q; exact ⟨q0, q1, qP, va_K.moved (u := U) (U := U.calling g mk a) (Vm.Alike.refl U.vm) qK, qD, sF.moved (u := U) (U := U.calling g mk a) (Vm.Alike.refl U.vm) qZ, nF.same rfl qN⟩, va_recv hK hP (ci := 6) (q0 := a) rfl (wld_o ct ad G y1.2.2 hc hk (by decide)), fun U hU hW => ⟨rfl, by rw [hU], by rw [hU]; exact hP, va_K.moved hW.alike hK, hD.weaken (fun _ _ _ _ => trivial), by rw [hU]; exact ((hZ.kept hS.2.1).narrow hf9).moved hW.alike, hN.warm hW⟩⟩ rfl rfl hl.1 rfl (lv_room (Nat.le_of_ble_eq_true rfl)) dX6_predictByLists_54 ⟨(Nat.zero_le _), (Nat.zero_le _)⟩) hS (fun q _ h => hf9 q h) hf9 (fun u t H locs ht hvm hw hB hz1 hk1 hS => ?_)
      obtain ⟨hP, hK9, hD9⟩ := hB
      rw [ht] at hP
      have hD := hD9.weaken (fun _ q _ h => hf9 q.1 h)
      refine lv_aload_n hx hb dX6_predictByLists_57 rfl (lv_at hl 2 rfl) ?_
      refine lv_aloadq_n hx hb dX6_predictByLists_58 rfl (lv_at hl 3 rfl) ?_
      refine lv_iload_n hx hb dX6_predictByLists_59 rfl (lv_at hl 4 rfl) ?_
      refine lv_iconst (v := (0 : Int32)) hx hb dX6_predictByLists_60 (by decide) ?_
      refine lv_bipush (v := (16 : Int32)) hx hb dX6_predictByLists_61 (by decide) ?_
      refine lv_iconst (v := (1 : Int32)) hx hb dX6_predictByLists_63 (by decide) ?_
      obtain ⟨y48, hy48, hF⟩ := bnd_some hF
      have hf9 := wA_in hD hA9 hS
      refine va_callv (va_runV (As := [va_re ad p0, .int p1, .int (0 : Int32), .int (16 : Int32), .int (1 : Int32)]) (rest := []) ⟨hx, hb, hml, hown, hts⟩ (kX6_predictRegion l D ct ad Z G y47 H.size a p0 p1 ((0 : Int32)) ((16 : Int32)) ((1 : Int32)) y48 hc hk hy48) (cwV 5 hts gX6_predictByLists_X6_predictRegion rfl rfl rfl (by decide +kernel) ⟨Nat.le_of_ble_eq_true rfl, Nat.le_of_ble_eq_true rfl⟩) ⟨fun a U g mk q => by obtain ⟨q0, q1, qP, qK, qD, qZ, qN⟩ := q; exact ⟨q0, q1, qP, va_K.moved (u := U) (U := U.calling g mk a) (Vm.Alike.refl U.vm) qK, qD, sF.moved (u := U) (U := U.calling g mk a) (Vm.Alike.refl U.vm) qZ, nF.same rfl qN⟩, va_recv hK hP (ci := 6) (q0 := a) rfl (wld_o ct ad G y47 hc hk (by decide)), fun U hU hW => ⟨rfl, by rw [hU], by rw [hU]; exact hP, va_K.moved hW.alike hK, hD.weaken (fun _ _ _ _ => trivial), by rw [hU]; exact ((hZ.kept hS.2.1).narrow hf9).moved hW.alike, hN.warm hW⟩⟩ rfl rfl hl.1 rfl (lv_room (Nat.le_of_ble_eq_true rfl)) dX6_predictByLists_64 ⟨(Nat.zero_le _), (Nat.zero_le _)⟩) hS (fun q _ h => hf9 q h) hf9 (fun u t H locs ht hvm hw hB hz1 hk1 hS => ?_)
      obtain ⟨hP, hK9, hD9⟩ := hB
      rw [ht] at hP
      have hD := hD9.weaken (fun _ q _ h => hf9 q.1 h)
      obtain rfl := Option.some.inj hF
      exact W.vret hx hb hr (fun t ht hW => ⟨⟨(), rfl, trivial, ⟨by rw [ht]; exact hP, va_K.moved hW.alike hK, hD⟩⟩, hS.F ht⟩) hS.2.2 dX6_predictByLists_67
  clear hF
  refine itr_rule (fun (s2 : Int32 × Int32 × DD) => ∀ (H : Heap) (locs : List Loc) (ls : Array Slot), va_P D classes (wld ct ad G s2.2.2) H → va_D A (wld ct ad G s2.2.2) → va_S A s.heap H locs → lv_has ls 8 [(4, .int s2.2.1), (3, .int s2.1), (0, .ref (ad a)), (1, va_re ad p0), (2, .int p1)] → W p l e (headSpec wsX6_predictByLists ({ frames := 4, cells := 0, slots := 0, locals := 113 })).room s m ([.ref (ad a), va_re ad p0, .int p1] : List Value).toArray below meth c H locs 0 0 (MQ below (va_Qv (fun (_ : Unit) => True) (fun _ t => kE D ct ad G A y t) A) ([.ref (ad a), va_re ad p0, .int p1] : List Value).toArray s 0 0 A) (F0 m 5 ls [])) ?_ _ _ hy1 _ _ _ hP hD hS (lv_sub hl [0, 1, 2, 3, 4] rfl)
  rintro s2 ⟨z49, hF, hwz49⟩ H locs ls hP hD hS hl
  try dsimp only at hF
  refine lv_iload hx hb dX6_predictByLists_5 (lv_at hl 0 rfl) ?_
  refine lv_bipush (v := (16 : Int32)) hx hb dX6_predictByLists_7 (by decide) ?_
  refine lv_icmp_ge (tgt := 41) hx hb dX6_predictByLists_9 (by decide) (fun c50 => ?_) (fun c50 => ?_)
  · rw [if_pos c50] at hF
    obtain rfl := Option.some.inj hF
    subst hwz49
    exact K1 _ _ _ hP hD hS (lv_sub hl [0, 1, 2, 3, 4] rfl)
  · rw [if_neg c50] at hF
    refine lv_iload_n hx hb dX6_predictByLists_12 rfl (lv_at hl 1 rfl) ?_
    refine lv_if_eq (tgt := 41) hx hb dX6_predictByLists_13 (by decide) (fun c51 => ?_) (fun c51 => ?_)
    · rw [if_pos c51] at hF
      obtain rfl := Option.some.inj hF
      subst hwz49
      exact K1 _ _ _ hP hD hS (lv_sub hl [0, 1, 2, 3, 4] rfl)
    · rw [if_neg c51] at hF
      refine lv_aloadq_n hx hb dX6_predictByLists_16 rfl (lv_at hl 3 rfl) ?_
      obtain ⟨b52, ho52, hc52, hk52, hF⟩ := dr_some hF
      refine W_st (st' := [.ref (ad b52)]) (by rw [va_some ho52]) ?_
      refine va_get (D := D) (ci := 9) (v := va_re ad (s2.2.2.2 b52 0)) (C := RX9) (T := TX9) (N := 20) hx hb hts (by decide +kernel) hown hK hP b52 (wld_o ct ad G s2.2.2 hc52 hk52 (by decide)) rfl 0 (by decide) (hts (.fieldLink RX6 46 "VideoSuite$Work" "pic" "LVideoSuite$Picture;") (by decide +kernel)) (fun _ h9 => h9) rfl dX6_predictByLists_17 ?_
      refine lv_bipush (v := (16 : Int32)) hx hb dX6_predictByLists_20 (by decide) ?_
      refine lv_iload_n hx hb dX6_predictByLists_22 rfl (lv_at hl 4 rfl) ?_
      refine lv_imul hx hb dX6_predictByLists_23 ?_
      obtain ⟨x53, ex53, hF⟩ := ltt_some hF
      refine lv_topi (fun zx53 ezx53 => ?_)
      obtain rfl : x53 = zx53 := ex53.trans ezx53.symm
      refine lv_bipush (v := (16 : Int32)) hx hb dX6_predictByLists_24 (by decide) ?_
      refine lv_iload_n hx hb dX6_predictByLists_26 rfl (lv_at hl 4 rfl) ?_
      refine lv_imul hx hb dX6_predictByLists_27 ?_
      obtain ⟨x54, ex54, hF⟩ := ltt_some hF
      refine lv_topi (fun zx54 ezx54 => ?_)
      obtain rfl : x54 = zx54 := ex54.trans ezx54.symm
      refine lv_iload hx hb dX6_predictByLists_28 (lv_at hl 0 rfl) ?_
      refine lv_iadd hx hb dX6_predictByLists_30 ?_
      obtain ⟨x55, ex55, hF⟩ := ltt_some hF
      refine lv_topi (fun zx55 ezx55 => ?_)
      obtain rfl : x55 = zx55 := ex55.trans ezx55.symm
      obtain ⟨b56, ho56, hc56, hk56, hF⟩ := dr_some hF
      refine W_st (st' := [.int x55, .int x53, .ref (ad b56)]) (by rw [va_some ho56]) ?_
      obtain ⟨y57, hy57, hF⟩ := bnd_some hF
      have hf9 := wA_in hD hA9 hS
      refine va_calli (va_runV (As := [.int x53, .int x55]) (rest := []) ⟨hx, hb, hml, hown, hts⟩ (kX4_movesAlike l D ct ad Z G s2.2.2 H.size b56 x53 x55 y57 hc56 hk56 hy57) (cwV 2 hts gX6_predictByLists_X4_movesAlike rfl rfl rfl (by decide +kernel) ⟨Nat.le_of_ble_eq_true rfl, Nat.le_of_ble_eq_true rfl⟩) ⟨fun a U g mk q => by obtain ⟨q0, q1, qP, qK, qD, qZ, qN⟩ := q; exact ⟨q0, q1, qP, va_K.moved (u := U) (U := U.calling g mk a) (Vm.Alike.refl U.vm) qK, qD, sF.moved (u := U) (U := U.calling g mk a) (Vm.Alike.refl U.vm) qZ, nF.same rfl qN⟩, va_recv hK hP (ci := 4) (q0 := b56) rfl (wld_o ct ad G s2.2.2 hc56 hk56 (by decide)), fun U hU hW => ⟨rfl, by rw [hU], by rw [hU]; exact hP, va_K.moved hW.alike hK, hD.weaken (fun _ _ _ _ => trivial), by rw [hU]; exact ((hZ.kept hS.2.1).narrow hf9).moved hW.alike, hN.warm hW⟩⟩ rfl rfl hl.1 rfl (lv_room (Nat.le_of_ble_eq_true rfl)) dX6_predictByLists_31 ⟨(Nat.zero_le _), (Nat.zero_le _)⟩) hS (fun q _ h => hf9 q h) hf9 (fun r u t H locs ht hvm hw hB hz1 hk1 hS => ?_)
      obtain ⟨hP, hK9, hD9⟩ := hB
      rw [ht] at hP
      try dsimp only at hw
      subst hw
      have hD := hD9.weaken (fun _ q _ h => hf9 q.1 h)
      refine lv_istore_n (lv' := [(3, .int y57.2), (4, .int s2.2.1), (0, .ref (ad a)), (1, va_re ad p0), (2, .int p1)]) hx hb dX6_predictByLists_34 rfl hl (by decide) rfl (fun ls hl => ?_)
      obtain ⟨x58, ex58, hF⟩ := ltt_some hF
      refine lv_iinc (v := x58) (lv' := [(4, .int x58), (3, .int y57.2), (0, .ref (ad a)), (1, va_re ad p0), (2, .int p1)]) hx hb dX6_predictByLists_35 hl (k := 1) rfl (by rw [ex58]; rfl) (by decide) rfl (fun ls hl => ?_)
      refine lv_goto (tgt := 5) hx hb dX6_predictByLists_38 (by decide) ?_
      obtain rfl := Option.some.inj hF
      exact hwz49 _ _ _ hP hD hS (lv_sub hl [0, 1, 2, 3, 4] rfl)
theorem ggX6_predictFour_X9_pieceX : GoodIn wsX6_predictFour wsX9_pieceX := goodIn_r _ [7] (by decide +kernel) (by decide +kernel)
set_option maxRecDepth 20000 in
theorem gX6_predictFour_X9_pieceX : GoodIn wsX6_predictFour (va_wsS RX6 76 yX9_pieceX wsX9_pieceX) := goodIn_app (goodIn_of _ (by decide +kernel)) ggX6_predictFour_X9_pieceX
set_option maxRecDepth 20000 in
theorem ggX6_predictFour_X9_pieceY : GoodIn wsX6_predictFour wsX9_pieceY := goodIn_r _ [10] (by decide +kernel) (by decide +kernel)
set_option maxRecDepth 20000 in
theorem gX6_predictFour_X9_pieceY : GoodIn wsX6_predictFour (va_wsS RX6 80 yX9_pieceY wsX9_pieceY) := goodIn_app (goodIn_of _ (by decide +kernel)) ggX6_predictFour_X9_pieceY
set_option maxRecDepth 20000 in
theorem ggX6_predictFour_X6_lumaAt : GoodIn wsX6_predictFour wsX6_lumaAt := goodIn_r _ [14, 15, 71, 72, 73, 74, 75, 76, 77, 78, 79, 80, 81, 82, 83, 84, 85, 86, 87, 88] (by decide +kernel) (by decide +kernel)
set_option maxRecDepth 20000 in
theorem gX6_predictFour_X6_lumaAt : GoodIn wsX6_predictFour (va_wsS RX6 175 yX6_lumaAt wsX6_lumaAt) := goodIn_app (goodIn_of _ (by decide +kernel)) ggX6_predictFour_X6_lumaAt
set_option maxRecDepth 20000 in
theorem ggX6_predictFour_X6_takeAround : GoodIn wsX6_predictFour wsX6_takeAround := goodIn_r _ [19, 20, 15, 2, 71, 72, 73, 74, 75, 76, 77, 78, 79, 80, 81, 82, 83, 84, 85, 86, 87, 88, 57, 58, 59, 60, 61, 62, 63, 64, 65, 66, 67, 68, 69, 70] (by decide +kernel) (by decide +kernel)
set_option maxRecDepth 20000 in
theorem gX6_predictFour_X6_takeAround : GoodIn wsX6_predictFour (wsV RX6 179 RX6 yX6_takeAround wsX6_takeAround) := goodIn_app (goodIn_of _ (by decide +kernel)) ggX6_predictFour_X6_takeAround
set_option maxRecDepth 20000 in
theorem ggX6_predictFour_X6_three : GoodIn wsX6_predictFour wsX6_three := goodIn_r _ [28, 2, 57, 58, 59, 60, 61, 62, 63, 64, 65, 66, 67, 68, 69, 70] (by decide +kernel) (by decide +kernel)
set_option maxRecDepth 20000 in
theorem gX6_predictFour_X6_three : GoodIn wsX6_predictFour (wsV RX6 186 RX6 yX6_three wsX6_three) := goodIn_app (goodIn_of _ (by decide +kernel)) ggX6_predictFour_X6_three
set_option maxRecDepth 20000 in
theorem ggX6_predictFour_X6_two : GoodIn wsX6_predictFour wsX6_two := goodIn_r _ [36, 2, 57, 58, 59, 60, 61, 62, 63, 64, 65, 66, 67, 68, 69, 70] (by decide +kernel) (by decide +kernel)
set_option maxRecDepth 20000 in
theorem gX6_predictFour_X6_two : GoodIn wsX6_predictFour (wsV RX6 192 RX6 yX6_two wsX6_two) := goodIn_app (goodIn_of _ (by decide +kernel)) ggX6_predictFour_X6_two
theorem ggX6_predictFour_X6_slant : GoodIn wsX6_predictFour wsX6_slant := goodIn_r _ [32, 33, 34, 35, 13, 36, 2, 25, 26, 27, 28, 57, 58, 59, 60, 61, 62, 63, 64, 65, 66, 67, 68, 69, 70] (by decide +kernel) (by decide +kernel)
set_option maxRecDepth 20000 in
theorem gX6_predictFour_X6_slant : GoodIn wsX6_predictFour (wsV RX6 189 RX6 yX6_slant wsX6_slant) := goodIn_app (goodIn_of _ (by decide +kernel)) ggX6_predictFour_X6_slant
set_option maxRecDepth 20000 in
theorem ggX6_predictFour_X6_meanAround : GoodIn wsX6_predictFour wsX6_meanAround := goodIn_r _ [24, 2, 57, 58, 59, 60, 61, 62, 63, 64, 65, 66, 67, 68, 69, 70] (by decide +kernel) (by decide +kernel)
set_option maxRecDepth 20000 in
theorem gX6_predictFour_X6_meanAround : GoodIn wsX6_predictFour (wsV RX6 183 RX6 yX6_meanAround wsX6_meanAround) := goodIn_app (goodIn_of _ (by decide +kernel)) ggX6_predictFour_X6_meanAround
set_option maxRecDepth 20000 in
theorem dX6_predictFour_0 : decode cX6_predictFour 0 = .ok (.iload_n 3, 1) := by decide +kernel
theorem dX6_predictFour_1 : decode cX6_predictFour 1 = .ok (.invokestatic 76, 3) := by decide +kernel
theorem dX6_predictFour_4 : decode cX6_predictFour 4 = .ok (.istore 6, 2) := by decide +kernel
theorem dX6_predictFour_6 : decode cX6_predictFour 6 = .ok (.iload_n 3, 1) := by decide +kernel
theorem dX6_predictFour_7 : decode cX6_predictFour 7 = .ok (.invokestatic 80, 3) := by decide +kernel
theorem dX6_predictFour_10 : decode cX6_predictFour 10 = .ok (.istore 7, 2) := by decide +kernel
theorem dX6_predictFour_12 : decode cX6_predictFour 12 = .ok (.aload_n 0, 1) := by decide +kernel
theorem dX6_predictFour_13 : decode cX6_predictFour 13 = .ok (.aload_n 1, 1) := by decide +kernel
theorem dX6_predictFour_14 : decode cX6_predictFour 14 = .ok (.getfield 46, 3) := by decide +kernel
theorem dX6_predictFour_17 : decode cX6_predictFour 17 = .ok (.aload_n 1, 1) := by decide +kernel
theorem dX6_predictFour_18 : decode cX6_predictFour 18 = .ok (.getfield 46, 3) := by decide +kernel
theorem dX6_predictFour_21 : decode cX6_predictFour 21 = .ok (.iload_n 2, 1) := by decide +kernel
theorem dX6_predictFour_22 : decode cX6_predictFour 22 = .ok (.iload 6, 2) := by decide +kernel
theorem dX6_predictFour_24 : decode cX6_predictFour 24 = .ok (.iload 7, 2) := by decide +kernel
theorem dX6_predictFour_26 : decode cX6_predictFour 26 = .ok (.invokestatic 175, 3) := by decide +kernel
theorem dX6_predictFour_29 : decode cX6_predictFour 29 = .ok (.iload 5, 2) := by decide +kernel
theorem dX6_predictFour_31 : decode cX6_predictFour 31 = .ok (.invokevirtual 179, 3) := by decide +kernel
theorem dX6_predictFour_34 : decode cX6_predictFour 34 = .ok (.iconst 0, 1) := by decide +kernel
theorem dX6_predictFour_35 : decode cX6_predictFour 35 = .ok (.istore 8, 2) := by decide +kernel
theorem dX6_predictFour_37 : decode cX6_predictFour 37 = .ok (.iload 8, 2) := by decide +kernel
theorem dX6_predictFour_39 : decode cX6_predictFour 39 = .ok (.bipush 16, 2) := by decide +kernel
theorem dX6_predictFour_41 : decode cX6_predictFour 41 = .ok (.if_icmp .ge 377, 3) := by decide +kernel
theorem dX6_predictFour_44 : decode cX6_predictFour 44 = .ok (.iload 8, 2) := by decide +kernel
theorem dX6_predictFour_46 : decode cX6_predictFour 46 = .ok (.iconst 4, 1) := by decide +kernel
theorem dX6_predictFour_47 : decode cX6_predictFour 47 = .ok (.irem, 1) := by decide +kernel
theorem dX6_predictFour_48 : decode cX6_predictFour 48 = .ok (.istore 9, 2) := by decide +kernel
theorem dX6_predictFour_50 : decode cX6_predictFour 50 = .ok (.iload 8, 2) := by decide +kernel
theorem dX6_predictFour_52 : decode cX6_predictFour 52 = .ok (.iconst 4, 1) := by decide +kernel
theorem dX6_predictFour_53 : decode cX6_predictFour 53 = .ok (.idiv, 1) := by decide +kernel
theorem dX6_predictFour_54 : decode cX6_predictFour 54 = .ok (.istore 10, 2) := by decide +kernel
theorem dX6_predictFour_56 : decode cX6_predictFour 56 = .ok (.iload 4, 2) := by decide +kernel
theorem dX6_predictFour_58 : decode cX6_predictFour 58 = .ok (.ifCond .ne 17, 3) := by decide +kernel
theorem dX6_predictFour_61 : decode cX6_predictFour 61 = .ok (.aload_n 0, 1) := by decide +kernel
theorem dX6_predictFour_62 : decode cX6_predictFour 62 = .ok (.getfield 36, 3) := by decide +kernel
theorem dX6_predictFour_65 : decode cX6_predictFour 65 = .ok (.iconst 5, 1) := by decide +kernel
theorem dX6_predictFour_66 : decode cX6_predictFour 66 = .ok (.iload 9, 2) := by decide +kernel
theorem dX6_predictFour_68 : decode cX6_predictFour 68 = .ok (.iadd, 1) := by decide +kernel
theorem dX6_predictFour_69 : decode cX6_predictFour 69 = .ok (.iaload, 1) := by decide +kernel
theorem dX6_predictFour_70 : decode cX6_predictFour 70 = .ok (.istore 11, 2) := by decide +kernel
theorem dX6_predictFour_72 : decode cX6_predictFour 72 = .ok (.goto 319, 3) := by decide +kernel
theorem dX6_predictFour_75 : decode cX6_predictFour 75 = .ok (.iload 4, 2) := by decide +kernel
theorem dX6_predictFour_77 : decode cX6_predictFour 77 = .ok (.iconst 1, 1) := by decide +kernel
theorem dX6_predictFour_78 : decode cX6_predictFour 78 = .ok (.if_icmp .ne 17, 3) := by decide +kernel
theorem dX6_predictFour_81 : decode cX6_predictFour 81 = .ok (.aload_n 0, 1) := by decide +kernel
theorem dX6_predictFour_82 : decode cX6_predictFour 82 = .ok (.getfield 36, 3) := by decide +kernel
theorem dX6_predictFour_85 : decode cX6_predictFour 85 = .ok (.iconst 3, 1) := by decide +kernel
theorem dX6_predictFour_86 : decode cX6_predictFour 86 = .ok (.iload 10, 2) := by decide +kernel
theorem dX6_predictFour_88 : decode cX6_predictFour 88 = .ok (.isub, 1) := by decide +kernel
theorem dX6_predictFour_89 : decode cX6_predictFour 89 = .ok (.iaload, 1) := by decide +kernel
theorem dX6_predictFour_90 : decode cX6_predictFour 90 = .ok (.istore 11, 2) := by decide +kernel
theorem dX6_predictFour_92 : decode cX6_predictFour 92 = .ok (.goto 299, 3) := by decide +kernel
theorem dX6_predictFour_95 : decode cX6_predictFour 95 = .ok (.iload 4, 2) := by decide +kernel
theorem dX6_predictFour_97 : decode cX6_predictFour 97 = .ok (.iconst 2, 1) := by decide +kernel
theorem dX6_predictFour_98 : decode cX6_predictFour 98 = .ok (.if_icmp .ne 14, 3) := by decide +kernel
theorem dX6_predictFour_101 : decode cX6_predictFour 101 = .ok (.aload_n 0, 1) := by decide +kernel
theorem dX6_predictFour_102 : decode cX6_predictFour 102 = .ok (.iload 5, 2) := by decide +kernel
theorem dX6_predictFour_104 : decode cX6_predictFour 104 = .ok (.invokevirtual 183, 3) := by decide +kernel
theorem dX6_predictFour_107 : decode cX6_predictFour 107 = .ok (.istore 11, 2) := by decide +kernel
theorem dX6_predictFour_109 : decode cX6_predictFour 109 = .ok (.goto 282, 3) := by decide +kernel
theorem dX6_predictFour_112 : decode cX6_predictFour 112 = .ok (.iload 4, 2) := by decide +kernel
theorem dX6_predictFour_114 : decode cX6_predictFour 114 = .ok (.iconst 3, 1) := by decide +kernel
theorem dX6_predictFour_115 : decode cX6_predictFour 115 = .ok (.if_icmp .ne 55, 3) := by decide +kernel
theorem dX6_predictFour_118 : decode cX6_predictFour 118 = .ok (.iload 8, 2) := by decide +kernel
theorem dX6_predictFour_120 : decode cX6_predictFour 120 = .ok (.bipush 15, 2) := by decide +kernel
theorem dX6_predictFour_122 : decode cX6_predictFour 122 = .ok (.if_icmp .ne 16, 3) := by decide +kernel
theorem dX6_predictFour_125 : decode cX6_predictFour 125 = .ok (.aload_n 0, 1) := by decide +kernel
theorem dX6_predictFour_126 : decode cX6_predictFour 126 = .ok (.bipush 11, 2) := by decide +kernel
theorem dX6_predictFour_128 : decode cX6_predictFour 128 = .ok (.bipush 12, 2) := by decide +kernel
theorem dX6_predictFour_130 : decode cX6_predictFour 130 = .ok (.bipush 12, 2) := by decide +kernel
theorem dX6_predictFour_132 : decode cX6_predictFour 132 = .ok (.invokevirtual 186, 3) := by decide +kernel
theorem dX6_predictFour_135 : decode cX6_predictFour 135 = .ok (.goto 30, 3) := by decide +kernel
theorem dX6_predictFour_138 : decode cX6_predictFour 138 = .ok (.aload_n 0, 1) := by decide +kernel
theorem dX6_predictFour_139 : decode cX6_predictFour 139 = .ok (.iconst 5, 1) := by decide +kernel
theorem dX6_predictFour_140 : decode cX6_predictFour 140 = .ok (.iload 9, 2) := by decide +kernel
theorem dX6_predictFour_142 : decode cX6_predictFour 142 = .ok (.iadd, 1) := by decide +kernel
theorem dX6_predictFour_143 : decode cX6_predictFour 143 = .ok (.iload 10, 2) := by decide +kernel
theorem dX6_predictFour_145 : decode cX6_predictFour 145 = .ok (.iadd, 1) := by decide +kernel
theorem dX6_predictFour_146 : decode cX6_predictFour 146 = .ok (.bipush 6, 2) := by decide +kernel
theorem dX6_predictFour_148 : decode cX6_predictFour 148 = .ok (.iload 9, 2) := by decide +kernel
theorem dX6_predictFour_150 : decode cX6_predictFour 150 = .ok (.iadd, 1) := by decide +kernel
theorem dX6_predictFour_151 : decode cX6_predictFour 151 = .ok (.iload 10, 2) := by decide +kernel
theorem dX6_predictFour_153 : decode cX6_predictFour 153 = .ok (.iadd, 1) := by decide +kernel
theorem dX6_predictFour_154 : decode cX6_predictFour 154 = .ok (.bipush 7, 2) := by decide +kernel
theorem dX6_predictFour_156 : decode cX6_predictFour 156 = .ok (.iload 9, 2) := by decide +kernel
theorem dX6_predictFour_158 : decode cX6_predictFour 158 = .ok (.iadd, 1) := by decide +kernel
theorem dX6_predictFour_159 : decode cX6_predictFour 159 = .ok (.iload 10, 2) := by decide +kernel
theorem dX6_predictFour_161 : decode cX6_predictFour 161 = .ok (.iadd, 1) := by decide +kernel
theorem dX6_predictFour_162 : decode cX6_predictFour 162 = .ok (.invokevirtual 186, 3) := by decide +kernel
theorem dX6_predictFour_165 : decode cX6_predictFour 165 = .ok (.istore 11, 2) := by decide +kernel
theorem dX6_predictFour_167 : decode cX6_predictFour 167 = .ok (.goto 224, 3) := by decide +kernel
theorem dX6_predictFour_170 : decode cX6_predictFour 170 = .ok (.iload 4, 2) := by decide +kernel
theorem dX6_predictFour_172 : decode cX6_predictFour 172 = .ok (.iconst 4, 1) := by decide +kernel
theorem dX6_predictFour_173 : decode cX6_predictFour 173 = .ok (.if_icmp .ne 33, 3) := by decide +kernel
theorem dX6_predictFour_176 : decode cX6_predictFour 176 = .ok (.aload_n 0, 1) := by decide +kernel
theorem dX6_predictFour_177 : decode cX6_predictFour 177 = .ok (.iconst 3, 1) := by decide +kernel
theorem dX6_predictFour_178 : decode cX6_predictFour 178 = .ok (.iload 9, 2) := by decide +kernel
theorem dX6_predictFour_180 : decode cX6_predictFour 180 = .ok (.iadd, 1) := by decide +kernel
theorem dX6_predictFour_181 : decode cX6_predictFour 181 = .ok (.iload 10, 2) := by decide +kernel
theorem dX6_predictFour_183 : decode cX6_predictFour 183 = .ok (.isub, 1) := by decide +kernel
theorem dX6_predictFour_184 : decode cX6_predictFour 184 = .ok (.iconst 4, 1) := by decide +kernel
theorem dX6_predictFour_185 : decode cX6_predictFour 185 = .ok (.iload 9, 2) := by decide +kernel
theorem dX6_predictFour_187 : decode cX6_predictFour 187 = .ok (.iadd, 1) := by decide +kernel
theorem dX6_predictFour_188 : decode cX6_predictFour 188 = .ok (.iload 10, 2) := by decide +kernel
theorem dX6_predictFour_190 : decode cX6_predictFour 190 = .ok (.isub, 1) := by decide +kernel
theorem dX6_predictFour_191 : decode cX6_predictFour 191 = .ok (.iconst 5, 1) := by decide +kernel
theorem dX6_predictFour_192 : decode cX6_predictFour 192 = .ok (.iload 9, 2) := by decide +kernel
theorem dX6_predictFour_194 : decode cX6_predictFour 194 = .ok (.iadd, 1) := by decide +kernel
theorem dX6_predictFour_195 : decode cX6_predictFour 195 = .ok (.iload 10, 2) := by decide +kernel
theorem dX6_predictFour_197 : decode cX6_predictFour 197 = .ok (.isub, 1) := by decide +kernel
theorem dX6_predictFour_198 : decode cX6_predictFour 198 = .ok (.invokevirtual 186, 3) := by decide +kernel
theorem dX6_predictFour_201 : decode cX6_predictFour 201 = .ok (.istore 11, 2) := by decide +kernel
theorem dX6_predictFour_203 : decode cX6_predictFour 203 = .ok (.goto 188, 3) := by decide +kernel
theorem dX6_predictFour_206 : decode cX6_predictFour 206 = .ok (.iload 4, 2) := by decide +kernel
theorem dX6_predictFour_208 : decode cX6_predictFour 208 = .ok (.iconst 5, 1) := by decide +kernel
theorem dX6_predictFour_209 : decode cX6_predictFour 209 = .ok (.if_icmp .ne 17, 3) := by decide +kernel
theorem dX6_predictFour_212 : decode cX6_predictFour 212 = .ok (.aload_n 0, 1) := by decide +kernel
theorem dX6_predictFour_213 : decode cX6_predictFour 213 = .ok (.iload 9, 2) := by decide +kernel
theorem dX6_predictFour_215 : decode cX6_predictFour 215 = .ok (.iload 10, 2) := by decide +kernel
theorem dX6_predictFour_217 : decode cX6_predictFour 217 = .ok (.iconst 1, 1) := by decide +kernel
theorem dX6_predictFour_218 : decode cX6_predictFour 218 = .ok (.invokevirtual 189, 3) := by decide +kernel
theorem dX6_predictFour_221 : decode cX6_predictFour 221 = .ok (.istore 11, 2) := by decide +kernel
theorem dX6_predictFour_223 : decode cX6_predictFour 223 = .ok (.goto 168, 3) := by decide +kernel
theorem dX6_predictFour_226 : decode cX6_predictFour 226 = .ok (.iload 4, 2) := by decide +kernel
theorem dX6_predictFour_228 : decode cX6_predictFour 228 = .ok (.bipush 6, 2) := by decide +kernel
theorem dX6_predictFour_230 : decode cX6_predictFour 230 = .ok (.if_icmp .ne 17, 3) := by decide +kernel
theorem dX6_predictFour_233 : decode cX6_predictFour 233 = .ok (.aload_n 0, 1) := by decide +kernel
theorem dX6_predictFour_234 : decode cX6_predictFour 234 = .ok (.iload 10, 2) := by decide +kernel
theorem dX6_predictFour_236 : decode cX6_predictFour 236 = .ok (.iload 9, 2) := by decide +kernel
theorem dX6_predictFour_238 : decode cX6_predictFour 238 = .ok (.iconst (-1), 1) := by decide +kernel
theorem dX6_predictFour_239 : decode cX6_predictFour 239 = .ok (.invokevirtual 189, 3) := by decide +kernel
theorem dX6_predictFour_242 : decode cX6_predictFour 242 = .ok (.istore 11, 2) := by decide +kernel
theorem dX6_predictFour_244 : decode cX6_predictFour 244 = .ok (.goto 147, 3) := by decide +kernel
theorem dX6_predictFour_247 : decode cX6_predictFour 247 = .ok (.iload 4, 2) := by decide +kernel
theorem dX6_predictFour_249 : decode cX6_predictFour 249 = .ok (.bipush 7, 2) := by decide +kernel
theorem dX6_predictFour_251 : decode cX6_predictFour 251 = .ok (.if_icmp .ne 53, 3) := by decide +kernel
theorem dX6_predictFour_254 : decode cX6_predictFour 254 = .ok (.iconst 5, 1) := by decide +kernel
theorem dX6_predictFour_255 : decode cX6_predictFour 255 = .ok (.iload 9, 2) := by decide +kernel
theorem dX6_predictFour_257 : decode cX6_predictFour 257 = .ok (.iadd, 1) := by decide +kernel
theorem dX6_predictFour_258 : decode cX6_predictFour 258 = .ok (.iload 10, 2) := by decide +kernel
theorem dX6_predictFour_260 : decode cX6_predictFour 260 = .ok (.iconst 1, 1) := by decide +kernel
theorem dX6_predictFour_261 : decode cX6_predictFour 261 = .ok (.ishr, 1) := by decide +kernel
theorem dX6_predictFour_262 : decode cX6_predictFour 262 = .ok (.iadd, 1) := by decide +kernel
theorem dX6_predictFour_263 : decode cX6_predictFour 263 = .ok (.istore 12, 2) := by decide +kernel
theorem dX6_predictFour_265 : decode cX6_predictFour 265 = .ok (.iload 10, 2) := by decide +kernel
theorem dX6_predictFour_267 : decode cX6_predictFour 267 = .ok (.iconst 2, 1) := by decide +kernel
theorem dX6_predictFour_268 : decode cX6_predictFour 268 = .ok (.irem, 1) := by decide +kernel
theorem dX6_predictFour_269 : decode cX6_predictFour 269 = .ok (.ifCond .ne 16, 3) := by decide +kernel
theorem dX6_predictFour_272 : decode cX6_predictFour 272 = .ok (.aload_n 0, 1) := by decide +kernel
theorem dX6_predictFour_273 : decode cX6_predictFour 273 = .ok (.iload 12, 2) := by decide +kernel
theorem dX6_predictFour_275 : decode cX6_predictFour 275 = .ok (.iload 12, 2) := by decide +kernel
theorem dX6_predictFour_277 : decode cX6_predictFour 277 = .ok (.iconst 1, 1) := by decide +kernel
theorem dX6_predictFour_278 : decode cX6_predictFour 278 = .ok (.iadd, 1) := by decide +kernel
theorem dX6_predictFour_279 : decode cX6_predictFour 279 = .ok (.invokevirtual 192, 3) := by decide +kernel
theorem dX6_predictFour_282 : decode cX6_predictFour 282 = .ok (.goto 17, 3) := by decide +kernel
theorem dX6_predictFour_285 : decode cX6_predictFour 285 = .ok (.aload_n 0, 1) := by decide +kernel
theorem dX6_predictFour_286 : decode cX6_predictFour 286 = .ok (.iload 12, 2) := by decide +kernel
theorem dX6_predictFour_288 : decode cX6_predictFour 288 = .ok (.iload 12, 2) := by decide +kernel
theorem dX6_predictFour_290 : decode cX6_predictFour 290 = .ok (.iconst 1, 1) := by decide +kernel
theorem dX6_predictFour_291 : decode cX6_predictFour 291 = .ok (.iadd, 1) := by decide +kernel
theorem dX6_predictFour_292 : decode cX6_predictFour 292 = .ok (.iload 12, 2) := by decide +kernel
theorem dX6_predictFour_294 : decode cX6_predictFour 294 = .ok (.iconst 2, 1) := by decide +kernel
theorem dX6_predictFour_295 : decode cX6_predictFour 295 = .ok (.iadd, 1) := by decide +kernel
theorem dX6_predictFour_296 : decode cX6_predictFour 296 = .ok (.invokevirtual 186, 3) := by decide +kernel
theorem dX6_predictFour_299 : decode cX6_predictFour 299 = .ok (.istore 11, 2) := by decide +kernel
theorem dX6_predictFour_301 : decode cX6_predictFour 301 = .ok (.goto 90, 3) := by decide +kernel
theorem dX6_predictFour_304 : decode cX6_predictFour 304 = .ok (.iconst 3, 1) := by decide +kernel
theorem dX6_predictFour_305 : decode cX6_predictFour 305 = .ok (.iload 10, 2) := by decide +kernel
theorem dX6_predictFour_307 : decode cX6_predictFour 307 = .ok (.isub, 1) := by decide +kernel
theorem dX6_predictFour_308 : decode cX6_predictFour 308 = .ok (.iload 9, 2) := by decide +kernel
theorem dX6_predictFour_310 : decode cX6_predictFour 310 = .ok (.iconst 1, 1) := by decide +kernel
theorem dX6_predictFour_311 : decode cX6_predictFour 311 = .ok (.ishr, 1) := by decide +kernel
theorem dX6_predictFour_312 : decode cX6_predictFour 312 = .ok (.isub, 1) := by decide +kernel
theorem dX6_predictFour_313 : decode cX6_predictFour 313 = .ok (.istore 12, 2) := by decide +kernel
theorem dX6_predictFour_315 : decode cX6_predictFour 315 = .ok (.iload 9, 2) := by decide +kernel
theorem dX6_predictFour_317 : decode cX6_predictFour 317 = .ok (.iconst 2, 1) := by decide +kernel
theorem dX6_predictFour_318 : decode cX6_predictFour 318 = .ok (.iload 10, 2) := by decide +kernel
theorem dX6_predictFour_320 : decode cX6_predictFour 320 = .ok (.imul, 1) := by decide +kernel
theorem dX6_predictFour_321 : decode cX6_predictFour 321 = .ok (.iadd, 1) := by decide +kernel
theorem dX6_predictFour_322 : decode cX6_predictFour 322 = .ok (.istore 13, 2) := by decide +kernel
theorem dX6_predictFour_324 : decode cX6_predictFour 324 = .ok (.iload 13, 2) := by decide +kernel
theorem dX6_predictFour_326 : decode cX6_predictFour 326 = .ok (.iconst 5, 1) := by decide +kernel
theorem dX6_predictFour_327 : decode cX6_predictFour 327 = .ok (.if_icmp .le 12, 3) := by decide +kernel
theorem dX6_predictFour_330 : decode cX6_predictFour 330 = .ok (.aload_n 0, 1) := by decide +kernel
theorem dX6_predictFour_331 : decode cX6_predictFour 331 = .ok (.getfield 36, 3) := by decide +kernel
theorem dX6_predictFour_334 : decode cX6_predictFour 334 = .ok (.iconst 0, 1) := by decide +kernel
theorem dX6_predictFour_335 : decode cX6_predictFour 335 = .ok (.iaload, 1) := by decide +kernel
theorem dX6_predictFour_336 : decode cX6_predictFour 336 = .ok (.goto 53, 3) := by decide +kernel
theorem dX6_predictFour_339 : decode cX6_predictFour 339 = .ok (.iload 13, 2) := by decide +kernel
theorem dX6_predictFour_341 : decode cX6_predictFour 341 = .ok (.iconst 5, 1) := by decide +kernel
theorem dX6_predictFour_342 : decode cX6_predictFour 342 = .ok (.if_icmp .ne 13, 3) := by decide +kernel
theorem dX6_predictFour_345 : decode cX6_predictFour 345 = .ok (.aload_n 0, 1) := by decide +kernel
theorem dX6_predictFour_346 : decode cX6_predictFour 346 = .ok (.iconst 1, 1) := by decide +kernel
theorem dX6_predictFour_347 : decode cX6_predictFour 347 = .ok (.iconst 0, 1) := by decide +kernel
theorem dX6_predictFour_348 : decode cX6_predictFour 348 = .ok (.iconst 0, 1) := by decide +kernel
theorem dX6_predictFour_349 : decode cX6_predictFour 349 = .ok (.invokevirtual 186, 3) := by decide +kernel
theorem dX6_predictFour_352 : decode cX6_predictFour 352 = .ok (.goto 37, 3) := by decide +kernel
theorem dX6_predictFour_355 : decode cX6_predictFour 355 = .ok (.iload 13, 2) := by decide +kernel
theorem dX6_predictFour_357 : decode cX6_predictFour 357 = .ok (.iconst 2, 1) := by decide +kernel
theorem dX6_predictFour_358 : decode cX6_predictFour 358 = .ok (.irem, 1) := by decide +kernel
theorem dX6_predictFour_359 : decode cX6_predictFour 359 = .ok (.ifCond .ne 16, 3) := by decide +kernel
theorem dX6_predictFour_362 : decode cX6_predictFour 362 = .ok (.aload_n 0, 1) := by decide +kernel
theorem dX6_predictFour_363 : decode cX6_predictFour 363 = .ok (.iload 12, 2) := by decide +kernel
theorem dX6_predictFour_365 : decode cX6_predictFour 365 = .ok (.iload 12, 2) := by decide +kernel
theorem dX6_predictFour_367 : decode cX6_predictFour 367 = .ok (.iconst 1, 1) := by decide +kernel
theorem dX6_predictFour_368 : decode cX6_predictFour 368 = .ok (.isub, 1) := by decide +kernel
theorem dX6_predictFour_369 : decode cX6_predictFour 369 = .ok (.invokevirtual 192, 3) := by decide +kernel
theorem dX6_predictFour_372 : decode cX6_predictFour 372 = .ok (.goto 17, 3) := by decide +kernel
theorem dX6_predictFour_375 : decode cX6_predictFour 375 = .ok (.aload_n 0, 1) := by decide +kernel
theorem dX6_predictFour_376 : decode cX6_predictFour 376 = .ok (.iload 12, 2) := by decide +kernel
theorem dX6_predictFour_378 : decode cX6_predictFour 378 = .ok (.iload 12, 2) := by decide +kernel
theorem dX6_predictFour_380 : decode cX6_predictFour 380 = .ok (.iconst 1, 1) := by decide +kernel
theorem dX6_predictFour_381 : decode cX6_predictFour 381 = .ok (.isub, 1) := by decide +kernel
theorem dX6_predictFour_382 : decode cX6_predictFour 382 = .ok (.iload 12, 2) := by decide +kernel
theorem dX6_predictFour_384 : decode cX6_predictFour 384 = .ok (.iconst 2, 1) := by decide +kernel
theorem dX6_predictFour_385 : decode cX6_predictFour 385 = .ok (.isub, 1) := by decide +kernel
theorem dX6_predictFour_386 : decode cX6_predictFour 386 = .ok (.invokevirtual 186, 3) := by decide +kernel
theorem dX6_predictFour_389 : decode cX6_predictFour 389 = .ok (.istore 11, 2) := by decide +kernel
theorem dX6_predictFour_391 : decode cX6_predictFour 391 = .ok (.aload_n 0, 1) := by decide +kernel
theorem dX6_predictFour_392 : decode cX6_predictFour 392 = .ok (.getfield 9, 3) := by decide +kernel
theorem dX6_predictFour_395 : decode cX6_predictFour 395 = .ok (.iload 7, 2) := by decide +kernel
theorem dX6_predictFour_397 : decode cX6_predictFour 397 = .ok (.iload 10, 2) := by decide +kernel
theorem dX6_predictFour_399 : decode cX6_predictFour 399 = .ok (.iadd, 1) := by decide +kernel
theorem dX6_predictFour_400 : decode cX6_predictFour 400 = .ok (.bipush 16, 2) := by decide +kernel
theorem dX6_predictFour_402 : decode cX6_predictFour 402 = .ok (.imul, 1) := by decide +kernel
theorem dX6_predictFour_403 : decode cX6_predictFour 403 = .ok (.iload 6, 2) := by decide +kernel
theorem dX6_predictFour_405 : decode cX6_predictFour 405 = .ok (.iadd, 1) := by decide +kernel
theorem dX6_predictFour_406 : decode cX6_predictFour 406 = .ok (.iload 9, 2) := by decide +kernel
theorem dX6_predictFour_408 : decode cX6_predictFour 408 = .ok (.iadd, 1) := by decide +kernel
theorem dX6_predictFour_409 : decode cX6_predictFour 409 = .ok (.iload 11, 2) := by decide +kernel
theorem dX6_predictFour_411 : decode cX6_predictFour 411 = .ok (.iastore, 1) := by decide +kernel
theorem dX6_predictFour_412 : decode cX6_predictFour 412 = .ok (.iinc 8 1, 3) := by decide +kernel
theorem dX6_predictFour_415 : decode cX6_predictFour 415 = .ok (.goto (-378), 3) := by decide +kernel
theorem dX6_predictFour_418 : decode cX6_predictFour 418 = .ok (.return_, 1) := by decide +kernel
def FX6_predictFour (G : GG) (M : DD) (a : Nat) (p0 : Option Nat) (p1 : Int32) (p2 : Int32) (p3 : Int32) (p4 : Int32) : Option (DD) :=
  bnd (FX9_pieceX G M p2) fun y1 =>
  bnd (FX9_pieceY G y1.1 p2) fun y2 =>
  dr G 9 p0 fun b3 =>
  bnd (FX6_lumaAt G y2.1 ((y2.1.2 b3 0)) p1 y1.2 y2.2) fun y4 =>
  bnd (FX6_takeAround G y4.1 a ((y2.1.2 b3 0)) y4.2 p4) fun y5 =>
  bnd (itr (fun (s7 : Int32 × DD) => ((if ((16 : Int32)) ≤ s7.1 then (some (.inr (s7.1, s7.2))) else
  (ltt (s7.1 - s7.1 / ((4 : Int32)) * ((4 : Int32))) fun x11 =>
  ltt (s7.1 / ((4 : Int32))) fun x12 =>
  bnd (if p3 = ((0 : Int32)) then (ltt ((((5 : Int32)) + x11)) fun x90 =>
  dr G 13 ((s7.2.2 a 8)) fun b91 =>
  chk (¬ (x90 < 0 ∨ G.2.2 b91 ≤ x90.toNatClampNeg)) <|
  ltt (s7.2.1 b91 x90.toNatClampNeg) fun x92 =>
  some (x92, s7.2)) else
  (bnd (if p3 = ((1 : Int32)) then (ltt ((((3 : Int32)) - x12)) fun x87 =>
  dr G 13 ((s7.2.2 a 8)) fun b88 =>
  chk (¬ (x87 < 0 ∨ G.2.2 b88 ≤ x87.toNatClampNeg)) <|
  ltt (s7.2.1 b88 x87.toNatClampNeg) fun x89 =>
  some (x89, s7.2)) else
  (bnd (if p3 = ((2 : Int32)) then (bnd (FX6_meanAround G s7.2 a p4) fun y86 =>
  some (y86.2, y86.1)) else
  (bnd (if p3 = ((3 : Int32)) then (bnd (if s7.1 = ((15 : Int32)) then (bnd (FX6_three G s7.2 a ((11 : Int32)) ((12 : Int32)) ((12 : Int32))) fun y85 =>
  some (y85.2, y85.1)) else
  (ltt ((((5 : Int32)) + x11)) fun x78 =>
  ltt ((x78 + x12)) fun x79 =>
  ltt ((((6 : Int32)) + x11)) fun x80 =>
  ltt ((x80 + x12)) fun x81 =>
  ltt ((((7 : Int32)) + x11)) fun x82 =>
  ltt ((x82 + x12)) fun x83 =>
  bnd (FX6_three G s7.2 a x79 x81 x83) fun y84 =>
  some (y84.2, y84.1))) fun (y76 : Int32 × DD) =>
  some (y76.1, y76.2)) else
  (bnd (if p3 = ((4 : Int32)) then (ltt ((((3 : Int32)) + x11)) fun x69 =>
  ltt ((x69 - x12)) fun x70 =>
  ltt ((((4 : Int32)) + x11)) fun x71 =>
  ltt ((x71 - x12)) fun x72 =>
  ltt ((((5 : Int32)) + x11)) fun x73 =>
  ltt ((x73 - x12)) fun x74 =>
  bnd (FX6_three G s7.2 a x70 x72 x74) fun y75 =>
  some (y75.2, y75.1)) else
  (bnd (if p3 = ((5 : Int32)) then (bnd (FX6_slant G s7.2 a x11 x12 ((1 : Int32))) fun y68 =>
  some (y68.2, y68.1)) else
  (bnd (if p3 = ((6 : Int32)) then (bnd (FX6_slant G s7.2 a x12 x11 ((-1 : Int32))) fun y67 =>
  some (y67.2, y67.1)) else
  (bnd (if p3 = ((7 : Int32)) then (ltt ((((5 : Int32)) + x11)) fun x56 =>
  ltt ((x12 >>> (((1 : Int32)) &&& 31))) fun x57 =>
  ltt ((x56 + x57)) fun x58 =>
  ltt (x12 - x12 / ((2 : Int32)) * ((2 : Int32))) fun x59 =>
  bnd (if x59 = ((0 : Int32)) then (ltt ((x58 + ((1 : Int32)))) fun x65 =>
  bnd (FX6_two G s7.2 a x58 x65) fun y66 =>
  some (y66.2, y66.1)) else
  (ltt ((x58 + ((1 : Int32)))) fun x62 =>
  ltt ((x58 + ((2 : Int32)))) fun x63 =>
  bnd (FX6_three G s7.2 a x58 x62 x63) fun y64 =>
  some (y64.2, y64.1))) fun (y60 : Int32 × DD) =>
  some (y60.1, x58, y60.2)) else
  (ltt ((((3 : Int32)) - x12)) fun x36 =>
  ltt ((x11 >>> (((1 : Int32)) &&& 31))) fun x37 =>
  ltt ((x36 - x37)) fun x38 =>
  ltt ((((2 : Int32)) * x12)) fun x39 =>
  ltt ((x11 + x39)) fun x40 =>
  bnd (if x40 ≤ ((5 : Int32)) then (bnd (if x40 = ((5 : Int32)) then (bnd (FX6_three G s7.2 a ((1 : Int32)) ((0 : Int32)) ((0 : Int32))) fun y53 =>
  some (y53.2, y53.1)) else
  (ltt (x40 - x40 / ((2 : Int32)) * ((2 : Int32))) fun x45 =>
  bnd (if x45 = ((0 : Int32)) then (ltt ((x38 - ((1 : Int32)))) fun x51 =>
  bnd (FX6_two G s7.2 a x38 x51) fun y52 =>
  some (y52.2, y52.1)) else
  (ltt ((x38 - ((1 : Int32)))) fun x48 =>
  ltt ((x38 - ((2 : Int32)))) fun x49 =>
  bnd (FX6_three G s7.2 a x38 x48 x49) fun y50 =>
  some (y50.2, y50.1))) fun (y46 : Int32 × DD) =>
  some (y46.1, y46.2))) fun (y43 : Int32 × DD) =>
  some (y43.1, y43.2)) else
  (dr G 13 ((s7.2.2 a 8)) fun b54 =>
  chk (¬ (((0 : Int32)) < 0 ∨ G.2.2 b54 ≤ ((0 : Int32)).toNatClampNeg)) <|
  ltt (s7.2.1 b54 ((0 : Int32)).toNatClampNeg) fun x55 =>
  some (x55, s7.2))) fun (y41 : Int32 × DD) =>
  some (y41.1, x38, y41.2))) fun (y34 : Int32 × Int32 × DD) =>
  some (y34.1, y34.2.2))) fun (y32 : Int32 × DD) =>
  some (y32.1, y32.2))) fun (y30 : Int32 × DD) =>
  some (y30.1, y30.2))) fun (y28 : Int32 × DD) =>
  some (y28.1, y28.2))) fun (y26 : Int32 × DD) =>
  some (y26.1, y26.2))) fun (y24 : Int32 × DD) =>
  some (y24.1, y24.2))) fun (y22 : Int32 × DD) =>
  some (y22.1, y22.2))) fun (y13 : Int32 × DD) =>
  ltt ((y2.2 + x12)) fun x14 =>
  ltt ((x14 * ((16 : Int32)))) fun x15 =>
  ltt ((x15 + y1.2)) fun x16 =>
  ltt ((x16 + x11)) fun x17 =>
  dr G 13 ((y13.2.2 a 0)) fun b18 =>
  chk (¬ (x17 < 0 ∨ G.2.2 b18 ≤ x17.toNatClampNeg)) <|
  ltt (uI y13.2 b18 x17.toNatClampNeg y13.1) fun M19 =>
  ltt (s7.1 + (1 : Int32)) fun x20 =>
  some (.inl (x20, M19)))) : Option ((Int32 × DD) ⊕ (Int32 × DD)))) 1000000 ((0 : Int32), y5)) fun (y6 : Int32 × DD) =>
  some y6.2
set_option maxHeartbeats 4000000 in
set_option maxRecDepth 100000 in
theorem kX6_predictFour (l : Launch) (D : va_G) (ct : CT) (ad : Nat → Nat) (Z : Nat → Nat) (G : GG) (M : DD) (sz : Nat) (a : Nat) (p0 : Option Nat) (p1 : Int32) (p2 : Int32) (p3 : Int32) (p4 : Int32) (y : DD) (hc : a < G.1) (hk : G.2.1 a = 6) (hF : FX6_predictFour G M a p0 p1 p2 p3 p4 = some y) : Met l yX6_predictFour wsX6_predictFour ({ frames := 2, cells := 0, slots := 0, locals := 49 }) (va_Pc [.ref (ad a), va_re ad p0, .int p1, .int p2, .int p3, .int p4] (kB D ct ad Z G M sz)) (va_Qv (fun (_ : Unit) => True) (fun _ t => kE D ct ad G (wA ad G sz) y t) (wA ad G sz)) 0 0 (wA ad G sz) := by
  refine Met.ofW (cc := cX6_predictFour) (maxL := 14) (ret := none) (by decide) rfl ?_
  intro p e s m args below meth c s₁ B hml hv
  obtain ⟨rfl, hsz, hP, hK, hD0, hZ, hN⟩ := hv
  have hx := B.exec
  have hb := B.bytes
  have hr := B.returns
  have hts := atoms_spec (ws := wsX6_predictFour) B.pre
  have hown : s.vm.findClass RX6 = some m.cls := findClass_of_methodNamed B.named
  have hlocks := B.notSynchronized
  subst hsz
  have hD := wD_self (sz := s.heap.size) hD0
  have hA9 : ∀ q, s.heap.size ≤ q → wA ad G s.heap.size q := fun q h => Or.inr h
  generalize hAe : wA ad G s.heap.size = A at hD hA9 hZ ⊢
  have hS : va_S A s.heap s.heap [] := va_S.rf
  have hl := lv_entry ([.ref (ad a), va_re ad p0, .int p1, .int p2, .int p3, .int p4]) (n := 14) (by cases p0 <;> exact Nat.le_of_ble_eq_true rfl)
  rw [lg_entry_eq]
  generalize (lg_sl ([.ref (ad a), va_re ad p0, .int p1, .int p2, .int p3, .int p4]) ++ List.replicate (14 - (lg_sl ([.ref (ad a), va_re ad p0, .int p1, .int p2, .int p3, .int p4])).length) Slot.unset).toArray = ls at hl ⊢
  have hl : lv_has ls 14 [(0, .ref (ad a)), (1, va_re ad p0), (2, .int p1), (3, .int p2), (4, .int p3), (5, .int p4)] := by have e9 : lv_args 0 [.ref (ad a), va_re ad p0, .int p1, .int p2, .int p3, .int p4] = [(0, .ref (ad a)), (1, va_re ad p0), (2, .int p1), (3, .int p2), (4, .int p3), (5, .int p4)] := (by cases p0 <;> rfl); rw [e9] at hl; exact hl
  unfold FX6_predictFour at hF
  refine lv_iload_n hx hb dX6_predictFour_0 rfl (lv_at hl 3 rfl) ?_
  obtain ⟨y1, hy1, hF⟩ := bnd_some hF
  have hf9 := wA_in hD hA9 hS
  refine va_calli (va_runS (As := [.int p2]) (rest := []) ⟨hx, hb, hml, hown, hts⟩ (kX9_pieceX l D ct ad Z G M s.heap.size p2 y1 hy1) (va_cwS 1 hts gX6_predictFour_X9_pieceX rfl rfl rfl (by decide +kernel) ⟨Nat.le_of_ble_eq_true rfl, Nat.le_of_ble_eq_true rfl⟩) ⟨fun a U g mk q => by obtain ⟨q0, q1, qP, qK, qD, qZ, qN⟩ := q; exact ⟨q0, q1, qP, va_K.moved (u := U) (U := U.calling g mk a) (Vm.Alike.refl U.vm) qK, qD, sF.moved (u := U) (U := U.calling g mk a) (Vm.Alike.refl U.vm) qZ, nF.same rfl qN⟩, fun U hU hW => ⟨rfl, by rw [hU], by rw [hU]; exact hP, va_K.moved hW.alike hK, hD.weaken (fun _ _ _ _ => trivial), by rw [hU]; exact ((hZ.kept hS.2.1).narrow hf9).moved hW.alike, hN.warm hW⟩⟩ rfl rfl hl.1 rfl (lv_room (Nat.le_of_ble_eq_true rfl)) dX6_predictFour_1 ⟨(Nat.zero_le _), (Nat.zero_le _)⟩) hS (fun q _ h => hf9 q h) hf9 (fun r u t H locs ht hvm hw hB hz1 hk1 hS => ?_)
  obtain ⟨hP, hK9, hD9⟩ := hB
  rw [ht] at hP
  try dsimp only at hw
  subst hw
  have hD := hD9.weaken (fun _ q _ h => hf9 q.1 h)
  refine lv_istore (lv' := [(6, .int y1.2), (0, .ref (ad a)), (1, va_re ad p0), (2, .int p1), (3, .int p2), (4, .int p3), (5, .int p4)]) hx hb dX6_predictFour_4 hl (by decide) rfl (fun ls hl => ?_)
  refine lv_iload_n hx hb dX6_predictFour_6 rfl (lv_at hl 4 rfl) ?_
  obtain ⟨y2, hy2, hF⟩ := bnd_some hF
  have hf9 := wA_in hD hA9 hS
  refine va_calli (va_runS (As := [.int p2]) (rest := []) ⟨hx, hb, hml, hown, hts⟩ (kX9_pieceY l D ct ad Z G y1.1 H.size p2 y2 hy2) (va_cwS 1 hts gX6_predictFour_X9_pieceY rfl rfl rfl (by decide +kernel) ⟨Nat.le_of_ble_eq_true rfl, Nat.le_of_ble_eq_true rfl⟩) ⟨fun a U g mk q => by obtain ⟨q0, q1, qP, qK, qD, qZ, qN⟩ := q; exact ⟨q0, q1, qP, va_K.moved (u := U) (U := U.calling g mk a) (Vm.Alike.refl U.vm) qK, qD, sF.moved (u := U) (U := U.calling g mk a) (Vm.Alike.refl U.vm) qZ, nF.same rfl qN⟩, fun U hU hW => ⟨rfl, by rw [hU], by rw [hU]; exact hP, va_K.moved hW.alike hK, hD.weaken (fun _ _ _ _ => trivial), by rw [hU]; exact ((hZ.kept hS.2.1).narrow hf9).moved hW.alike, hN.warm hW⟩⟩ rfl rfl hl.1 rfl (lv_room (Nat.le_of_ble_eq_true rfl)) dX6_predictFour_7 ⟨(Nat.zero_le _), (Nat.zero_le _)⟩) hS (fun q _ h => hf9 q h) hf9 (fun r u t H locs ht hvm hw hB hz1 hk1 hS => ?_)
  obtain ⟨hP, hK9, hD9⟩ := hB
  rw [ht] at hP
  try dsimp only at hw
  subst hw
  have hD := hD9.weaken (fun _ q _ h => hf9 q.1 h)
  refine lv_istore (lv' := [(7, .int y2.2), (6, .int y1.2), (0, .ref (ad a)), (1, va_re ad p0), (2, .int p1), (3, .int p2), (4, .int p3), (5, .int p4)]) hx hb dX6_predictFour_10 hl (by decide) rfl (fun ls hl => ?_)
  refine lv_aload_n hx hb dX6_predictFour_12 rfl (lv_at hl 2 rfl) ?_
  refine lv_aloadq_n hx hb dX6_predictFour_13 rfl (lv_at hl 3 rfl) ?_
  obtain ⟨b3, ho3, hc3, hk3, hF⟩ := dr_some hF
  refine W_st (st' := [.ref (ad b3), .ref (ad a)]) (by rw [va_some ho3]) ?_
  refine va_get (D := D) (ci := 9) (v := va_re ad (y2.1.2 b3 0)) (C := RX9) (T := TX9) (N := 20) hx hb hts (by decide +kernel) hown hK hP b3 (wld_o ct ad G y2.1 hc3 hk3 (by decide)) rfl 0 (by decide) (hts (.fieldLink RX6 46 "VideoSuite$Work" "pic" "LVideoSuite$Picture;") (by decide +kernel)) (fun _ h9 => h9) rfl dX6_predictFour_14 ?_
  refine lv_aloadq_n hx hb dX6_predictFour_17 rfl (lv_at hl 3 rfl) ?_
  refine W_st (st' := [.ref (ad b3), va_re ad (y2.1.2 b3 0), .ref (ad a)]) (by rw [va_some ho3]) ?_
  refine va_get (D := D) (ci := 9) (v := va_re ad (y2.1.2 b3 0)) (C := RX9) (T := TX9) (N := 20) hx hb hts (by decide +kernel) hown hK hP b3 (wld_o ct ad G y2.1 hc3 hk3 (by decide)) rfl 0 (by decide) (hts (.fieldLink RX6 46 "VideoSuite$Work" "pic" "LVideoSuite$Picture;") (by decide +kernel)) (fun _ h9 => h9) rfl dX6_predictFour_18 ?_
  refine lv_iload_n hx hb dX6_predictFour_21 rfl (lv_at hl 4 rfl) ?_
  refine lv_iload hx hb dX6_predictFour_22 (lv_at hl 1 rfl) ?_
  refine lv_iload hx hb dX6_predictFour_24 (lv_at hl 0 rfl) ?_
  obtain ⟨y4, hy4, hF⟩ := bnd_some hF
  have hf9 := wA_in hD hA9 hS
  refine va_calli (va_runS (As := [va_re ad (y2.1.2 b3 0), .int p1, .int y1.2, .int y2.2]) (rest := [va_re ad (y2.1.2 b3 0), .ref (ad a)]) ⟨hx, hb, hml, hown, hts⟩ (kX6_lumaAt l D ct ad Z G y2.1 H.size ((y2.1.2 b3 0)) p1 y1.2 y2.2 y4 hy4) (va_cwS 4 hts gX6_predictFour_X6_lumaAt rfl rfl rfl (by decide +kernel) ⟨Nat.le_of_ble_eq_true rfl, Nat.le_of_ble_eq_true rfl⟩) ⟨fun a U g mk q => by obtain ⟨q0, q1, qP, qK, qD, qZ, qN⟩ := q; exact ⟨q0, q1, qP, va_K.moved (u := U) (U := U.calling g mk a) (Vm.Alike.refl U.vm) qK, qD, sF.moved (u := U) (U := U.calling g mk a) (Vm.Alike.refl U.vm) qZ, nF.same rfl qN⟩, fun U hU hW => ⟨rfl, by rw [hU], by rw [hU]; exact hP, va_K.moved hW.alike hK, hD.weaken (fun _ _ _ _ => trivial), by rw [hU]; exact ((hZ.kept hS.2.1).narrow hf9).moved hW.alike, hN.warm hW⟩⟩ rfl rfl hl.1 rfl (lv_room (by simp only [List.map, va_re_cat]; exact Nat.le_of_ble_eq_true rfl)) dX6_predictFour_26 ⟨(Nat.zero_le _), (Nat.zero_le _)⟩) hS (fun q _ h => hf9 q h) hf9 (fun r u t H locs ht hvm hw hB hz1 hk1 hS => ?_)
  obtain ⟨hP, hK9, hD9⟩ := hB
  rw [ht] at hP
  try dsimp only at hw
  subst hw
  have hD := hD9.weaken (fun _ q _ h => hf9 q.1 h)
  refine lv_iload hx hb dX6_predictFour_29 (lv_at hl 7 rfl) ?_
  obtain ⟨y5, hy5, hF⟩ := bnd_some hF
  have hf9 := wA_in hD hA9 hS
  refine va_callv (va_runV (As := [va_re ad (y2.1.2 b3 0), .int y4.2, .int p4]) (rest := []) ⟨hx, hb, hml, hown, hts⟩ (kX6_takeAround l D ct ad Z G y4.1 H.size a ((y2.1.2 b3 0)) y4.2 p4 y5 hc hk hy5) (cwV 3 hts gX6_predictFour_X6_takeAround rfl rfl rfl (by decide +kernel) ⟨Nat.le_of_ble_eq_true rfl, Nat.le_of_ble_eq_true rfl⟩) ⟨fun a U g mk q => by obtain ⟨q0, q1, qP, qK, qD, qZ, qN⟩ := q; exact ⟨q0, q1, qP, va_K.moved (u := U) (U := U.calling g mk a) (Vm.Alike.refl U.vm) qK, qD, sF.moved (u := U) (U := U.calling g mk a) (Vm.Alike.refl U.vm) qZ, nF.same rfl qN⟩, va_recv hK hP (ci := 6) (q0 := a) rfl (wld_o ct ad G y4.1 hc hk (by decide)), fun U hU hW => ⟨rfl, by rw [hU], by rw [hU]; exact hP, va_K.moved hW.alike hK, hD.weaken (fun _ _ _ _ => trivial), by rw [hU]; exact ((hZ.kept hS.2.1).narrow hf9).moved hW.alike, hN.warm hW⟩⟩ rfl rfl hl.1 rfl (lv_room (Nat.le_of_ble_eq_true rfl)) dX6_predictFour_31 ⟨(Nat.zero_le _), (Nat.zero_le _)⟩) hS (fun q _ h => hf9 q h) hf9 (fun u t H locs ht hvm hw hB hz1 hk1 hS => ?_)
  obtain ⟨hP, hK9, hD9⟩ := hB
  rw [ht] at hP
  have hD := hD9.weaken (fun _ q _ h => hf9 q.1 h)
  refine lv_iconst (v := (0 : Int32)) hx hb dX6_predictFour_34 (by decide) ?_
  refine lv_istore (lv' := [(8, .int (0 : Int32)), (7, .int y2.2), (6, .int y1.2), (0, .ref (ad a)), (1, va_re ad p0), (2, .int p1), (3, .int p2), (4, .int p3), (5, .int p4)]) hx hb dX6_predictFour_35 hl (by decide) rfl (fun ls hl => ?_)
  obtain ⟨y6, hy6, hF⟩ := bnd_some hF
  have K6 : ∀ (H : Heap) (locs : List Loc) (ls : Array Slot), va_P D classes (wld ct ad G y6.2) H → va_D A (wld ct ad G y6.2) → va_S A s.heap H locs → lv_has ls 14 [(8, .int y6.1), (7, .int y2.2), (6, .int y1.2), (0, .ref (ad a)), (1, va_re ad p0), (2, .int p1), (3, .int p2), (4, .int p3), (5, .int p4)] → W p l e (headSpec wsX6_predictFour ({ frames := 2, cells := 0, slots := 0, locals := 49 })).room s m ([.ref (ad a), va_re ad p0, .int p1, .int p2, .int p3, .int p4] : List Value).toArray below meth c H locs 0 0 (MQ below (va_Qv (fun (_ : Unit) => True) (fun _ t => kE D ct ad G A y t) A) ([.ref (ad a), va_re ad p0, .int p1, .int p2, .int p3, .int p4] : List Value).toArray s 0 0 A) (F0 m 418 ls []) := by
    intro H locs ls hP hD hS hl
    obtain rfl := Option.some.inj hF
    exact W.vret hx hb hr (fun t ht hW => ⟨⟨(), rfl, trivial, ⟨by rw [ht]; exact hP, va_K.moved hW.alike hK, hD⟩⟩, hS.F ht⟩) hS.2.2 dX6_predictFour_418
  clear hF
  refine itr_rule (fun (s7 : Int32 × DD) => ∀ (H : Heap) (locs : List Loc) (ls : Array Slot), va_P D classes (wld ct ad G s7.2) H → va_D A (wld ct ad G s7.2) → va_S A s.heap H locs → lv_has ls 14 [(8, .int s7.1), (7, .int y2.2), (6, .int y1.2), (0, .ref (ad a)), (1, va_re ad p0), (2, .int p1), (3, .int p2), (4, .int p3), (5, .int p4)] → W p l e (headSpec wsX6_predictFour ({ frames := 2, cells := 0, slots := 0, locals := 49 })).room s m ([.ref (ad a), va_re ad p0, .int p1, .int p2, .int p3, .int p4] : List Value).toArray below meth c H locs 0 0 (MQ below (va_Qv (fun (_ : Unit) => True) (fun _ t => kE D ct ad G A y t) A) ([.ref (ad a), va_re ad p0, .int p1, .int p2, .int p3, .int p4] : List Value).toArray s 0 0 A) (F0 m 37 ls [])) ?_ _ _ hy6 _ _ _ hP hD hS (lv_sub hl [0, 1, 2, 3, 4, 5, 6, 7, 8] rfl)
  rintro s7 ⟨z9, hF, hwz9⟩ H locs ls hP hD hS hl
  try dsimp only at hF
  refine lv_iload hx hb dX6_predictFour_37 (lv_at hl 0 rfl) ?_
  refine lv_bipush (v := (16 : Int32)) hx hb dX6_predictFour_39 (by decide) ?_
  refine lv_icmp_ge (tgt := 418) hx hb dX6_predictFour_41 (by decide) (fun c10 => ?_) (fun c10 => ?_)
  · rw [if_pos c10] at hF
    obtain rfl := Option.some.inj hF
    subst hwz9
    exact K6 _ _ _ hP hD hS (lv_sub hl [0, 1, 2, 3, 4, 5, 6, 7, 8] rfl)
  · rw [if_neg c10] at hF
    refine lv_iload hx hb dX6_predictFour_44 (lv_at hl 0 rfl) ?_
    refine lv_iconst (v := (4 : Int32)) hx hb dX6_predictFour_46 (by decide) ?_
    refine lv_irem hx hb dX6_predictFour_47 (by decide) ?_
    obtain ⟨x11, ex11, hF⟩ := ltt_some hF
    refine lv_topi (fun zx11 ezx11 => ?_)
    obtain rfl : x11 = zx11 := ex11.trans ezx11.symm
    refine lv_istore (lv' := [(9, .int x11), (8, .int s7.1), (7, .int y2.2), (6, .int y1.2), (0, .ref (ad a)), (1, va_re ad p0), (2, .int p1), (3, .int p2), (4, .int p3), (5, .int p4)]) hx hb dX6_predictFour_48 hl (by decide) rfl (fun ls hl => ?_)
    refine lv_iload hx hb dX6_predictFour_50 (lv_at hl 1 rfl) ?_
    refine lv_iconst (v := (4 : Int32)) hx hb dX6_predictFour_52 (by decide) ?_
    refine lv_idiv hx hb dX6_predictFour_53 (by decide) ?_
    obtain ⟨x12, ex12, hF⟩ := ltt_some hF
    refine lv_topi (fun zx12 ezx12 => ?_)
    obtain rfl : x12 = zx12 := ex12.trans ezx12.symm
    refine lv_istore (lv' := [(10, .int x12), (9, .int x11), (8, .int s7.1), (7, .int y2.2), (6, .int y1.2), (0, .ref (ad a)), (1, va_re ad p0), (2, .int p1), (3, .int p2), (4, .int p3), (5, .int p4)]) hx hb dX6_predictFour_54 hl (by decide) rfl (fun ls hl => ?_)
    refine lv_iload hx hb dX6_predictFour_56 (lv_at hl 9 rfl) ?_
    obtain ⟨y13, hy13, hF⟩ := bnd_some hF
    have J13 : ∀ (H : Heap) (locs : List Loc) (ls : Array Slot), va_P D classes (wld ct ad G y13.2) H → va_D A (wld ct ad G y13.2) → va_S A s.heap H locs → lv_has ls 14 [(11, .int y13.1), (10, .int x12), (9, .int x11), (8, .int s7.1), (7, .int y2.2), (6, .int y1.2), (0, .ref (ad a)), (1, va_re ad p0), (2, .int p1), (3, .int p2), (4, .int p3), (5, .int p4)] → W p l e (headSpec wsX6_predictFour ({ frames := 2, cells := 0, slots := 0, locals := 49 })).room s m ([.ref (ad a), va_re ad p0, .int p1, .int p2, .int p3, .int p4] : List Value).toArray below meth c H locs 0 0 (MQ below (va_Qv (fun (_ : Unit) => True) (fun _ t => kE D ct ad G A y t) A) ([.ref (ad a), va_re ad p0, .int p1, .int p2, .int p3, .int p4] : List Value).toArray s 0 0 A) (F0 m 391 ls []) := by
      intro H locs ls hP hD hS hl
      refine lv_aload_n hx hb dX6_predictFour_391 rfl (lv_at hl 6 rfl) ?_
      refine va_get (D := D) (ci := 6) (v := va_re ad (y13.2.2 a 0)) (C := RX6) (T := TX6) (N := 14) hx hb hts (by decide +kernel) hown hK hP a (wld_o ct ad G y13.2 hc hk (by decide)) rfl 0 (by decide) (hts (.fieldLink RX6 9 "VideoSuite$Samples" "guess" "[I") (by decide +kernel)) (fun _ h9 => h9) rfl dX6_predictFour_392 ?_
      refine lv_iload hx hb dX6_predictFour_395 (lv_at hl 4 rfl) ?_
      refine lv_iload hx hb dX6_predictFour_397 (lv_at hl 1 rfl) ?_
      refine lv_iadd hx hb dX6_predictFour_399 ?_
      obtain ⟨x14, ex14, hF⟩ := ltt_some hF
      refine lv_topi (fun zx14 ezx14 => ?_)
      obtain rfl : x14 = zx14 := ex14.trans ezx14.symm
      refine lv_bipush (v := (16 : Int32)) hx hb dX6_predictFour_400 (by decide) ?_
      refine lv_imul hx hb dX6_predictFour_402 ?_
      obtain ⟨x15, ex15, hF⟩ := ltt_some hF
      refine lv_topi (fun zx15 ezx15 => ?_)
      obtain rfl : x15 = zx15 := ex15.trans ezx15.symm
      refine lv_iload hx hb dX6_predictFour_403 (lv_at hl 5 rfl) ?_
      refine lv_iadd hx hb dX6_predictFour_405 ?_
      obtain ⟨x16, ex16, hF⟩ := ltt_some hF
      refine lv_topi (fun zx16 ezx16 => ?_)
      obtain rfl : x16 = zx16 := ex16.trans ezx16.symm
      refine lv_iload hx hb dX6_predictFour_406 (lv_at hl 2 rfl) ?_
      refine lv_iadd hx hb dX6_predictFour_408 ?_
      obtain ⟨x17, ex17, hF⟩ := ltt_some hF
      refine lv_topi (fun zx17 ezx17 => ?_)
      obtain rfl : x17 = zx17 := ex17.trans ezx17.symm
      refine lv_iload hx hb dX6_predictFour_409 (lv_at hl 0 rfl) ?_
      obtain ⟨b18, ho18, hc18, hk18, hF⟩ := dr_some hF
      refine W_st (st' := [.int y13.1, .int x17, .ref (ad b18)]) (by rw [va_some ho18]) ?_
      obtain ⟨hvc, hF⟩ := chk_some hF
      refine va_iast hx hb hK hP hD hS b18 1 (wld_i ct ad G y13.2 hc18 hk18) rfl hvc dX6_predictFour_411 (fun H locs hP hD hS => ?_)
      obtain ⟨M19, eM19, hF⟩ := ltt_some hF
      rw [set_i ct ad G y13.2 hc18 hk18, ← eM19] at hP hD
      obtain ⟨x20, ex20, hF⟩ := ltt_some hF
      refine lv_iinc (v := x20) (lv' := [(8, .int x20), (11, .int y13.1), (10, .int x12), (9, .int x11), (7, .int y2.2), (6, .int y1.2), (0, .ref (ad a)), (1, va_re ad p0), (2, .int p1), (3, .int p2), (4, .int p3), (5, .int p4)]) hx hb dX6_predictFour_412 hl (k := 3) rfl (by rw [ex20]; rfl) (by decide) rfl (fun ls hl => ?_)
      refine lv_goto (tgt := 37) hx hb dX6_predictFour_415 (by decide) ?_
      obtain rfl := Option.some.inj hF
      exact hwz9 _ _ _ hP hD hS (lv_sub hl [0, 4, 5, 6, 7, 8, 9, 10, 11] rfl)
    clear hF
    have hF := hy13
    clear hy13
    refine lv_if_ne (tgt := 75) hx hb dX6_predictFour_58 (by decide) (fun c21 => ?_) (fun c21 => ?_)
    · rw [if_neg c21] at hF
      refine lv_iload hx hb dX6_predictFour_75 (lv_at hl 9 rfl) ?_
      refine lv_iconst (v := (1 : Int32)) hx hb dX6_predictFour_77 (by decide) ?_
      obtain ⟨y22, hy22, hF⟩ := bnd_some hF
      have J22 : ∀ (H : Heap) (locs : List Loc) (ls : Array Slot), va_P D classes (wld ct ad G y22.2) H → va_D A (wld ct ad G y22.2) → va_S A s.heap H locs → lv_has ls 14 [(11, .int y22.1), (10, .int x12), (9, .int x11), (8, .int s7.1), (7, .int y2.2), (6, .int y1.2), (0, .ref (ad a)), (1, va_re ad p0), (2, .int p1), (3, .int p2), (4, .int p3), (5, .int p4)] → W p l e (headSpec wsX6_predictFour ({ frames := 2, cells := 0, slots := 0, locals := 49 })).room s m ([.ref (ad a), va_re ad p0, .int p1, .int p2, .int p3, .int p4] : List Value).toArray below meth c H locs 0 0 (MQ below (va_Qv (fun (_ : Unit) => True) (fun _ t => kE D ct ad G A y t) A) ([.ref (ad a), va_re ad p0, .int p1, .int p2, .int p3, .int p4] : List Value).toArray s 0 0 A) (F0 m 391 ls []) := by
        intro H locs ls hP hD hS hl
        obtain rfl := Option.some.inj hF
        exact J13 _ _ _ hP hD hS (lv_sub hl [0, 1, 2, 3, 4, 5, 6, 7, 8, 9, 10, 11] rfl)
      clear hF
      have hF := hy22
      clear hy22
      refine lv_icmp_ne (tgt := 95) hx hb dX6_predictFour_78 (by decide) (fun c23 => ?_) (fun c23 => ?_)
      · rw [if_neg c23] at hF
        refine lv_iload hx hb dX6_predictFour_95 (lv_at hl 9 rfl) ?_
        refine lv_iconst (v := (2 : Int32)) hx hb dX6_predictFour_97 (by decide) ?_
        obtain ⟨y24, hy24, hF⟩ := bnd_some hF
        have J24 : ∀ (H : Heap) (locs : List Loc) (ls : Array Slot), va_P D classes (wld ct ad G y24.2) H → va_D A (wld ct ad G y24.2) → va_S A s.heap H locs → lv_has ls 14 [(11, .int y24.1), (10, .int x12), (9, .int x11), (8, .int s7.1), (7, .int y2.2), (6, .int y1.2), (0, .ref (ad a)), (1, va_re ad p0), (2, .int p1), (3, .int p2), (4, .int p3), (5, .int p4)] → W p l e (headSpec wsX6_predictFour ({ frames := 2, cells := 0, slots := 0, locals := 49 })).room s m ([.ref (ad a), va_re ad p0, .int p1, .int p2, .int p3, .int p4] : List Value).toArray below meth c H locs 0 0 (MQ below (va_Qv (fun (_ : Unit) => True) (fun _ t => kE D ct ad G A y t) A) ([.ref (ad a), va_re ad p0, .int p1, .int p2, .int p3, .int p4] : List Value).toArray s 0 0 A) (F0 m 391 ls []) := by
          intro H locs ls hP hD hS hl
          obtain rfl := Option.some.inj hF
          exact J22 _ _ _ hP hD hS (lv_sub hl [0, 1, 2, 3, 4, 5, 6, 7, 8, 9, 10, 11] rfl)
        clear hF
        have hF := hy24
        clear hy24
        refine lv_icmp_ne (tgt := 112) hx hb dX6_predictFour_98 (by decide) (fun c25 => ?_) (fun c25 => ?_)
        · rw [if_neg c25] at hF
          refine lv_iload hx hb dX6_predictFour_112 (lv_at hl 9 rfl) ?_
          refine lv_iconst (v := (3 : Int32)) hx hb dX6_predictFour_114 (by decide) ?_
          obtain ⟨y26, hy26, hF⟩ := bnd_some hF
          have J26 : ∀ (H : Heap) (locs : List Loc) (ls : Array Slot), va_P D classes (wld ct ad G y26.2) H → va_D A (wld ct ad G y26.2) → va_S A s.heap H locs → lv_has ls 14 [(11, .int y26.1), (10, .int x12), (9, .int x11), (8, .int s7.1), (7, .int y2.2), (6, .int y1.2), (0, .ref (ad a)), (1, va_re ad p0), (2, .int p1), (3, .int p2), (4, .int p3), (5, .int p4)] → W p l e (headSpec wsX6_predictFour ({ frames := 2, cells := 0, slots := 0, locals := 49 })).room s m ([.ref (ad a), va_re ad p0, .int p1, .int p2, .int p3, .int p4] : List Value).toArray below meth c H locs 0 0 (MQ below (va_Qv (fun (_ : Unit) => True) (fun _ t => kE D ct ad G A y t) A) ([.ref (ad a), va_re ad p0, .int p1, .int p2, .int p3, .int p4] : List Value).toArray s 0 0 A) (F0 m 391 ls []) := by
            intro H locs ls hP hD hS hl
            obtain rfl := Option.some.inj hF
            exact J24 _ _ _ hP hD hS (lv_sub hl [0, 1, 2, 3, 4, 5, 6, 7, 8, 9, 10, 11] rfl)
          clear hF
          have hF := hy26
          clear hy26
          refine lv_icmp_ne (tgt := 170) hx hb dX6_predictFour_115 (by decide) (fun c27 => ?_) (fun c27 => ?_)
          · rw [if_neg c27] at hF
            refine lv_iload hx hb dX6_predictFour_170 (lv_at hl 9 rfl) ?_
            refine lv_iconst (v := (4 : Int32)) hx hb dX6_predictFour_172 (by decide) ?_
            obtain ⟨y28, hy28, hF⟩ := bnd_some hF
            have J28 : ∀ (H : Heap) (locs : List Loc) (ls : Array Slot), va_P D classes (wld ct ad G y28.2) H → va_D A (wld ct ad G y28.2) → va_S A s.heap H locs → lv_has ls 14 [(11, .int y28.1), (10, .int x12), (9, .int x11), (8, .int s7.1), (7, .int y2.2), (6, .int y1.2), (0, .ref (ad a)), (1, va_re ad p0), (2, .int p1), (3, .int p2), (4, .int p3), (5, .int p4)] → W p l e (headSpec wsX6_predictFour ({ frames := 2, cells := 0, slots := 0, locals := 49 })).room s m ([.ref (ad a), va_re ad p0, .int p1, .int p2, .int p3, .int p4] : List Value).toArray below meth c H locs 0 0 (MQ below (va_Qv (fun (_ : Unit) => True) (fun _ t => kE D ct ad G A y t) A) ([.ref (ad a), va_re ad p0, .int p1, .int p2, .int p3, .int p4] : List Value).toArray s 0 0 A) (F0 m 391 ls []) := by
              intro H locs ls hP hD hS hl
              obtain rfl := Option.some.inj hF
              exact J26 _ _ _ hP hD hS (lv_sub hl [0, 1, 2, 3, 4, 5, 6, 7, 8, 9, 10, 11] rfl)
            clear hF
            have hF := hy28
            clear hy28
            refine lv_icmp_ne (tgt := 206) hx hb dX6_predictFour_173 (by decide) (fun c29 => ?_) (fun c29 => ?_)
            · rw [if_neg c29] at hF
              refine lv_iload hx hb dX6_predictFour_206 (lv_at hl 9 rfl) ?_
              refine lv_iconst (v := (5 : Int32)) hx hb dX6_predictFour_208 (by decide) ?_
              obtain ⟨y30, hy30, hF⟩ := bnd_some hF
              have J30 : ∀ (H : Heap) (locs : List Loc) (ls : Array Slot), va_P D classes (wld ct ad G y30.2) H → va_D A (wld ct ad G y30.2) → va_S A s.heap H locs → lv_has ls 14 [(11, .int y30.1), (10, .int x12), (9, .int x11), (8, .int s7.1), (7, .int y2.2), (6, .int y1.2), (0, .ref (ad a)), (1, va_re ad p0), (2, .int p1), (3, .int p2), (4, .int p3), (5, .int p4)] → W p l e (headSpec wsX6_predictFour ({ frames := 2, cells := 0, slots := 0, locals := 49 })).room s m ([.ref (ad a), va_re ad p0, .int p1, .int p2, .int p3, .int p4] : List Value).toArray below meth c H locs 0 0 (MQ below (va_Qv (fun (_ : Unit) => True) (fun _ t => kE D ct ad G A y t) A) ([.ref (ad a), va_re ad p0, .int p1, .int p2, .int p3, .int p4] : List Value).toArray s 0 0 A) (F0 m 391 ls []) := by
                intro H locs ls hP hD hS hl
                obtain rfl := Option.some.inj hF
                exact J28 _ _ _ hP hD hS (lv_sub hl [0, 1, 2, 3, 4, 5, 6, 7, 8, 9, 10, 11] rfl)
              clear hF
              have hF := hy30
              clear hy30
              refine lv_icmp_ne (tgt := 226) hx hb dX6_predictFour_209 (by decide) (fun c31 => ?_) (fun c31 => ?_)
              · rw [if_neg c31] at hF
                refine lv_iload hx hb dX6_predictFour_226 (lv_at hl 9 rfl) ?_
                refine lv_bipush (v := (6 : Int32)) hx hb dX6_predictFour_228 (by decide) ?_
                obtain ⟨y32, hy32, hF⟩ := bnd_some hF
                have J32 : ∀ (H : Heap) (locs : List Loc) (ls : Array Slot), va_P D classes (wld ct ad G y32.2) H → va_D A (wld ct ad G y32.2) → va_S A s.heap H locs → lv_has ls 14 [(11, .int y32.1), (10, .int x12), (9, .int x11), (8, .int s7.1), (7, .int y2.2), (6, .int y1.2), (0, .ref (ad a)), (1, va_re ad p0), (2, .int p1), (3, .int p2), (4, .int p3), (5, .int p4)] → W p l e (headSpec wsX6_predictFour ({ frames := 2, cells := 0, slots := 0, locals := 49 })).room s m ([.ref (ad a), va_re ad p0, .int p1, .int p2, .int p3, .int p4] : List Value).toArray below meth c H locs 0 0 (MQ below (va_Qv (fun (_ : Unit) => True) (fun _ t => kE D ct ad G A y t) A) ([.ref (ad a), va_re ad p0, .int p1, .int p2, .int p3, .int p4] : List Value).toArray s 0 0 A) (F0 m 391 ls []) := by
                  intro H locs ls hP hD hS hl
                  obtain rfl := Option.some.inj hF
                  exact J30 _ _ _ hP hD hS (lv_sub hl [0, 1, 2, 3, 4, 5, 6, 7, 8, 9, 10, 11] rfl)
                clear hF
                have hF := hy32
                clear hy32
                refine lv_icmp_ne (tgt := 247) hx hb dX6_predictFour_230 (by decide) (fun c33 => ?_) (fun c33 => ?_)
                · rw [if_neg c33] at hF
                  refine lv_iload hx hb dX6_predictFour_247 (lv_at hl 9 rfl) ?_
                  refine lv_bipush (v := (7 : Int32)) hx hb dX6_predictFour_249 (by decide) ?_
                  obtain ⟨y34, hy34, hF⟩ := bnd_some hF
                  have J34 : ∀ (H : Heap) (locs : List Loc) (ls : Array Slot), va_P D classes (wld ct ad G y34.2.2) H → va_D A (wld ct ad G y34.2.2) → va_S A s.heap H locs → lv_has ls 14 [(12, .int y34.2.1), (11, .int y34.1), (10, .int x12), (9, .int x11), (8, .int s7.1), (7, .int y2.2), (6, .int y1.2), (0, .ref (ad a)), (1, va_re ad p0), (2, .int p1), (3, .int p2), (4, .int p3), (5, .int p4)] → W p l e (headSpec wsX6_predictFour ({ frames := 2, cells := 0, slots := 0, locals := 49 })).room s m ([.ref (ad a), va_re ad p0, .int p1, .int p2, .int p3, .int p4] : List Value).toArray below meth c H locs 0 0 (MQ below (va_Qv (fun (_ : Unit) => True) (fun _ t => kE D ct ad G A y t) A) ([.ref (ad a), va_re ad p0, .int p1, .int p2, .int p3, .int p4] : List Value).toArray s 0 0 A) (F0 m 391 ls []) := by
                    intro H locs ls hP hD hS hl
                    obtain rfl := Option.some.inj hF
                    exact J32 _ _ _ hP hD hS (lv_sub hl [1, 2, 3, 4, 5, 6, 7, 8, 9, 10, 11, 12] rfl)
                  clear hF
                  have hF := hy34
                  clear hy34
                  refine lv_icmp_ne (tgt := 304) hx hb dX6_predictFour_251 (by decide) (fun c35 => ?_) (fun c35 => ?_)
                  · rw [if_neg c35] at hF
                    refine lv_iconst (v := (3 : Int32)) hx hb dX6_predictFour_304 (by decide) ?_
                    refine lv_iload hx hb dX6_predictFour_305 (lv_at hl 0 rfl) ?_
                    refine lv_isub hx hb dX6_predictFour_307 ?_
                    obtain ⟨x36, ex36, hF⟩ := ltt_some hF
                    refine lv_topi (fun zx36 ezx36 => ?_)
                    obtain rfl : x36 = zx36 := ex36.trans ezx36.symm
                    refine lv_iload hx hb dX6_predictFour_308 (lv_at hl 1 rfl) ?_
                    refine lv_iconst (v := (1 : Int32)) hx hb dX6_predictFour_310 (by decide) ?_
                    refine lv_ishr hx hb dX6_predictFour_311 ?_
                    obtain ⟨x37, ex37, hF⟩ := ltt_some hF
                    refine lv_topi (fun zx37 ezx37 => ?_)
                    obtain rfl : x37 = zx37 := ex37.trans ezx37.symm
                    refine lv_isub hx hb dX6_predictFour_312 ?_
                    obtain ⟨x38, ex38, hF⟩ := ltt_some hF
                    refine lv_topi (fun zx38 ezx38 => ?_)
                    obtain rfl : x38 = zx38 := ex38.trans ezx38.symm
                    refine lv_istore (lv' := [(12, .int x38), (10, .int x12), (9, .int x11), (8, .int s7.1), (7, .int y2.2), (6, .int y1.2), (0, .ref (ad a)), (1, va_re ad p0), (2, .int p1), (3, .int p2), (4, .int p3), (5, .int p4)]) hx hb dX6_predictFour_313 hl (by decide) rfl (fun ls hl => ?_)
                    refine lv_iload hx hb dX6_predictFour_315 (lv_at hl 2 rfl) ?_
                    refine lv_iconst (v := (2 : Int32)) hx hb dX6_predictFour_317 (by decide) ?_
                    refine lv_iload hx hb dX6_predictFour_318 (lv_at hl 1 rfl) ?_
                    refine lv_imul hx hb dX6_predictFour_320 ?_
                    obtain ⟨x39, ex39, hF⟩ := ltt_some hF
                    refine lv_topi (fun zx39 ezx39 => ?_)
                    obtain rfl : x39 = zx39 := ex39.trans ezx39.symm
                    refine lv_iadd hx hb dX6_predictFour_321 ?_
                    obtain ⟨x40, ex40, hF⟩ := ltt_some hF
                    refine lv_topi (fun zx40 ezx40 => ?_)
                    obtain rfl : x40 = zx40 := ex40.trans ezx40.symm
                    refine lv_istore (lv' := [(13, .int x40), (12, .int x38), (10, .int x12), (9, .int x11), (8, .int s7.1), (7, .int y2.2), (6, .int y1.2), (0, .ref (ad a)), (1, va_re ad p0), (2, .int p1), (3, .int p2), (4, .int p3), (5, .int p4)]) hx hb dX6_predictFour_322 hl (by decide) rfl (fun ls hl => ?_)
                    refine lv_iload hx hb dX6_predictFour_324 (lv_at hl 0 rfl) ?_
                    refine lv_iconst (v := (5 : Int32)) hx hb dX6_predictFour_326 (by decide) ?_
                    obtain ⟨y41, hy41, hF⟩ := bnd_some hF
                    have J41 : ∀ (H : Heap) (locs : List Loc) (ls : Array Slot), va_P D classes (wld ct ad G y41.2) H → va_D A (wld ct ad G y41.2) → va_S A s.heap H locs → lv_has ls 14 [(13, .int x40), (12, .int x38), (10, .int x12), (9, .int x11), (8, .int s7.1), (7, .int y2.2), (6, .int y1.2), (0, .ref (ad a)), (1, va_re ad p0), (2, .int p1), (3, .int p2), (4, .int p3), (5, .int p4)] → W p l e (headSpec wsX6_predictFour ({ frames := 2, cells := 0, slots := 0, locals := 49 })).room s m ([.ref (ad a), va_re ad p0, .int p1, .int p2, .int p3, .int p4] : List Value).toArray below meth c H locs 0 0 (MQ below (va_Qv (fun (_ : Unit) => True) (fun _ t => kE D ct ad G A y t) A) ([.ref (ad a), va_re ad p0, .int p1, .int p2, .int p3, .int p4] : List Value).toArray s 0 0 A) (F0 m 389 ls [.int y41.1]) := by
                      intro H locs ls hP hD hS hl
                      refine lv_istore (lv' := [(11, .int y41.1), (13, .int x40), (12, .int x38), (10, .int x12), (9, .int x11), (8, .int s7.1), (7, .int y2.2), (6, .int y1.2), (0, .ref (ad a)), (1, va_re ad p0), (2, .int p1), (3, .int p2), (4, .int p3), (5, .int p4)]) hx hb dX6_predictFour_389 hl (by decide) rfl (fun ls hl => ?_)
                      obtain rfl := Option.some.inj hF
                      exact J34 _ _ _ hP hD hS (lv_sub hl [2, 0, 3, 4, 5, 6, 7, 8, 9, 10, 11, 12, 13] rfl)
                    clear hF
                    have hF := hy41
                    clear hy41
                    refine lv_icmp_le (tgt := 339) hx hb dX6_predictFour_327 (by decide) (fun c42 => ?_) (fun c42 => ?_)
                    · rw [if_pos c42] at hF
                      refine lv_iload hx hb dX6_predictFour_339 (lv_at hl 0 rfl) ?_
                      refine lv_iconst (v := (5 : Int32)) hx hb dX6_predictFour_341 (by decide) ?_
                      obtain ⟨y43, hy43, hF⟩ := bnd_some hF
                      have J43 : ∀ (H : Heap) (locs : List Loc) (ls : Array Slot), va_P D classes (wld ct ad G y43.2) H → va_D A (wld ct ad G y43.2) → va_S A s.heap H locs → lv_has ls 14 [(13, .int x40), (12, .int x38), (10, .int x12), (9, .int x11), (8, .int s7.1), (7, .int y2.2), (6, .int y1.2), (0, .ref (ad a)), (1, va_re ad p0), (2, .int p1), (3, .int p2), (4, .int p3), (5, .int p4)] → W p l e (headSpec wsX6_predictFour ({ frames := 2, cells := 0, slots := 0, locals := 49 })).room s m ([.ref (ad a), va_re ad p0, .int p1, .int p2, .int p3, .int p4] : List Value).toArray below meth c H locs 0 0 (MQ below (va_Qv (fun (_ : Unit) => True) (fun _ t => kE D ct ad G A y t) A) ([.ref (ad a), va_re ad p0, .int p1, .int p2, .int p3, .int p4] : List Value).toArray s 0 0 A) (F0 m 389 ls [.int y43.1]) := by
                        intro H locs ls hP hD hS hl
                        obtain rfl := Option.some.inj hF
                        exact J41 _ _ _ hP hD hS (lv_sub hl [0, 1, 2, 3, 4, 5, 6, 7, 8, 9, 10, 11, 12] rfl)
                      clear hF
                      have hF := hy43
                      clear hy43
                      refine lv_icmp_ne (tgt := 355) hx hb dX6_predictFour_342 (by decide) (fun c44 => ?_) (fun c44 => ?_)
                      · rw [if_neg c44] at hF
                        refine lv_iload hx hb dX6_predictFour_355 (lv_at hl 0 rfl) ?_
                        refine lv_iconst (v := (2 : Int32)) hx hb dX6_predictFour_357 (by decide) ?_
                        refine lv_irem hx hb dX6_predictFour_358 (by decide) ?_
                        obtain ⟨x45, ex45, hF⟩ := ltt_some hF
                        refine lv_topi (fun zx45 ezx45 => ?_)
                        obtain rfl : x45 = zx45 := ex45.trans ezx45.symm
                        obtain ⟨y46, hy46, hF⟩ := bnd_some hF
                        have J46 : ∀ (H : Heap) (locs : List Loc) (ls : Array Slot), va_P D classes (wld ct ad G y46.2) H → va_D A (wld ct ad G y46.2) → va_S A s.heap H locs → lv_has ls 14 [(13, .int x40), (12, .int x38), (10, .int x12), (9, .int x11), (8, .int s7.1), (7, .int y2.2), (6, .int y1.2), (0, .ref (ad a)), (1, va_re ad p0), (2, .int p1), (3, .int p2), (4, .int p3), (5, .int p4)] → W p l e (headSpec wsX6_predictFour ({ frames := 2, cells := 0, slots := 0, locals := 49 })).room s m ([.ref (ad a), va_re ad p0, .int p1, .int p2, .int p3, .int p4] : List Value).toArray below meth c H locs 0 0 (MQ below (va_Qv (fun (_ : Unit) => True) (fun _ t => kE D ct ad G A y t) A) ([.ref (ad a), va_re ad p0, .int p1, .int p2, .int p3, .int p4] : List Value).toArray s 0 0 A) (F0 m 389 ls [.int y46.1]) := by
                          intro H locs ls hP hD hS hl
                          obtain rfl := Option.some.inj hF
                          exact J43 _ _ _ hP hD hS (lv_sub hl [0, 1, 2, 3, 4, 5, 6, 7, 8, 9, 10, 11, 12] rfl)
                        clear hF
                        have hF := hy46
                        clear hy46
                        refine lv_if_ne (tgt := 375) hx hb dX6_predictFour_359 (by decide) (fun c47 => ?_) (fun c47 => ?_)
                        · rw [if_neg c47] at hF
                          refine lv_aload_n hx hb dX6_predictFour_375 rfl (lv_at hl 7 rfl) ?_
                          refine lv_iload hx hb dX6_predictFour_376 (lv_at hl 1 rfl) ?_
                          refine lv_iload hx hb dX6_predictFour_378 (lv_at hl 1 rfl) ?_
                          refine lv_iconst (v := (1 : Int32)) hx hb dX6_predictFour_380 (by decide) ?_
                          refine lv_isub hx hb dX6_predictFour_381 ?_
                          obtain ⟨x48, ex48, hF⟩ := ltt_some hF
                          refine lv_topi (fun zx48 ezx48 => ?_)
                          obtain rfl : x48 = zx48 := ex48.trans ezx48.symm
                          refine lv_iload hx hb dX6_predictFour_382 (lv_at hl 1 rfl) ?_
                          refine lv_iconst (v := (2 : Int32)) hx hb dX6_predictFour_384 (by decide) ?_
                          refine lv_isub hx hb dX6_predictFour_385 ?_
                          obtain ⟨x49, ex49, hF⟩ := ltt_some hF
                          refine lv_topi (fun zx49 ezx49 => ?_)
                          obtain rfl : x49 = zx49 := ex49.trans ezx49.symm
                          obtain ⟨y50, hy50, hF⟩ := bnd_some hF
                          have hf9 := wA_in hD hA9 hS
                          refine va_calli (va_runV (As := [.int x38, .int x48, .int x49]) (rest := []) ⟨hx, hb, hml, hown, hts⟩ (kX6_three l D ct ad Z G s7.2 H.size a x38 x48 x49 y50 hc hk hy50) (cwV 3 hts gX6_predictFour_X6_three rfl rfl rfl (by decide +kernel) ⟨Nat.le_of_ble_eq_true rfl, Nat.le_of_ble_eq_true rfl⟩) ⟨fun a U g mk q => by obtain ⟨q0, q1, qP, qK, qD, qZ, qN⟩ := q; exact ⟨q0, q1, qP, va_K.moved (u := U) (U := U.calling g mk a) (Vm.Alike.refl U.vm) qK, qD, sF.moved (u := U) (U := U.calling g mk a) (Vm.Alike.refl U.vm) qZ, nF.same rfl qN⟩, va_recv hK hP (ci := 6) (q0 := a) rfl (wld_o ct ad G s7.2 hc hk (by decide)), fun U hU hW => ⟨rfl, by rw [hU], by rw [hU]; exact hP, va_K.moved hW.alike hK, hD.weaken (fun _ _ _ _ => trivial), by rw [hU]; exact ((hZ.kept hS.2.1).narrow hf9).moved hW.alike, hN.warm hW⟩⟩ rfl rfl hl.1 rfl (lv_room (Nat.le_of_ble_eq_true rfl)) dX6_predictFour_386 ⟨(Nat.zero_le _), (Nat.zero_le _)⟩) hS (fun q _ h => hf9 q h) hf9 (fun r u t H locs ht hvm hw hB hz1 hk1 hS => ?_)
                          obtain ⟨hP, hK9, hD9⟩ := hB
                          rw [ht] at hP
                          try dsimp only at hw
                          subst hw
                          have hD := hD9.weaken (fun _ q _ h => hf9 q.1 h)
                          obtain rfl := Option.some.inj hF
                          exact J46 _ _ _ hP hD hS (lv_sub hl [0, 1, 2, 3, 4, 5, 6, 7, 8, 9, 10, 11, 12] rfl)
                        · rw [if_pos c47] at hF
                          refine lv_aload_n hx hb dX6_predictFour_362 rfl (lv_at hl 7 rfl) ?_
                          refine lv_iload hx hb dX6_predictFour_363 (lv_at hl 1 rfl) ?_
                          refine lv_iload hx hb dX6_predictFour_365 (lv_at hl 1 rfl) ?_
                          refine lv_iconst (v := (1 : Int32)) hx hb dX6_predictFour_367 (by decide) ?_
                          refine lv_isub hx hb dX6_predictFour_368 ?_
                          obtain ⟨x51, ex51, hF⟩ := ltt_some hF
                          refine lv_topi (fun zx51 ezx51 => ?_)
                          obtain rfl : x51 = zx51 := ex51.trans ezx51.symm
                          obtain ⟨y52, hy52, hF⟩ := bnd_some hF
                          have hf9 := wA_in hD hA9 hS
                          refine va_calli (va_runV (As := [.int x38, .int x51]) (rest := []) ⟨hx, hb, hml, hown, hts⟩ (kX6_two l D ct ad Z G s7.2 H.size a x38 x51 y52 hc hk hy52) (cwV 2 hts gX6_predictFour_X6_two rfl rfl rfl (by decide +kernel) ⟨Nat.le_of_ble_eq_true rfl, Nat.le_of_ble_eq_true rfl⟩) ⟨fun a U g mk q => by obtain ⟨q0, q1, qP, qK, qD, qZ, qN⟩ := q; exact ⟨q0, q1, qP, va_K.moved (u := U) (U := U.calling g mk a) (Vm.Alike.refl U.vm) qK, qD, sF.moved (u := U) (U := U.calling g mk a) (Vm.Alike.refl U.vm) qZ, nF.same rfl qN⟩, va_recv hK hP (ci := 6) (q0 := a) rfl (wld_o ct ad G s7.2 hc hk (by decide)), fun U hU hW => ⟨rfl, by rw [hU], by rw [hU]; exact hP, va_K.moved hW.alike hK, hD.weaken (fun _ _ _ _ => trivial), by rw [hU]; exact ((hZ.kept hS.2.1).narrow hf9).moved hW.alike, hN.warm hW⟩⟩ rfl rfl hl.1 rfl (lv_room (Nat.le_of_ble_eq_true rfl)) dX6_predictFour_369 ⟨(Nat.zero_le _), (Nat.zero_le _)⟩) hS (fun q _ h => hf9 q h) hf9 (fun r u t H locs ht hvm hw hB hz1 hk1 hS => ?_)
                          obtain ⟨hP, hK9, hD9⟩ := hB
                          rw [ht] at hP
                          try dsimp only at hw
                          subst hw
                          have hD := hD9.weaken (fun _ q _ h => hf9 q.1 h)
                          refine lv_goto (tgt := 389) hx hb dX6_predictFour_372 (by decide) ?_
                          obtain rfl := Option.some.inj hF
                          exact J46 _ _ _ hP hD hS (lv_sub hl [0, 1, 2, 3, 4, 5, 6, 7, 8, 9, 10, 11, 12] rfl)
                      · rw [if_pos c44] at hF
                        refine lv_aload_n hx hb dX6_predictFour_345 rfl (lv_at hl 7 rfl) ?_
                        refine lv_iconst (v := (1 : Int32)) hx hb dX6_predictFour_346 (by decide) ?_
                        refine lv_iconst (v := (0 : Int32)) hx hb dX6_predictFour_347 (by decide) ?_
                        refine lv_iconst (v := (0 : Int32)) hx hb dX6_predictFour_348 (by decide) ?_
                        obtain ⟨y53, hy53, hF⟩ := bnd_some hF
                        have hf9 := wA_in hD hA9 hS
                        refine va_calli (va_runV (As := [.int (1 : Int32), .int (0 : Int32), .int (0 : Int32)]) (rest := []) ⟨hx, hb, hml, hown, hts⟩ (kX6_three l D ct ad Z G s7.2 H.size a ((1 : Int32)) ((0 : Int32)) ((0 : Int32)) y53 hc hk hy53) (cwV 3 hts gX6_predictFour_X6_three rfl rfl rfl (by decide +kernel) ⟨Nat.le_of_ble_eq_true rfl, Nat.le_of_ble_eq_true rfl⟩) ⟨fun a U g mk q => by obtain ⟨q0, q1, qP, qK, qD, qZ, qN⟩ := q; exact ⟨q0, q1, qP, va_K.moved (u := U) (U := U.calling g mk a) (Vm.Alike.refl U.vm) qK, qD, sF.moved (u := U) (U := U.calling g mk a) (Vm.Alike.refl U.vm) qZ, nF.same rfl qN⟩, va_recv hK hP (ci := 6) (q0 := a) rfl (wld_o ct ad G s7.2 hc hk (by decide)), fun U hU hW => ⟨rfl, by rw [hU], by rw [hU]; exact hP, va_K.moved hW.alike hK, hD.weaken (fun _ _ _ _ => trivial), by rw [hU]; exact ((hZ.kept hS.2.1).narrow hf9).moved hW.alike, hN.warm hW⟩⟩ rfl rfl hl.1 rfl (lv_room (Nat.le_of_ble_eq_true rfl)) dX6_predictFour_349 ⟨(Nat.zero_le _), (Nat.zero_le _)⟩) hS (fun q _ h => hf9 q h) hf9 (fun r u t H locs ht hvm hw hB hz1 hk1 hS => ?_)
                        obtain ⟨hP, hK9, hD9⟩ := hB
                        rw [ht] at hP
                        try dsimp only at hw
                        subst hw
                        have hD := hD9.weaken (fun _ q _ h => hf9 q.1 h)
                        refine lv_goto (tgt := 389) hx hb dX6_predictFour_352 (by decide) ?_
                        obtain rfl := Option.some.inj hF
                        exact J43 _ _ _ hP hD hS (lv_sub hl [0, 1, 2, 3, 4, 5, 6, 7, 8, 9, 10, 11, 12] rfl)
                    · rw [if_neg c42] at hF
                      refine lv_aload_n hx hb dX6_predictFour_330 rfl (lv_at hl 7 rfl) ?_
                      refine va_get (D := D) (ci := 6) (v := va_re ad (s7.2.2 a 8)) (C := RX6) (T := TX6) (N := 14) hx hb hts (by decide +kernel) hown hK hP a (wld_o ct ad G s7.2 hc hk (by decide)) rfl 8 (by decide) (hts (.fieldLink RX6 36 "VideoSuite$Samples" "around" "[I") (by decide +kernel)) (fun _ h9 => h9) rfl dX6_predictFour_331 ?_
                      refine lv_iconst (v := (0 : Int32)) hx hb dX6_predictFour_334 (by decide) ?_
                      obtain ⟨b54, ho54, hc54, hk54, hF⟩ := dr_some hF
                      refine W_st (st' := [.int (0 : Int32), .ref (ad b54)]) (by rw [va_some ho54]) ?_
                      obtain ⟨hvc, hF⟩ := chk_some hF
                      refine va_iald hx hb hK hP b54 1 (wld_i ct ad G s7.2 hc54 hk54) rfl hvc dX6_predictFour_335 ?_
                      obtain ⟨x55, ex55, hF⟩ := ltt_some hF
                      refine lv_topi (fun zx55 ezx55 => ?_)
                      obtain rfl : x55 = zx55 := ex55.trans ezx55.symm
                      refine lv_goto (tgt := 389) hx hb dX6_predictFour_336 (by decide) ?_
                      obtain rfl := Option.some.inj hF
                      exact J41 _ _ _ hP hD hS (lv_sub hl [0, 1, 2, 3, 4, 5, 6, 7, 8, 9, 10, 11, 12] rfl)
                  · rw [if_pos c35] at hF
                    refine lv_iconst (v := (5 : Int32)) hx hb dX6_predictFour_254 (by decide) ?_
                    refine lv_iload hx hb dX6_predictFour_255 (lv_at hl 1 rfl) ?_
                    refine lv_iadd hx hb dX6_predictFour_257 ?_
                    obtain ⟨x56, ex56, hF⟩ := ltt_some hF
                    refine lv_topi (fun zx56 ezx56 => ?_)
                    obtain rfl : x56 = zx56 := ex56.trans ezx56.symm
                    refine lv_iload hx hb dX6_predictFour_258 (lv_at hl 0 rfl) ?_
                    refine lv_iconst (v := (1 : Int32)) hx hb dX6_predictFour_260 (by decide) ?_
                    refine lv_ishr hx hb dX6_predictFour_261 ?_
                    obtain ⟨x57, ex57, hF⟩ := ltt_some hF
                    refine lv_topi (fun zx57 ezx57 => ?_)
                    obtain rfl : x57 = zx57 := ex57.trans ezx57.symm
                    refine lv_iadd hx hb dX6_predictFour_262 ?_
                    obtain ⟨x58, ex58, hF⟩ := ltt_some hF
                    refine lv_topi (fun zx58 ezx58 => ?_)
                    obtain rfl : x58 = zx58 := ex58.trans ezx58.symm
                    refine lv_istore (lv' := [(12, .int x58), (10, .int x12), (9, .int x11), (8, .int s7.1), (7, .int y2.2), (6, .int y1.2), (0, .ref (ad a)), (1, va_re ad p0), (2, .int p1), (3, .int p2), (4, .int p3), (5, .int p4)]) hx hb dX6_predictFour_263 hl (by decide) rfl (fun ls hl => ?_)
                    refine lv_iload hx hb dX6_predictFour_265 (lv_at hl 1 rfl) ?_
                    refine lv_iconst (v := (2 : Int32)) hx hb dX6_predictFour_267 (by decide) ?_
                    refine lv_irem hx hb dX6_predictFour_268 (by decide) ?_
                    obtain ⟨x59, ex59, hF⟩ := ltt_some hF
                    refine lv_topi (fun zx59 ezx59 => ?_)
                    obtain rfl : x59 = zx59 := ex59.trans ezx59.symm
                    obtain ⟨y60, hy60, hF⟩ := bnd_some hF
                    have J60 : ∀ (H : Heap) (locs : List Loc) (ls : Array Slot), va_P D classes (wld ct ad G y60.2) H → va_D A (wld ct ad G y60.2) → va_S A s.heap H locs → lv_has ls 14 [(12, .int x58), (10, .int x12), (9, .int x11), (8, .int s7.1), (7, .int y2.2), (6, .int y1.2), (0, .ref (ad a)), (1, va_re ad p0), (2, .int p1), (3, .int p2), (4, .int p3), (5, .int p4)] → W p l e (headSpec wsX6_predictFour ({ frames := 2, cells := 0, slots := 0, locals := 49 })).room s m ([.ref (ad a), va_re ad p0, .int p1, .int p2, .int p3, .int p4] : List Value).toArray below meth c H locs 0 0 (MQ below (va_Qv (fun (_ : Unit) => True) (fun _ t => kE D ct ad G A y t) A) ([.ref (ad a), va_re ad p0, .int p1, .int p2, .int p3, .int p4] : List Value).toArray s 0 0 A) (F0 m 299 ls [.int y60.1]) := by
                      intro H locs ls hP hD hS hl
                      refine lv_istore (lv' := [(11, .int y60.1), (12, .int x58), (10, .int x12), (9, .int x11), (8, .int s7.1), (7, .int y2.2), (6, .int y1.2), (0, .ref (ad a)), (1, va_re ad p0), (2, .int p1), (3, .int p2), (4, .int p3), (5, .int p4)]) hx hb dX6_predictFour_299 hl (by decide) rfl (fun ls hl => ?_)
                      refine lv_goto (tgt := 391) hx hb dX6_predictFour_301 (by decide) ?_
                      obtain rfl := Option.some.inj hF
                      exact J34 _ _ _ hP hD hS (lv_sub hl [1, 0, 2, 3, 4, 5, 6, 7, 8, 9, 10, 11, 12] rfl)
                    clear hF
                    have hF := hy60
                    clear hy60
                    refine lv_if_ne (tgt := 285) hx hb dX6_predictFour_269 (by decide) (fun c61 => ?_) (fun c61 => ?_)
                    · rw [if_neg c61] at hF
                      refine lv_aload_n hx hb dX6_predictFour_285 rfl (lv_at hl 6 rfl) ?_
                      refine lv_iload hx hb dX6_predictFour_286 (lv_at hl 0 rfl) ?_
                      refine lv_iload hx hb dX6_predictFour_288 (lv_at hl 0 rfl) ?_
                      refine lv_iconst (v := (1 : Int32)) hx hb dX6_predictFour_290 (by decide) ?_
                      refine lv_iadd hx hb dX6_predictFour_291 ?_
                      obtain ⟨x62, ex62, hF⟩ := ltt_some hF
                      refine lv_topi (fun zx62 ezx62 => ?_)
                      obtain rfl : x62 = zx62 := ex62.trans ezx62.symm
                      refine lv_iload hx hb dX6_predictFour_292 (lv_at hl 0 rfl) ?_
                      refine lv_iconst (v := (2 : Int32)) hx hb dX6_predictFour_294 (by decide) ?_
                      refine lv_iadd hx hb dX6_predictFour_295 ?_
                      obtain ⟨x63, ex63, hF⟩ := ltt_some hF
                      refine lv_topi (fun zx63 ezx63 => ?_)
                      obtain rfl : x63 = zx63 := ex63.trans ezx63.symm
                      obtain ⟨y64, hy64, hF⟩ := bnd_some hF
                      have hf9 := wA_in hD hA9 hS
                      refine va_calli (va_runV (As := [.int x58, .int x62, .int x63]) (rest := []) ⟨hx, hb, hml, hown, hts⟩ (kX6_three l D ct ad Z G s7.2 H.size a x58 x62 x63 y64 hc hk hy64) (cwV 3 hts gX6_predictFour_X6_three rfl rfl rfl (by decide +kernel) ⟨Nat.le_of_ble_eq_true rfl, Nat.le_of_ble_eq_true rfl⟩) ⟨fun a U g mk q => by obtain ⟨q0, q1, qP, qK, qD, qZ, qN⟩ := q; exact ⟨q0, q1, qP, va_K.moved (u := U) (U := U.calling g mk a) (Vm.Alike.refl U.vm) qK, qD, sF.moved (u := U) (U := U.calling g mk a) (Vm.Alike.refl U.vm) qZ, nF.same rfl qN⟩, va_recv hK hP (ci := 6) (q0 := a) rfl (wld_o ct ad G s7.2 hc hk (by decide)), fun U hU hW => ⟨rfl, by rw [hU], by rw [hU]; exact hP, va_K.moved hW.alike hK, hD.weaken (fun _ _ _ _ => trivial), by rw [hU]; exact ((hZ.kept hS.2.1).narrow hf9).moved hW.alike, hN.warm hW⟩⟩ rfl rfl hl.1 rfl (lv_room (Nat.le_of_ble_eq_true rfl)) dX6_predictFour_296 ⟨(Nat.zero_le _), (Nat.zero_le _)⟩) hS (fun q _ h => hf9 q h) hf9 (fun r u t H locs ht hvm hw hB hz1 hk1 hS => ?_)
                      obtain ⟨hP, hK9, hD9⟩ := hB
                      rw [ht] at hP
                      try dsimp only at hw
                      subst hw
                      have hD := hD9.weaken (fun _ q _ h => hf9 q.1 h)
                      obtain rfl := Option.some.inj hF
                      exact J60 _ _ _ hP hD hS (lv_sub hl [0, 1, 2, 3, 4, 5, 6, 7, 8, 9, 10, 11] rfl)
                    · rw [if_pos c61] at hF
                      refine lv_aload_n hx hb dX6_predictFour_272 rfl (lv_at hl 6 rfl) ?_
                      refine lv_iload hx hb dX6_predictFour_273 (lv_at hl 0 rfl) ?_
                      refine lv_iload hx hb dX6_predictFour_275 (lv_at hl 0 rfl) ?_
                      refine lv_iconst (v := (1 : Int32)) hx hb dX6_predictFour_277 (by decide) ?_
                      refine lv_iadd hx hb dX6_predictFour_278 ?_
                      obtain ⟨x65, ex65, hF⟩ := ltt_some hF
                      refine lv_topi (fun zx65 ezx65 => ?_)
                      obtain rfl : x65 = zx65 := ex65.trans ezx65.symm
                      obtain ⟨y66, hy66, hF⟩ := bnd_some hF
                      have hf9 := wA_in hD hA9 hS
                      refine va_calli (va_runV (As := [.int x58, .int x65]) (rest := []) ⟨hx, hb, hml, hown, hts⟩ (kX6_two l D ct ad Z G s7.2 H.size a x58 x65 y66 hc hk hy66) (cwV 2 hts gX6_predictFour_X6_two rfl rfl rfl (by decide +kernel) ⟨Nat.le_of_ble_eq_true rfl, Nat.le_of_ble_eq_true rfl⟩) ⟨fun a U g mk q => by obtain ⟨q0, q1, qP, qK, qD, qZ, qN⟩ := q; exact ⟨q0, q1, qP, va_K.moved (u := U) (U := U.calling g mk a) (Vm.Alike.refl U.vm) qK, qD, sF.moved (u := U) (U := U.calling g mk a) (Vm.Alike.refl U.vm) qZ, nF.same rfl qN⟩, va_recv hK hP (ci := 6) (q0 := a) rfl (wld_o ct ad G s7.2 hc hk (by decide)), fun U hU hW => ⟨rfl, by rw [hU], by rw [hU]; exact hP, va_K.moved hW.alike hK, hD.weaken (fun _ _ _ _ => trivial), by rw [hU]; exact ((hZ.kept hS.2.1).narrow hf9).moved hW.alike, hN.warm hW⟩⟩ rfl rfl hl.1 rfl (lv_room (Nat.le_of_ble_eq_true rfl)) dX6_predictFour_279 ⟨(Nat.zero_le _), (Nat.zero_le _)⟩) hS (fun q _ h => hf9 q h) hf9 (fun r u t H locs ht hvm hw hB hz1 hk1 hS => ?_)
                      obtain ⟨hP, hK9, hD9⟩ := hB
                      rw [ht] at hP
                      try dsimp only at hw
                      subst hw
                      have hD := hD9.weaken (fun _ q _ h => hf9 q.1 h)
                      refine lv_goto (tgt := 299) hx hb dX6_predictFour_282 (by decide) ?_
                      obtain rfl := Option.some.inj hF
                      exact J60 _ _ _ hP hD hS (lv_sub hl [0, 1, 2, 3, 4, 5, 6, 7, 8, 9, 10, 11] rfl)
                · rw [if_pos c33] at hF
                  refine lv_aload_n hx hb dX6_predictFour_233 rfl (lv_at hl 5 rfl) ?_
                  refine lv_iload hx hb dX6_predictFour_234 (lv_at hl 0 rfl) ?_
                  refine lv_iload hx hb dX6_predictFour_236 (lv_at hl 1 rfl) ?_
                  refine lv_iconst (v := (-1 : Int32)) hx hb dX6_predictFour_238 (by decide) ?_
                  obtain ⟨y67, hy67, hF⟩ := bnd_some hF
                  have hf9 := wA_in hD hA9 hS
                  refine va_calli (va_runV (As := [.int x12, .int x11, .int (-1 : Int32)]) (rest := []) ⟨hx, hb, hml, hown, hts⟩ (kX6_slant l D ct ad Z G s7.2 H.size a x12 x11 ((-1 : Int32)) y67 hc hk hy67) (cwV 3 hts gX6_predictFour_X6_slant rfl rfl rfl (by decide +kernel) ⟨Nat.le_of_ble_eq_true rfl, Nat.le_of_ble_eq_true rfl⟩) ⟨fun a U g mk q => by obtain ⟨q0, q1, qP, qK, qD, qZ, qN⟩ := q; exact ⟨q0, q1, qP, va_K.moved (u := U) (U := U.calling g mk a) (Vm.Alike.refl U.vm) qK, qD, sF.moved (u := U) (U := U.calling g mk a) (Vm.Alike.refl U.vm) qZ, nF.same rfl qN⟩, va_recv hK hP (ci := 6) (q0 := a) rfl (wld_o ct ad G s7.2 hc hk (by decide)), fun U hU hW => ⟨rfl, by rw [hU], by rw [hU]; exact hP, va_K.moved hW.alike hK, hD.weaken (fun _ _ _ _ => trivial), by rw [hU]; exact ((hZ.kept hS.2.1).narrow hf9).moved hW.alike, hN.warm hW⟩⟩ rfl rfl hl.1 rfl (lv_room (Nat.le_of_ble_eq_true rfl)) dX6_predictFour_239 ⟨(Nat.zero_le _), (Nat.zero_le _)⟩) hS (fun q _ h => hf9 q h) hf9 (fun r u t H locs ht hvm hw hB hz1 hk1 hS => ?_)
                  obtain ⟨hP, hK9, hD9⟩ := hB
                  rw [ht] at hP
                  try dsimp only at hw
                  subst hw
                  have hD := hD9.weaken (fun _ q _ h => hf9 q.1 h)
                  refine lv_istore (lv' := [(11, .int y67.2), (10, .int x12), (9, .int x11), (8, .int s7.1), (7, .int y2.2), (6, .int y1.2), (0, .ref (ad a)), (1, va_re ad p0), (2, .int p1), (3, .int p2), (4, .int p3), (5, .int p4)]) hx hb dX6_predictFour_242 hl (by decide) rfl (fun ls hl => ?_)
                  refine lv_goto (tgt := 391) hx hb dX6_predictFour_244 (by decide) ?_
                  obtain rfl := Option.some.inj hF
                  exact J32 _ _ _ hP hD hS (lv_sub hl [0, 1, 2, 3, 4, 5, 6, 7, 8, 9, 10, 11] rfl)
              · rw [if_pos c31] at hF
                refine lv_aload_n hx hb dX6_predictFour_212 rfl (lv_at hl 5 rfl) ?_
                refine lv_iload hx hb dX6_predictFour_213 (lv_at hl 1 rfl) ?_
                refine lv_iload hx hb dX6_predictFour_215 (lv_at hl 0 rfl) ?_
                refine lv_iconst (v := (1 : Int32)) hx hb dX6_predictFour_217 (by decide) ?_
                obtain ⟨y68, hy68, hF⟩ := bnd_some hF
                have hf9 := wA_in hD hA9 hS
                refine va_calli (va_runV (As := [.int x11, .int x12, .int (1 : Int32)]) (rest := []) ⟨hx, hb, hml, hown, hts⟩ (kX6_slant l D ct ad Z G s7.2 H.size a x11 x12 ((1 : Int32)) y68 hc hk hy68) (cwV 3 hts gX6_predictFour_X6_slant rfl rfl rfl (by decide +kernel) ⟨Nat.le_of_ble_eq_true rfl, Nat.le_of_ble_eq_true rfl⟩) ⟨fun a U g mk q => by obtain ⟨q0, q1, qP, qK, qD, qZ, qN⟩ := q; exact ⟨q0, q1, qP, va_K.moved (u := U) (U := U.calling g mk a) (Vm.Alike.refl U.vm) qK, qD, sF.moved (u := U) (U := U.calling g mk a) (Vm.Alike.refl U.vm) qZ, nF.same rfl qN⟩, va_recv hK hP (ci := 6) (q0 := a) rfl (wld_o ct ad G s7.2 hc hk (by decide)), fun U hU hW => ⟨rfl, by rw [hU], by rw [hU]; exact hP, va_K.moved hW.alike hK, hD.weaken (fun _ _ _ _ => trivial), by rw [hU]; exact ((hZ.kept hS.2.1).narrow hf9).moved hW.alike, hN.warm hW⟩⟩ rfl rfl hl.1 rfl (lv_room (Nat.le_of_ble_eq_true rfl)) dX6_predictFour_218 ⟨(Nat.zero_le _), (Nat.zero_le _)⟩) hS (fun q _ h => hf9 q h) hf9 (fun r u t H locs ht hvm hw hB hz1 hk1 hS => ?_)
                obtain ⟨hP, hK9, hD9⟩ := hB
                rw [ht] at hP
                try dsimp only at hw
                subst hw
                have hD := hD9.weaken (fun _ q _ h => hf9 q.1 h)
                refine lv_istore (lv' := [(11, .int y68.2), (10, .int x12), (9, .int x11), (8, .int s7.1), (7, .int y2.2), (6, .int y1.2), (0, .ref (ad a)), (1, va_re ad p0), (2, .int p1), (3, .int p2), (4, .int p3), (5, .int p4)]) hx hb dX6_predictFour_221 hl (by decide) rfl (fun ls hl => ?_)
                refine lv_goto (tgt := 391) hx hb dX6_predictFour_223 (by decide) ?_
                obtain rfl := Option.some.inj hF
                exact J30 _ _ _ hP hD hS (lv_sub hl [0, 1, 2, 3, 4, 5, 6, 7, 8, 9, 10, 11] rfl)
            · rw [if_pos c29] at hF
              refine lv_aload_n hx hb dX6_predictFour_176 rfl (lv_at hl 5 rfl) ?_
              refine lv_iconst (v := (3 : Int32)) hx hb dX6_predictFour_177 (by decide) ?_
              refine lv_iload hx hb dX6_predictFour_178 (lv_at hl 1 rfl) ?_
              refine lv_iadd hx hb dX6_predictFour_180 ?_
              obtain ⟨x69, ex69, hF⟩ := ltt_some hF
              refine lv_topi (fun zx69 ezx69 => ?_)
              obtain rfl : x69 = zx69 := ex69.trans ezx69.symm
              refine lv_iload hx hb dX6_predictFour_181 (lv_at hl 0 rfl) ?_
              refine lv_isub hx hb dX6_predictFour_183 ?_
              obtain ⟨x70, ex70, hF⟩ := ltt_some hF
              refine lv_topi (fun zx70 ezx70 => ?_)
              obtain rfl : x70 = zx70 := ex70.trans ezx70.symm
              refine lv_iconst (v := (4 : Int32)) hx hb dX6_predictFour_184 (by decide) ?_
              refine lv_iload hx hb dX6_predictFour_185 (lv_at hl 1 rfl) ?_
              refine lv_iadd hx hb dX6_predictFour_187 ?_
              obtain ⟨x71, ex71, hF⟩ := ltt_some hF
              refine lv_topi (fun zx71 ezx71 => ?_)
              obtain rfl : x71 = zx71 := ex71.trans ezx71.symm
              refine lv_iload hx hb dX6_predictFour_188 (lv_at hl 0 rfl) ?_
              refine lv_isub hx hb dX6_predictFour_190 ?_
              obtain ⟨x72, ex72, hF⟩ := ltt_some hF
              refine lv_topi (fun zx72 ezx72 => ?_)
              obtain rfl : x72 = zx72 := ex72.trans ezx72.symm
              refine lv_iconst (v := (5 : Int32)) hx hb dX6_predictFour_191 (by decide) ?_
              refine lv_iload hx hb dX6_predictFour_192 (lv_at hl 1 rfl) ?_
              refine lv_iadd hx hb dX6_predictFour_194 ?_
              obtain ⟨x73, ex73, hF⟩ := ltt_some hF
              refine lv_topi (fun zx73 ezx73 => ?_)
              obtain rfl : x73 = zx73 := ex73.trans ezx73.symm
              refine lv_iload hx hb dX6_predictFour_195 (lv_at hl 0 rfl) ?_
              refine lv_isub hx hb dX6_predictFour_197 ?_
              obtain ⟨x74, ex74, hF⟩ := ltt_some hF
              refine lv_topi (fun zx74 ezx74 => ?_)
              obtain rfl : x74 = zx74 := ex74.trans ezx74.symm
              obtain ⟨y75, hy75, hF⟩ := bnd_some hF
              have hf9 := wA_in hD hA9 hS
              refine va_calli (va_runV (As := [.int x70, .int x72, .int x74]) (rest := []) ⟨hx, hb, hml, hown, hts⟩ (kX6_three l D ct ad Z G s7.2 H.size a x70 x72 x74 y75 hc hk hy75) (cwV 3 hts gX6_predictFour_X6_three rfl rfl rfl (by decide +kernel) ⟨Nat.le_of_ble_eq_true rfl, Nat.le_of_ble_eq_true rfl⟩) ⟨fun a U g mk q => by obtain ⟨q0, q1, qP, qK, qD, qZ, qN⟩ := q; exact ⟨q0, q1, qP, va_K.moved (u := U) (U := U.calling g mk a) (Vm.Alike.refl U.vm) qK, qD, sF.moved (u := U) (U := U.calling g mk a) (Vm.Alike.refl U.vm) qZ, nF.same rfl qN⟩, va_recv hK hP (ci := 6) (q0 := a) rfl (wld_o ct ad G s7.2 hc hk (by decide)), fun U hU hW => ⟨rfl, by rw [hU], by rw [hU]; exact hP, va_K.moved hW.alike hK, hD.weaken (fun _ _ _ _ => trivial), by rw [hU]; exact ((hZ.kept hS.2.1).narrow hf9).moved hW.alike, hN.warm hW⟩⟩ rfl rfl hl.1 rfl (lv_room (Nat.le_of_ble_eq_true rfl)) dX6_predictFour_198 ⟨(Nat.zero_le _), (Nat.zero_le _)⟩) hS (fun q _ h => hf9 q h) hf9 (fun r u t H locs ht hvm hw hB hz1 hk1 hS => ?_)
              obtain ⟨hP, hK9, hD9⟩ := hB
              rw [ht] at hP
              try dsimp only at hw
              subst hw
              have hD := hD9.weaken (fun _ q _ h => hf9 q.1 h)
              refine lv_istore (lv' := [(11, .int y75.2), (10, .int x12), (9, .int x11), (8, .int s7.1), (7, .int y2.2), (6, .int y1.2), (0, .ref (ad a)), (1, va_re ad p0), (2, .int p1), (3, .int p2), (4, .int p3), (5, .int p4)]) hx hb dX6_predictFour_201 hl (by decide) rfl (fun ls hl => ?_)
              refine lv_goto (tgt := 391) hx hb dX6_predictFour_203 (by decide) ?_
              obtain rfl := Option.some.inj hF
              exact J28 _ _ _ hP hD hS (lv_sub hl [0, 1, 2, 3, 4, 5, 6, 7, 8, 9, 10, 11] rfl)
          · rw [if_pos c27] at hF
            refine lv_iload hx hb dX6_predictFour_118 (lv_at hl 2 rfl) ?_
            refine lv_bipush (v := (15 : Int32)) hx hb dX6_predictFour_120 (by decide) ?_
            obtain ⟨y76, hy76, hF⟩ := bnd_some hF
            have J76 : ∀ (H : Heap) (locs : List Loc) (ls : Array Slot), va_P D classes (wld ct ad G y76.2) H → va_D A (wld ct ad G y76.2) → va_S A s.heap H locs → lv_has ls 14 [(10, .int x12), (9, .int x11), (8, .int s7.1), (7, .int y2.2), (6, .int y1.2), (0, .ref (ad a)), (1, va_re ad p0), (2, .int p1), (3, .int p2), (4, .int p3), (5, .int p4)] → W p l e (headSpec wsX6_predictFour ({ frames := 2, cells := 0, slots := 0, locals := 49 })).room s m ([.ref (ad a), va_re ad p0, .int p1, .int p2, .int p3, .int p4] : List Value).toArray below meth c H locs 0 0 (MQ below (va_Qv (fun (_ : Unit) => True) (fun _ t => kE D ct ad G A y t) A) ([.ref (ad a), va_re ad p0, .int p1, .int p2, .int p3, .int p4] : List Value).toArray s 0 0 A) (F0 m 165 ls [.int y76.1]) := by
              intro H locs ls hP hD hS hl
              refine lv_istore (lv' := [(11, .int y76.1), (10, .int x12), (9, .int x11), (8, .int s7.1), (7, .int y2.2), (6, .int y1.2), (0, .ref (ad a)), (1, va_re ad p0), (2, .int p1), (3, .int p2), (4, .int p3), (5, .int p4)]) hx hb dX6_predictFour_165 hl (by decide) rfl (fun ls hl => ?_)
              refine lv_goto (tgt := 391) hx hb dX6_predictFour_167 (by decide) ?_
              obtain rfl := Option.some.inj hF
              exact J26 _ _ _ hP hD hS (lv_sub hl [0, 1, 2, 3, 4, 5, 6, 7, 8, 9, 10, 11] rfl)
            clear hF
            have hF := hy76
            clear hy76
            refine lv_icmp_ne (tgt := 138) hx hb dX6_predictFour_122 (by decide) (fun c77 => ?_) (fun c77 => ?_)
            · rw [if_neg c77] at hF
              refine lv_aload_n hx hb dX6_predictFour_138 rfl (lv_at hl 5 rfl) ?_
              refine lv_iconst (v := (5 : Int32)) hx hb dX6_predictFour_139 (by decide) ?_
              refine lv_iload hx hb dX6_predictFour_140 (lv_at hl 1 rfl) ?_
              refine lv_iadd hx hb dX6_predictFour_142 ?_
              obtain ⟨x78, ex78, hF⟩ := ltt_some hF
              refine lv_topi (fun zx78 ezx78 => ?_)
              obtain rfl : x78 = zx78 := ex78.trans ezx78.symm
              refine lv_iload hx hb dX6_predictFour_143 (lv_at hl 0 rfl) ?_
              refine lv_iadd hx hb dX6_predictFour_145 ?_
              obtain ⟨x79, ex79, hF⟩ := ltt_some hF
              refine lv_topi (fun zx79 ezx79 => ?_)
              obtain rfl : x79 = zx79 := ex79.trans ezx79.symm
              refine lv_bipush (v := (6 : Int32)) hx hb dX6_predictFour_146 (by decide) ?_
              refine lv_iload hx hb dX6_predictFour_148 (lv_at hl 1 rfl) ?_
              refine lv_iadd hx hb dX6_predictFour_150 ?_
              obtain ⟨x80, ex80, hF⟩ := ltt_some hF
              refine lv_topi (fun zx80 ezx80 => ?_)
              obtain rfl : x80 = zx80 := ex80.trans ezx80.symm
              refine lv_iload hx hb dX6_predictFour_151 (lv_at hl 0 rfl) ?_
              refine lv_iadd hx hb dX6_predictFour_153 ?_
              obtain ⟨x81, ex81, hF⟩ := ltt_some hF
              refine lv_topi (fun zx81 ezx81 => ?_)
              obtain rfl : x81 = zx81 := ex81.trans ezx81.symm
              refine lv_bipush (v := (7 : Int32)) hx hb dX6_predictFour_154 (by decide) ?_
              refine lv_iload hx hb dX6_predictFour_156 (lv_at hl 1 rfl) ?_
              refine lv_iadd hx hb dX6_predictFour_158 ?_
              obtain ⟨x82, ex82, hF⟩ := ltt_some hF
              refine lv_topi (fun zx82 ezx82 => ?_)
              obtain rfl : x82 = zx82 := ex82.trans ezx82.symm
              refine lv_iload hx hb dX6_predictFour_159 (lv_at hl 0 rfl) ?_
              refine lv_iadd hx hb dX6_predictFour_161 ?_
              obtain ⟨x83, ex83, hF⟩ := ltt_some hF
              refine lv_topi (fun zx83 ezx83 => ?_)
              obtain rfl : x83 = zx83 := ex83.trans ezx83.symm
              obtain ⟨y84, hy84, hF⟩ := bnd_some hF
              have hf9 := wA_in hD hA9 hS
              refine va_calli (va_runV (As := [.int x79, .int x81, .int x83]) (rest := []) ⟨hx, hb, hml, hown, hts⟩ (kX6_three l D ct ad Z G s7.2 H.size a x79 x81 x83 y84 hc hk hy84) (cwV 3 hts gX6_predictFour_X6_three rfl rfl rfl (by decide +kernel) ⟨Nat.le_of_ble_eq_true rfl, Nat.le_of_ble_eq_true rfl⟩) ⟨fun a U g mk q => by obtain ⟨q0, q1, qP, qK, qD, qZ, qN⟩ := q; exact ⟨q0, q1, qP, va_K.moved (u := U) (U := U.calling g mk a) (Vm.Alike.refl U.vm) qK, qD, sF.moved (u := U) (U := U.calling g mk a) (Vm.Alike.refl U.vm) qZ, nF.same rfl qN⟩, va_recv hK hP (ci := 6) (q0 := a) rfl (wld_o ct ad G s7.2 hc hk (by decide)), fun U hU hW => ⟨rfl, by rw [hU], by rw [hU]; exact hP, va_K.moved hW.alike hK, hD.weaken (fun _ _ _ _ => trivial), by rw [hU]; exact ((hZ.kept hS.2.1).narrow hf9).moved hW.alike, hN.warm hW⟩⟩ rfl rfl hl.1 rfl (lv_room (Nat.le_of_ble_eq_true rfl)) dX6_predictFour_162 ⟨(Nat.zero_le _), (Nat.zero_le _)⟩) hS (fun q _ h => hf9 q h) hf9 (fun r u t H locs ht hvm hw hB hz1 hk1 hS => ?_)
              obtain ⟨hP, hK9, hD9⟩ := hB
              rw [ht] at hP
              try dsimp only at hw
              subst hw
              have hD := hD9.weaken (fun _ q _ h => hf9 q.1 h)
              obtain rfl := Option.some.inj hF
              exact J76 _ _ _ hP hD hS (lv_sub hl [0, 1, 2, 3, 4, 5, 6, 7, 8, 9, 10] rfl)
            · rw [if_pos c77] at hF
              refine lv_aload_n hx hb dX6_predictFour_125 rfl (lv_at hl 5 rfl) ?_
              refine lv_bipush (v := (11 : Int32)) hx hb dX6_predictFour_126 (by decide) ?_
              refine lv_bipush (v := (12 : Int32)) hx hb dX6_predictFour_128 (by decide) ?_
              refine lv_bipush (v := (12 : Int32)) hx hb dX6_predictFour_130 (by decide) ?_
              obtain ⟨y85, hy85, hF⟩ := bnd_some hF
              have hf9 := wA_in hD hA9 hS
              refine va_calli (va_runV (As := [.int (11 : Int32), .int (12 : Int32), .int (12 : Int32)]) (rest := []) ⟨hx, hb, hml, hown, hts⟩ (kX6_three l D ct ad Z G s7.2 H.size a ((11 : Int32)) ((12 : Int32)) ((12 : Int32)) y85 hc hk hy85) (cwV 3 hts gX6_predictFour_X6_three rfl rfl rfl (by decide +kernel) ⟨Nat.le_of_ble_eq_true rfl, Nat.le_of_ble_eq_true rfl⟩) ⟨fun a U g mk q => by obtain ⟨q0, q1, qP, qK, qD, qZ, qN⟩ := q; exact ⟨q0, q1, qP, va_K.moved (u := U) (U := U.calling g mk a) (Vm.Alike.refl U.vm) qK, qD, sF.moved (u := U) (U := U.calling g mk a) (Vm.Alike.refl U.vm) qZ, nF.same rfl qN⟩, va_recv hK hP (ci := 6) (q0 := a) rfl (wld_o ct ad G s7.2 hc hk (by decide)), fun U hU hW => ⟨rfl, by rw [hU], by rw [hU]; exact hP, va_K.moved hW.alike hK, hD.weaken (fun _ _ _ _ => trivial), by rw [hU]; exact ((hZ.kept hS.2.1).narrow hf9).moved hW.alike, hN.warm hW⟩⟩ rfl rfl hl.1 rfl (lv_room (Nat.le_of_ble_eq_true rfl)) dX6_predictFour_132 ⟨(Nat.zero_le _), (Nat.zero_le _)⟩) hS (fun q _ h => hf9 q h) hf9 (fun r u t H locs ht hvm hw hB hz1 hk1 hS => ?_)
              obtain ⟨hP, hK9, hD9⟩ := hB
              rw [ht] at hP
              try dsimp only at hw
              subst hw
              have hD := hD9.weaken (fun _ q _ h => hf9 q.1 h)
              refine lv_goto (tgt := 165) hx hb dX6_predictFour_135 (by decide) ?_
              obtain rfl := Option.some.inj hF
              exact J76 _ _ _ hP hD hS (lv_sub hl [0, 1, 2, 3, 4, 5, 6, 7, 8, 9, 10] rfl)
        · rw [if_pos c25] at hF
          refine lv_aload_n hx hb dX6_predictFour_101 rfl (lv_at hl 5 rfl) ?_
          refine lv_iload hx hb dX6_predictFour_102 (lv_at hl 10 rfl) ?_
          obtain ⟨y86, hy86, hF⟩ := bnd_some hF
          have hf9 := wA_in hD hA9 hS
          refine va_calli (va_runV (As := [.int p4]) (rest := []) ⟨hx, hb, hml, hown, hts⟩ (kX6_meanAround l D ct ad Z G s7.2 H.size a p4 y86 hc hk hy86) (cwV 1 hts gX6_predictFour_X6_meanAround rfl rfl rfl (by decide +kernel) ⟨Nat.le_of_ble_eq_true rfl, Nat.le_of_ble_eq_true rfl⟩) ⟨fun a U g mk q => by obtain ⟨q0, q1, qP, qK, qD, qZ, qN⟩ := q; exact ⟨q0, q1, qP, va_K.moved (u := U) (U := U.calling g mk a) (Vm.Alike.refl U.vm) qK, qD, sF.moved (u := U) (U := U.calling g mk a) (Vm.Alike.refl U.vm) qZ, nF.same rfl qN⟩, va_recv hK hP (ci := 6) (q0 := a) rfl (wld_o ct ad G s7.2 hc hk (by decide)), fun U hU hW => ⟨rfl, by rw [hU], by rw [hU]; exact hP, va_K.moved hW.alike hK, hD.weaken (fun _ _ _ _ => trivial), by rw [hU]; exact ((hZ.kept hS.2.1).narrow hf9).moved hW.alike, hN.warm hW⟩⟩ rfl rfl hl.1 rfl (lv_room (Nat.le_of_ble_eq_true rfl)) dX6_predictFour_104 ⟨(Nat.zero_le _), (Nat.zero_le _)⟩) hS (fun q _ h => hf9 q h) hf9 (fun r u t H locs ht hvm hw hB hz1 hk1 hS => ?_)
          obtain ⟨hP, hK9, hD9⟩ := hB
          rw [ht] at hP
          try dsimp only at hw
          subst hw
          have hD := hD9.weaken (fun _ q _ h => hf9 q.1 h)
          refine lv_istore (lv' := [(11, .int y86.2), (10, .int x12), (9, .int x11), (8, .int s7.1), (7, .int y2.2), (6, .int y1.2), (0, .ref (ad a)), (1, va_re ad p0), (2, .int p1), (3, .int p2), (4, .int p3), (5, .int p4)]) hx hb dX6_predictFour_107 hl (by decide) rfl (fun ls hl => ?_)
          refine lv_goto (tgt := 391) hx hb dX6_predictFour_109 (by decide) ?_
          obtain rfl := Option.some.inj hF
          exact J24 _ _ _ hP hD hS (lv_sub hl [0, 1, 2, 3, 4, 5, 6, 7, 8, 9, 10, 11] rfl)
      · rw [if_pos c23] at hF
        refine lv_aload_n hx hb dX6_predictFour_81 rfl (lv_at hl 5 rfl) ?_
        refine va_get (D := D) (ci := 6) (v := va_re ad (s7.2.2 a 8)) (C := RX6) (T := TX6) (N := 14) hx hb hts (by decide +kernel) hown hK hP a (wld_o ct ad G s7.2 hc hk (by decide)) rfl 8 (by decide) (hts (.fieldLink RX6 36 "VideoSuite$Samples" "around" "[I") (by decide +kernel)) (fun _ h9 => h9) rfl dX6_predictFour_82 ?_
        refine lv_iconst (v := (3 : Int32)) hx hb dX6_predictFour_85 (by decide) ?_
        refine lv_iload hx hb dX6_predictFour_86 (lv_at hl 0 rfl) ?_
        refine lv_isub hx hb dX6_predictFour_88 ?_
        obtain ⟨x87, ex87, hF⟩ := ltt_some hF
        refine lv_topi (fun zx87 ezx87 => ?_)
        obtain rfl : x87 = zx87 := ex87.trans ezx87.symm
        obtain ⟨b88, ho88, hc88, hk88, hF⟩ := dr_some hF
        refine W_st (st' := [.int x87, .ref (ad b88)]) (by rw [va_some ho88]) ?_
        obtain ⟨hvc, hF⟩ := chk_some hF
        refine va_iald hx hb hK hP b88 1 (wld_i ct ad G s7.2 hc88 hk88) rfl hvc dX6_predictFour_89 ?_
        obtain ⟨x89, ex89, hF⟩ := ltt_some hF
        refine lv_topi (fun zx89 ezx89 => ?_)
        obtain rfl : x89 = zx89 := ex89.trans ezx89.symm
        refine lv_istore (lv' := [(11, .int x89), (10, .int x12), (9, .int x11), (8, .int s7.1), (7, .int y2.2), (6, .int y1.2), (0, .ref (ad a)), (1, va_re ad p0), (2, .int p1), (3, .int p2), (4, .int p3), (5, .int p4)]) hx hb dX6_predictFour_90 hl (by decide) rfl (fun ls hl => ?_)
        refine lv_goto (tgt := 391) hx hb dX6_predictFour_92 (by decide) ?_
        obtain rfl := Option.some.inj hF
        exact J22 _ _ _ hP hD hS (lv_sub hl [0, 1, 2, 3, 4, 5, 6, 7, 8, 9, 10, 11] rfl)
    · rw [if_pos c21] at hF
      refine lv_aload_n hx hb dX6_predictFour_61 rfl (lv_at hl 5 rfl) ?_
      refine va_get (D := D) (ci := 6) (v := va_re ad (s7.2.2 a 8)) (C := RX6) (T := TX6) (N := 14) hx hb hts (by decide +kernel) hown hK hP a (wld_o ct ad G s7.2 hc hk (by decide)) rfl 8 (by decide) (hts (.fieldLink RX6 36 "VideoSuite$Samples" "around" "[I") (by decide +kernel)) (fun _ h9 => h9) rfl dX6_predictFour_62 ?_
      refine lv_iconst (v := (5 : Int32)) hx hb dX6_predictFour_65 (by decide) ?_
      refine lv_iload hx hb dX6_predictFour_66 (lv_at hl 1 rfl) ?_
      refine lv_iadd hx hb dX6_predictFour_68 ?_
      obtain ⟨x90, ex90, hF⟩ := ltt_some hF
      refine lv_topi (fun zx90 ezx90 => ?_)
      obtain rfl : x90 = zx90 := ex90.trans ezx90.symm
      obtain ⟨b91, ho91, hc91, hk91, hF⟩ := dr_some hF
      refine W_st (st' := [.int x90, .ref (ad b91)]) (by rw [va_some ho91]) ?_
      obtain ⟨hvc, hF⟩ := chk_some hF
      refine va_iald hx hb hK hP b91 1 (wld_i ct ad G s7.2 hc91 hk91) rfl hvc dX6_predictFour_69 ?_
      obtain ⟨x92, ex92, hF⟩ := ltt_some hF
      refine lv_topi (fun zx92 ezx92 => ?_)
      obtain rfl : x92 = zx92 := ex92.trans ezx92.symm
      refine lv_istore (lv' := [(11, .int x92), (10, .int x12), (9, .int x11), (8, .int s7.1), (7, .int y2.2), (6, .int y1.2), (0, .ref (ad a)), (1, va_re ad p0), (2, .int p1), (3, .int p2), (4, .int p3), (5, .int p4)]) hx hb dX6_predictFour_70 hl (by decide) rfl (fun ls hl => ?_)
      refine lv_goto (tgt := 391) hx hb dX6_predictFour_72 (by decide) ?_
      obtain rfl := Option.some.inj hF
      exact J13 _ _ _ hP hD hS (lv_sub hl [0, 1, 2, 3, 4, 5, 6, 7, 8, 9, 10, 11] rfl)
