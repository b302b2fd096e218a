theorem ggX9_guessMode_X9_pieceX : GoodIn wsX9_guessMode wsX9_pieceX := goodIn_r _ [4] (by decide +kernel) (by decide +kernel)
set_option maxRecDepth 20000 in
theorem gX9_guessMode_X9_pieceX : GoodIn wsX9_guessMode (va_wsS RX9 122 yX9_pieceX wsX9_pieceX) := goodIn_app (goodIn_of _ (by decide +kernel)) ggX9_guessMode_X9_pieceX
set_option maxRecDepth 20000 in
theorem ggX9_guessMode_X9_pieceY : GoodIn wsX9_guessMode wsX9_pieceY := goodIn_r _ [7] (by decide +kernel) (by decide +kernel)
set_option maxRecDepth 20000 in
theorem gX9_guessMode_X9_pieceY : GoodIn wsX9_guessMode (va_wsS RX9 126 yX9_pieceY wsX9_pieceY) := goodIn_app (goodIn_of _ (by decide +kernel)) ggX9_guessMode_X9_pieceY
set_option maxRecDepth 20000 in
theorem ggX9_guessMode_X9_pieceAt : GoodIn wsX9_guessMode wsX9_pieceAt := goodIn_r _ [11, 12, 13, 14, 15, 22, 23, 24, 25, 26, 27, 28, 29, 30, 31, 32, 33, 34, 35, 36, 37, 38, 39, 40, 41, 42, 43, 44, 45, 46, 47, 48, 49, 50, 51, 52, 53, 54, 55, 56, 57, 58, 59] (by decide +kernel) (by decide +kernel)
set_option maxRecDepth 20000 in
theorem gX9_guessMode_X9_pieceAt : GoodIn wsX9_guessMode (wsV RX9 111 RX9 yX9_pieceAt wsX9_pieceAt) := goodIn_app (goodIn_of _ (by decide +kernel)) ggX9_guessMode_X9_pieceAt
set_option maxRecDepth 20000 in
theorem ggX9_guessMode_X9_modeAt : GoodIn wsX9_guessMode wsX9_modeAt := goodIn_r _ [19, 14, 20, 21, 22, 23, 24, 25, 26, 27, 28, 29, 30, 31, 32, 33, 34, 35, 36, 37, 38, 39, 40, 41] (by decide +kernel) (by decide +kernel)
set_option maxRecDepth 20000 in
theorem gX9_guessMode_X9_modeAt : GoodIn wsX9_guessMode (wsV RX9 129 RX9 yX9_modeAt wsX9_modeAt) := goodIn_app (goodIn_of _ (by decide +kernel)) ggX9_guessMode_X9_modeAt
theorem dX9_guessMode_0 : decode cX9_guessMode 0 = .ok (.aload_n 0, 1) := by decide +kernel
theorem dX9_guessMode_1 : decode cX9_guessMode 1 = .ok (.aload_n 0, 1) := by decide +kernel
theorem dX9_guessMode_2 : decode cX9_guessMode 2 = .ok (.iload_n 1, 1) := by decide +kernel
theorem dX9_guessMode_3 : decode cX9_guessMode 3 = .ok (.iload_n 2, 1) := by decide +kernel
theorem dX9_guessMode_4 : decode cX9_guessMode 4 = .ok (.invokestatic 122, 3) := by decide +kernel
theorem dX9_guessMode_7 : decode cX9_guessMode 7 = .ok (.iconst 1, 1) := by decide +kernel
theorem dX9_guessMode_8 : decode cX9_guessMode 8 = .ok (.isub, 1) := by decide +kernel
theorem dX9_guessMode_9 : decode cX9_guessMode 9 = .ok (.iload_n 2, 1) := by decide +kernel
theorem dX9_guessMode_10 : decode cX9_guessMode 10 = .ok (.invokestatic 126, 3) := by decide +kernel
theorem dX9_guessMode_13 : decode cX9_guessMode 13 = .ok (.bipush 16, 2) := by decide +kernel
theorem dX9_guessMode_15 : decode cX9_guessMode 15 = .ok (.invokevirtual 111, 3) := by decide +kernel
theorem dX9_guessMode_18 : decode cX9_guessMode 18 = .ok (.invokevirtual 129, 3) := by decide +kernel
theorem dX9_guessMode_21 : decode cX9_guessMode 21 = .ok (.istore_n 3, 1) := by decide +kernel
theorem dX9_guessMode_22 : decode cX9_guessMode 22 = .ok (.aload_n 0, 1) := by decide +kernel
theorem dX9_guessMode_23 : decode cX9_guessMode 23 = .ok (.aload_n 0, 1) := by decide +kernel
theorem dX9_guessMode_24 : decode cX9_guessMode 24 = .ok (.iload_n 1, 1) := by decide +kernel
theorem dX9_guessMode_25 : decode cX9_guessMode 25 = .ok (.iload_n 2, 1) := by decide +kernel
theorem dX9_guessMode_26 : decode cX9_guessMode 26 = .ok (.invokestatic 122, 3) := by decide +kernel
theorem dX9_guessMode_29 : decode cX9_guessMode 29 = .ok (.iload_n 2, 1) := by decide +kernel
theorem dX9_guessMode_30 : decode cX9_guessMode 30 = .ok (.invokestatic 126, 3) := by decide +kernel
theorem dX9_guessMode_33 : decode cX9_guessMode 33 = .ok (.iconst 1, 1) := by decide +kernel
theorem dX9_guessMode_34 : decode cX9_guessMode 34 = .ok (.isub, 1) := by decide +kernel
theorem dX9_guessMode_35 : decode cX9_guessMode 35 = .ok (.bipush 16, 2) := by decide +kernel
theorem dX9_guessMode_37 : decode cX9_guessMode 37 = .ok (.invokevirtual 111, 3) := by decide +kernel
theorem dX9_guessMode_40 : decode cX9_guessMode 40 = .ok (.invokevirtual 129, 3) := by decide +kernel
theorem dX9_guessMode_43 : decode cX9_guessMode 43 = .ok (.istore 4, 2) := by decide +kernel
theorem dX9_guessMode_45 : decode cX9_guessMode 45 = .ok (.iload_n 3, 1) := by decide +kernel
theorem dX9_guessMode_46 : decode cX9_guessMode 46 = .ok (.ifCond .lt 8, 3) := by decide +kernel
theorem dX9_guessMode_49 : decode cX9_guessMode 49 = .ok (.iload 4, 2) := by decide +kernel
theorem dX9_guessMode_51 : decode cX9_guessMode 51 = .ok (.ifCond .ge 7, 3) := by decide +kernel
theorem dX9_guessMode_54 : decode cX9_guessMode 54 = .ok (.iconst 2, 1) := by decide +kernel
theorem dX9_guessMode_55 : decode cX9_guessMode 55 = .ok (.goto 15, 3) := by decide +kernel
theorem dX9_guessMode_58 : decode cX9_guessMode 58 = .ok (.iload_n 3, 1) := by decide +kernel
theorem dX9_guessMode_59 : decode cX9_guessMode 59 = .ok (.iload 4, 2) := by decide +kernel
theorem dX9_guessMode_61 : decode cX9_guessMode 61 = .ok (.if_icmp .ge 7, 3) := by decide +kernel
theorem dX9_guessMode_64 : decode cX9_guessMode 64 = .ok (.iload_n 3, 1) := by decide +kernel
theorem dX9_guessMode_65 : decode cX9_guessMode 65 = .ok (.goto 5, 3) := by decide +kernel
theorem dX9_guessMode_68 : decode cX9_guessMode 68 = .ok (.iload 4, 2) := by decide +kernel
theorem dX9_guessMode_70 : decode cX9_guessMode 70 = .ok (.ireturn, 1) := by decide +kernel
def FX9_guessMode (G : GG) (M : DD) (a : Nat) (p0 : Int32) (p1 : Int32) : Option (DD × Int32) :=
  bnd (FX9_pieceX G M p1) fun y1 =>
  ltt ((y1.2 - ((1 : Int32)))) fun x2 =>
  bnd (FX9_pieceY G y1.1 p1) fun y3 =>
  bnd (FX9_pieceAt G y3.1 a p0 x2 y3.2 ((16 : Int32))) fun y4 =>
  bnd (FX9_modeAt G y4.1 a y4.2) fun y5 =>
  bnd (FX9_pieceX G y5.1 p1) fun y6 =>
  bnd (FX9_pieceY G y6.1 p1) fun y7 =>
  ltt ((y7.2 - ((1 : Int32)))) fun x8 =>
  bnd (FX9_pieceAt G y7.1 a p0 y6.2 x8 ((16 : Int32))) fun y9 =>
  bnd (FX9_modeAt G y9.1 a y9.2) fun y10 =>
  bnd (if y5.2 < ((0 : Int32)) then (some ((2 : Int32))) else
  (bnd (if ((0 : Int32)) ≤ y10.2 then (bnd (if y10.2 ≤ y5.2 then (some (y10.2)) else
  (some (y5.2))) fun (y15 : Int32) =>
  some (y15)) else
  (some ((2 : Int32)))) fun (y13 : Int32) =>
  some (y13))) fun (y11 : Int32) =>
  some (y10.1, y11)
set_option maxHeartbeats 4000000 in
set_option maxRecDepth 100000 in
theorem kX9_guessMode (l : Launch) (D : va_G) (ct : CT) (ad : Nat → Nat) (Z : Nat → Nat) (G : GG) (M : DD) (sz : Nat) (a : Nat) (p0 : Int32) (p1 : Int32) (y : DD × Int32) (hc : a < G.1) (hk : G.2.1 a = 9) (hF : FX9_guessMode G M a p0 p1 = some y) : Met l yX9_guessMode wsX9_guessMode ({ frames := 1, cells := 0, slots := 0, locals := 28 }) (va_Pc [.ref (ad a), .int p0, .int p1] (kB D ct ad Z G M sz)) (va_Qi (fun (q : Int32) (_ : Unit) => q = y.2) (fun _ t => kE D ct ad G (wA ad G sz) y.1 t) (wA ad G sz)) 0 0 (wA ad G sz) := by
  refine Met.ofW (cc := cX9_guessMode) (maxL := 5) (ret := (some .int)) (by decide) rfl ?_
  intro p e s m args below meth c s₁ B hml hv
  obtain ⟨rfl, hsz, hP, hK, hD0, hZ, hN⟩ := hv
  have hx := B.exec
  have hb := B.bytes
  have hr := B.returns
  have hts := atoms_spec (ws := wsX9_guessMode) B.pre
  have hown : s.vm.findClass RX9 = some m.cls := findClass_of_methodNamed B.named
  have hlocks := B.notSynchronized
  subst hsz
  have hD := wD_self (sz := s.heap.size) hD0
  have hA9 : ∀ q, s.heap.size ≤ q → wA ad G s.heap.size q := fun q h => Or.inr h
  generalize hAe : wA ad G s.heap.size = A at hD hA9 hZ ⊢
  have hS : va_S A s.heap s.heap [] := va_S.rf
  have hl := lv_entry ([.ref (ad a), .int p0, .int p1]) (n := 5) (Nat.le_of_ble_eq_true rfl)
  rw [lg_entry_eq]
  generalize (lg_sl ([.ref (ad a), .int p0, .int p1]) ++ List.replicate (5 - (lg_sl ([.ref (ad a), .int p0, .int p1])).length) Slot.unset).toArray = ls at hl ⊢
  have hl : lv_has ls 5 [(0, .ref (ad a)), (1, .int p0), (2, .int p1)] := hl
  unfold FX9_guessMode at hF
  refine lv_aload_n hx hb dX9_guessMode_0 rfl (lv_at hl 0 rfl) ?_
  refine lv_aload_n hx hb dX9_guessMode_1 rfl (lv_at hl 0 rfl) ?_
  refine lv_iload_n hx hb dX9_guessMode_2 rfl (lv_at hl 1 rfl) ?_
  refine lv_iload_n hx hb dX9_guessMode_3 rfl (lv_at hl 2 rfl) ?_
  obtain ⟨y1, hy1, hF⟩ := bnd_some hF
  have hf9 := wA_in hD hA9 hS
  refine va_calli (va_runS (As := [.int p1]) (rest := [.int p0, .ref (ad a), .ref (ad a)]) ⟨hx, hb, hml, hown, hts⟩ (kX9_pieceX l D ct ad Z G M s.heap.size p1 y1 hy1) (va_cwS 1 hts gX9_guessMode_X9_pieceX rfl rfl rfl (by decide +kernel) ⟨Nat.le_of_ble_eq_true rfl, Nat.le_of_ble_eq_true rfl⟩) ⟨fun a U g mk q => by obtain ⟨q0, q1, qP, qK, qD, qZ, qN⟩ := q; exact ⟨q0, q1, qP, va_K.moved (u := U) (U := U.calling g mk a) (Vm.Alike.refl U.vm) qK, qD, sF.moved (u := U) (U := U.calling g mk a) (Vm.Alike.refl U.vm) qZ, nF.same rfl qN⟩, fun U hU hW => ⟨rfl, by rw [hU], by rw [hU]; exact hP, va_K.moved hW.alike hK, hD.weaken (fun _ _ _ _ => trivial), by rw [hU]; exact ((hZ.kept hS.2.1).narrow hf9).moved hW.alike, hN.warm hW⟩⟩ rfl rfl hl.1 rfl (lv_room (Nat.le_of_ble_eq_true rfl)) dX9_guessMode_4 ⟨(Nat.zero_le _), (Nat.zero_le _)⟩) hS (fun q _ h => hf9 q h) hf9 (fun r u t H locs ht hvm hw hB hz1 hk1 hS => ?_)
  obtain ⟨hP, hK9, hD9⟩ := hB
  rw [ht] at hP
  try dsimp only at hw
  subst hw
  have hD := hD9.weaken (fun _ q _ h => hf9 q.1 h)
  refine lv_iconst (v := (1 : Int32)) hx hb dX9_guessMode_7 (by decide) ?_
  refine lv_isub hx hb dX9_guessMode_8 ?_
  obtain ⟨x2, ex2, hF⟩ := ltt_some hF
  refine lv_topi (fun zx2 ezx2 => ?_)
  obtain rfl : x2 = zx2 := ex2.trans ezx2.symm
  refine lv_iload_n hx hb dX9_guessMode_9 rfl (lv_at hl 2 rfl) ?_
  obtain ⟨y3, hy3, hF⟩ := bnd_some hF
  have hf9 := wA_in hD hA9 hS
  refine va_calli (va_runS (As := [.int p1]) (rest := [.int x2, .int p0, .ref (ad a), .ref (ad a)]) ⟨hx, hb, hml, hown, hts⟩ (kX9_pieceY l D ct ad Z G y1.1 H.size p1 y3 hy3) (va_cwS 1 hts gX9_guessMode_X9_pieceY rfl rfl rfl (by decide +kernel) ⟨Nat.le_of_ble_eq_true rfl, Nat.le_of_ble_eq_true rfl⟩) ⟨fun a U g mk q => by obtain ⟨q0, q1, qP, qK, qD, qZ, qN⟩ := q; exact ⟨q0, q1, qP, va_K.moved (u := U) (U := U.calling g mk a) (Vm.Alike.refl U.vm) qK, qD, sF.moved (u := U) (U := U.calling g mk a) (Vm.Alike.refl U.vm) qZ, nF.same rfl qN⟩, fun U hU hW => ⟨rfl, by rw [hU], by rw [hU]; exact hP, va_K.moved hW.alike hK, hD.weaken (fun _ _ _ _ => trivial), by rw [hU]; exact ((hZ.kept hS.2.1).narrow hf9).moved hW.alike, hN.warm hW⟩⟩ rfl rfl hl.1 rfl (lv_room (Nat.le_of_ble_eq_true rfl)) dX9_guessMode_10 ⟨(Nat.zero_le _), (Nat.zero_le _)⟩) hS (fun q _ h => hf9 q h) hf9 (fun r u t H locs ht hvm hw hB hz1 hk1 hS => ?_)
  obtain ⟨hP, hK9, hD9⟩ := hB
  rw [ht] at hP
  try dsimp only at hw
  subst hw
  have hD := hD9.weaken (fun _ q _ h => hf9 q.1 h)
  refine lv_bipush (v := (16 : Int32)) hx hb dX9_guessMode_13 (by decide) ?_
  obtain ⟨y4, hy4, hF⟩ := bnd_some hF
  have hf9 := wA_in hD hA9 hS
  refine va_calli (va_runV (As := [.int p0, .int x2, .int y3.2, .int (16 : Int32)]) (rest := [.ref (ad a)]) ⟨hx, hb, hml, hown, hts⟩ (kX9_pieceAt l D ct ad Z G y3.1 H.size a p0 x2 y3.2 ((16 : Int32)) y4 hc hk hy4) (cwV 4 hts gX9_guessMode_X9_pieceAt rfl rfl rfl (by decide +kernel) ⟨Nat.le_of_ble_eq_true rfl, Nat.le_of_ble_eq_true rfl⟩) ⟨fun a U g mk q => by obtain ⟨q0, q1, qP, qK, qD, qZ, qN⟩ := q; exact ⟨q0, q1, qP, va_K.moved (u := U) (U := U.calling g mk a) (Vm.Alike.refl U.vm) qK, qD, sF.moved (u := U) (U := U.calling g mk a) (Vm.Alike.refl U.vm) qZ, nF.same rfl qN⟩, va_recv hK hP (ci := 9) (q0 := a) rfl (wld_o ct ad G y3.1 hc hk (by decide)), fun U hU hW => ⟨rfl, by rw [hU], by rw [hU]; exact hP, va_K.moved hW.alike hK, hD.weaken (fun _ _ _ _ => trivial), by rw [hU]; exact ((hZ.kept hS.2.1).narrow hf9).moved hW.alike, hN.warm hW⟩⟩ rfl rfl hl.1 rfl (lv_room (Nat.le_of_ble_eq_true rfl)) dX9_guessMode_15 ⟨(Nat.zero_le _), (Nat.zero_le _)⟩) hS (fun q _ h => hf9 q h) hf9 (fun r u t H locs ht hvm hw hB hz1 hk1 hS => ?_)
  obtain ⟨hP, hK9, hD9⟩ := hB
  rw [ht] at hP
  try dsimp only at hw
  subst hw
  have hD := hD9.weaken (fun _ q _ h => hf9 q.1 h)
  obtain ⟨y5, hy5, hF⟩ := bnd_some hF
  have hf9 := wA_in hD hA9 hS
  refine va_calli (va_runV (As := [.int y4.2]) (rest := []) ⟨hx, hb, hml, hown, hts⟩ (kX9_modeAt l D ct ad Z G y4.1 H.size a y4.2 y5 hc hk hy5) (cwV 1 hts gX9_guessMode_X9_modeAt rfl rfl rfl (by decide +kernel) ⟨Nat.le_of_ble_eq_true rfl, Nat.le_of_ble_eq_true rfl⟩) ⟨fun a U g mk q => by obtain ⟨q0, q1, qP, qK, qD, qZ, qN⟩ := q; exact ⟨q0, q1, qP, va_K.moved (u := U) (U := U.calling g mk a) (Vm.Alike.refl U.vm) qK, qD, sF.moved (u := U) (U := U.calling g mk a) (Vm.Alike.refl U.vm) qZ, nF.same rfl qN⟩, va_recv hK hP (ci := 9) (q0 := a) rfl (wld_o ct ad G y4.1 hc hk (by decide)), fun U hU hW => ⟨rfl, by rw [hU], by rw [hU]; exact hP, va_K.moved hW.alike hK, hD.weaken (fun _ _ _ _ => trivial), by rw [hU]; exact ((hZ.kept hS.2.1).narrow hf9).moved hW.alike, hN.warm hW⟩⟩ rfl rfl hl.1 rfl (lv_room (Nat.le_of_ble_eq_true rfl)) dX9_guessMode_18 ⟨(Nat.zero_le _), (Nat.zero_le _)⟩) hS (fun q _ h => hf9 q h) hf9 (fun r u t H locs ht hvm hw hB hz1 hk1 hS => ?_)
  obtain ⟨hP, hK9, hD9⟩ := hB
  rw [ht] at hP
  try dsimp only at hw
  subst hw
  have hD := hD9.weaken (fun _ q _ h => hf9 q.1 h)
  refine lv_istore_n (lv' := [(3, .int y5.2), (0, .ref (ad a)), (1, .int p0), (2, .int p1)]) hx hb dX9_guessMode_21 rfl hl (by decide) rfl (fun ls hl => ?_)
  refine lv_aload_n hx hb dX9_guessMode_22 rfl (lv_at hl 1 rfl) ?_
  refine lv_aload_n hx hb dX9_guessMode_23 rfl (lv_at hl 1 rfl) ?_
  refine lv_iload_n hx hb dX9_guessMode_24 rfl (lv_at hl 2 rfl) ?_
  refine lv_iload_n hx hb dX9_guessMode_25 rfl (lv_at hl 3 rfl) ?_
  obtain ⟨y6, hy6, hF⟩ := bnd_some hF
  have hf9 := wA_in hD hA9 hS
  refine va_calli (va_runS (As := [.int p1]) (rest := [.int p0, .ref (ad a), .ref (ad a)]) ⟨hx, hb, hml, hown, hts⟩ (kX9_pieceX l D ct ad Z G y5.1 H.size p1 y6 hy6) (va_cwS 1 hts gX9_guessMode_X9_pieceX rfl rfl rfl (by decide +kernel) ⟨Nat.le_of_ble_eq_true rfl, Nat.le_of_ble_eq_true rfl⟩) ⟨fun a U g mk q => by obtain ⟨q0, q1, qP, qK, qD, qZ, qN⟩ := q; exact ⟨q0, q1, qP, va_K.moved (u := U) (U := U.calling g mk a) (Vm.Alike.refl U.vm) qK, qD, sF.moved (u := U) (U := U.calling g mk a) (Vm.Alike.refl U.vm) qZ, nF.same rfl qN⟩, fun U hU hW => ⟨rfl, by rw [hU], by rw [hU]; exact hP, va_K.moved hW.alike hK, hD.weaken (fun _ _ _ _ => trivial), by rw [hU]; exact ((hZ.kept hS.2.1).narrow hf9).moved hW.alike, hN.warm hW⟩⟩ rfl rfl hl.1 rfl (lv_room (Nat.le_of_ble_eq_true rfl)) dX9_guessMode_26 ⟨(Nat.zero_le _), (Nat.zero_le _)⟩) hS (fun q _ h => hf9 q h) hf9 (fun r u t H locs ht hvm hw hB hz1 hk1 hS => ?_)
  obtain ⟨hP, hK9, hD9⟩ := hB
  rw [ht] at hP
  try dsimp only at hw
  subst hw
  have hD := hD9.weaken (fun _ q _ h => hf9 q.1 h)
  refine lv_iload_n hx hb dX9_guessMode_29 rfl (lv_at hl 3 rfl) ?_
  obtain ⟨y7, hy7, hF⟩ := bnd_some hF
  have hf9 := wA_in hD hA9 hS
  refine va_calli (va_runS (As := [.int p1]) (rest := [.int y6.2, .int p0, .ref (ad a), .ref (ad a)]) ⟨hx, hb, hml, hown, hts⟩ (kX9_pieceY l D ct ad Z G y6.1 H.size p1 y7 hy7) (va_cwS 1 hts gX9_guessMode_X9_pieceY rfl rfl rfl (by decide +kernel) ⟨Nat.le_of_ble_eq_true rfl, Nat.le_of_ble_eq_true rfl⟩) ⟨fun a U g mk q => by obtain ⟨q0, q1, qP, qK, qD, qZ, qN⟩ := q; exact ⟨q0, q1, qP, va_K.moved (u := U) (U := U.calling g mk a) (Vm.Alike.refl U.vm) qK, qD, sF.moved (u := U) (U := U.calling g mk a) (Vm.Alike.refl U.vm) qZ, nF.same rfl qN⟩, fun U hU hW => ⟨rfl, by rw [hU], by rw [hU]; exact hP, va_K.moved hW.alike hK, hD.weaken (fun _ _ _ _ => trivial), by rw [hU]; exact ((hZ.kept hS.2.1).narrow hf9).moved hW.alike, hN.warm hW⟩⟩ rfl rfl hl.1 rfl (lv_room (Nat.le_of_ble_eq_true rfl)) dX9_guessMode_30 ⟨(Nat.zero_le _), (Nat.zero_le _)⟩) hS (fun q _ h => hf9 q h) hf9 (fun r u t H locs ht hvm hw hB hz1 hk1 hS => ?_)
  obtain ⟨hP, hK9, hD9⟩ := hB
  rw [ht] at hP
  try dsimp only at hw
  subst hw
  have hD := hD9.weaken (fun _ q _ h => hf9 q.1 h)
  refine lv_iconst (v := (1 : Int32)) hx hb dX9_guessMode_33 (by decide) ?_
  refine lv_isub hx hb dX9_guessMode_34 ?_
  obtain ⟨x8, ex8, hF⟩ := ltt_some hF
  refine lv_topi (fun zx8 ezx8 => ?_)
  obtain rfl : x8 = zx8 := ex8.trans ezx8.symm
  refine lv_bipush (v := (16 : Int32)) hx hb dX9_guessMode_35 (by decide) ?_
  obtain ⟨y9, hy9, hF⟩ := bnd_some hF
  have hf9 := wA_in hD hA9 hS
  refine va_calli (va_runV (As := [.int p0, .int y6.2, .int x8, .int (16 : Int32)]) (rest := [.ref (ad a)]) ⟨hx, hb, hml, hown, hts⟩ (kX9_pieceAt l D ct ad Z G y7.1 H.size a p0 y6.2 x8 ((16 : Int32)) y9 hc hk hy9) (cwV 4 hts gX9_guessMode_X9_pieceAt rfl rfl rfl (by decide +kernel) ⟨Nat.le_of_ble_eq_true rfl, Nat.le_of_ble_eq_true rfl⟩) ⟨fun a U g mk q => by obtain ⟨q0, q1, qP, qK, qD, qZ, qN⟩ := q; exact ⟨q0, q1, qP, va_K.moved (u := U) (U := U.calling g mk a) (Vm.Alike.refl U.vm) qK, qD, sF.moved (u := U) (U := U.calling g mk a) (Vm.Alike.refl U.vm) qZ, nF.same rfl qN⟩, va_recv hK hP (ci := 9) (q0 := a) rfl (wld_o ct ad G y7.1 hc hk (by decide)), fun U hU hW => ⟨rfl, by rw [hU], by rw [hU]; exact hP, va_K.moved hW.alike hK, hD.weaken (fun _ _ _ _ => trivial), by rw [hU]; exact ((hZ.kept hS.2.1).narrow hf9).moved hW.alike, hN.warm hW⟩⟩ rfl rfl hl.1 rfl (lv_room (Nat.le_of_ble_eq_true rfl)) dX9_guessMode_37 ⟨(Nat.zero_le _), (Nat.zero_le _)⟩) hS (fun q _ h => hf9 q h) hf9 (fun r u t H locs ht hvm hw hB hz1 hk1 hS => ?_)
  obtain ⟨hP, hK9, hD9⟩ := hB
  rw [ht] at hP
  try dsimp only at hw
  subst hw
  have hD := hD9.weaken (fun _ q _ h => hf9 q.1 h)
  obtain ⟨y10, hy10, hF⟩ := bnd_some hF
  have hf9 := wA_in hD hA9 hS
  refine va_calli (va_runV (As := [.int y9.2]) (rest := []) ⟨hx, hb, hml, hown, hts⟩ (kX9_modeAt l D ct ad Z G y9.1 H.size a y9.2 y10 hc hk hy10) (cwV 1 hts gX9_guessMode_X9_modeAt rfl rfl rfl (by decide +kernel) ⟨Nat.le_of_ble_eq_true rfl, Nat.le_of_ble_eq_true rfl⟩) ⟨fun a U g mk q => by obtain ⟨q0, q1, qP, qK, qD, qZ, qN⟩ := q; exact ⟨q0, q1, qP, va_K.moved (u := U) (U := U.calling g mk a) (Vm.Alike.refl U.vm) qK, qD, sF.moved (u := U) (U := U.calling g mk a) (Vm.Alike.refl U.vm) qZ, nF.same rfl qN⟩, va_recv hK hP (ci := 9) (q0 := a) rfl (wld_o ct ad G y9.1 hc hk (by decide)), fun U hU hW => ⟨rfl, by rw [hU], by rw [hU]; exact hP, va_K.moved hW.alike hK, hD.weaken (fun _ _ _ _ => trivial), by rw [hU]; exact ((hZ.kept hS.2.1).narrow hf9).moved hW.alike, hN.warm hW⟩⟩ rfl rfl hl.1 rfl (lv_room (Nat.le_of_ble_eq_true rfl)) dX9_guessMode_40 ⟨(Nat.zero_le _), (Nat.zero_le _)⟩) hS (fun q _ h => hf9 q h) hf9 (fun r u t H locs ht hvm hw hB hz1 hk1 hS => ?_)
  obtain ⟨hP, hK9, hD9⟩ := hB
  rw [ht] at hP
  try dsimp only at hw
  subst hw
  have hD := hD9.weaken (fun _ q _ h => hf9 q.1 h)
  refine lv_istore (lv' := [(4, .int y10.2), (3, .int y5.2), (0, .ref (ad a)), (1, .int p0), (2, .int p1)]) hx hb dX9_guessMode_43 hl (by decide) rfl (fun ls hl => ?_)
  refine lv_iload_n hx hb dX9_guessMode_45 rfl (lv_at hl 1 rfl) ?_
  obtain ⟨y11, hy11, hF⟩ := bnd_some hF
  have J11 : ∀ (H : Heap) (locs : List Loc) (ls : Array Slot), va_P D classes (wld ct ad G y10.1) H → va_D A (wld ct ad G y10.1) → va_S A s.heap H locs → lv_has ls 5 [(4, .int y10.2), (3, .int y5.2), (0, .ref (ad a)), (1, .int p0), (2, .int p1)] → W p l e (headSpec wsX9_guessMode ({ frames := 1, cells := 0, slots := 0, locals := 28 })).room s m ([.ref (ad a), .int p0, .int p1] : List Value).toArray below meth c H locs 0 0 (MQ below (va_Qi (fun (q : Int32) (_ : Unit) => q = y.2) (fun _ t => kE D ct ad G A y.1 t) A) ([.ref (ad a), .int p0, .int p1] : List Value).toArray s 0 0 A) (F0 m 70 ls [.int y11]) := by
    intro H locs ls hP hD hS hl
    obtain rfl := Option.some.inj hF
    exact W.iret (v := y11) hx hb hr (fun t ht hW => ⟨⟨_, (), rfl, rfl, ⟨by rw [ht]; exact hP, va_K.moved hW.alike hK, hD⟩⟩, hS.F ht⟩) hS.2.2 dX9_guessMode_70
  clear hF
  have hF := hy11
  clear hy11
  refine lv_if_lt (tgt := 54) hx hb dX9_guessMode_46 (by decide) (fun c12 => ?_) (fun c12 => ?_)
  · rw [if_pos c12] at hF
    refine lv_iconst (v := (2 : Int32)) hx hb dX9_guessMode_54 (by decide) ?_
    refine lv_goto (tgt := 70) hx hb dX9_guessMode_55 (by decide) ?_
    obtain rfl := Option.some.inj hF
    exact J11 _ _ _ hP hD hS (lv_sub hl [0, 1, 2, 3, 4] rfl)
  · rw [if_neg c12] at hF
    refine lv_iload hx hb dX9_guessMode_49 (lv_at hl 0 rfl) ?_
    obtain ⟨y13, hy13, hF⟩ := bnd_some hF
    have J13 : ∀ (H : Heap) (locs : List Loc) (ls : Array Slot), va_P D classes (wld ct ad G y10.1) H → va_D A (wld ct ad G y10.1) → va_S A s.heap H locs → lv_has ls 5 [(4, .int y10.2), (3, .int y5.2), (0, .ref (ad a)), (1, .int p0), (2, .int p1)] → W p l e (headSpec wsX9_guessMode ({ frames := 1, cells := 0, slots := 0, locals := 28 })).room s m ([.ref (ad a), .int p0, .int p1] : List Value).toArray below meth c H locs 0 0 (MQ below (va_Qi (fun (q : Int32) (_ : Unit) => q = y.2) (fun _ t => kE D ct ad G A y.1 t) A) ([.ref (ad a), .int p0, .int p1] : List Value).toArray s 0 0 A) (F0 m 70 ls [.int y13]) := by
      intro H locs ls hP hD hS hl
      obtain rfl := Option.some.inj hF
      exact J11 _ _ _ hP hD hS (lv_sub hl [0, 1, 2, 3, 4] rfl)
    clear hF
    have hF := hy13
    clear hy13
    refine lv_if_ge (tgt := 58) hx hb dX9_guessMode_51 (by decide) (fun c14 => ?_) (fun c14 => ?_)
    · rw [if_pos c14] at hF
      refine lv_iload_n hx hb dX9_guessMode_58 rfl (lv_at hl 1 rfl) ?_
      refine lv_iload hx hb dX9_guessMode_59 (lv_at hl 0 rfl) ?_
      obtain ⟨y15, hy15, hF⟩ := bnd_some hF
      have J15 : ∀ (H : Heap) (locs : List Loc) (ls : Array Slot), va_P D classes (wld ct ad G y10.1) H → va_D A (wld ct ad G y10.1) → va_S A s.heap H locs → lv_has ls 5 [(4, .int y10.2), (3, .int y5.2), (0, .ref (ad a)), (1, .int p0), (2, .int p1)] → W p l e (headSpec wsX9_guessMode ({ frames := 1, cells := 0, slots := 0, locals := 28 })).room s m ([.ref (ad a), .int p0, .int p1] : List Value).toArray below meth c H locs 0 0 (MQ below (va_Qi (fun (q : Int32) (_ : Unit) => q = y.2) (fun _ t => kE D ct ad G A y.1 t) A) ([.ref (ad a), .int p0, .int p1] : List Value).toArray s 0 0 A) (F0 m 70 ls [.int y15]) := by
        intro H locs ls hP hD hS hl
        obtain rfl := Option.some.inj hF
        exact J13 _ _ _ hP hD hS (lv_sub hl [0, 1, 2, 3, 4] rfl)
      clear hF
      have hF := hy15
      clear hy15
      refine lv_icmp_ge (tgt := 68) hx hb dX9_guessMode_61 (by decide) (fun c16 => ?_) (fun c16 => ?_)
      · rw [if_pos c16] at hF
        refine lv_iload hx hb dX9_guessMode_68 (lv_at hl 0 rfl) ?_
        obtain rfl := Option.some.inj hF
        exact J15 _ _ _ hP hD hS (lv_sub hl [0, 1, 2, 3, 4] rfl)
      · rw [if_neg c16] at hF
        refine lv_iload_n hx hb dX9_guessMode_64 rfl (lv_at hl 1 rfl) ?_
        refine lv_goto (tgt := 70) hx hb dX9_guessMode_65 (by decide) ?_
        obtain rfl := Option.some.inj hF
        exact J15 _ _ _ hP hD hS (lv_sub hl [0, 1, 2, 3, 4] rfl)
    · rw [if_neg c14] at hF
      refine lv_iconst (v := (2 : Int32)) hx hb dX9_guessMode_54 (by decide) ?_
      refine lv_goto (tgt := 70) hx hb dX9_guessMode_55 (by decide) ?_
      obtain rfl := Option.some.inj hF
      exact J13 _ _ _ hP hD hS (lv_sub hl [0, 1, 2, 3, 4] rfl)
theorem ggX9_guessSkipped_X9_pieceAt : GoodIn wsX9_guessSkipped wsX9_pieceAt := goodIn_r _ [7, 8, 9, 10, 11, 40, 41, 42, 43, 44, 45, 46, 47, 48, 49, 50, 51, 52, 53, 54, 55, 56, 57, 58, 59, 60, 61, 62, 63, 64, 65, 66, 67, 68, 69, 70, 71, 72, 73, 74, 75, 76, 77] (by decide +kernel) (by decide +kernel)
set_option maxRecDepth 20000 in
theorem gX9_guessSkipped_X9_pieceAt : GoodIn wsX9_guessSkipped (wsV RX9 111 RX9 yX9_pieceAt wsX9_pieceAt) := goodIn_app (goodIn_of _ (by decide +kernel)) ggX9_guessSkipped_X9_pieceAt
set_option maxRecDepth 20000 in
theorem ggX9_guessSkipped_X9_isAtRest : GoodIn wsX9_guessSkipped wsX9_isAtRest := goodIn_r _ [15, 8, 16, 17, 40, 41, 42, 43, 44, 45, 46, 47, 48, 49, 50, 51, 52, 53, 54, 55, 56, 57, 58, 59, 60, 61, 62, 63, 64, 65, 66, 67, 68, 69, 70, 71, 72, 73, 74, 75, 76, 77] (by decide +kernel) (by decide +kernel)
set_option maxRecDepth 20000 in
theorem gX9_guessSkipped_X9_isAtRest : GoodIn wsX9_guessSkipped (wsV RX9 179 RX9 yX9_isAtRest wsX9_isAtRest) := goodIn_app (goodIn_of _ (by decide +kernel)) ggX9_guessSkipped_X9_isAtRest
set_option maxRecDepth 20000 in
theorem ggX9_guessSkipped_X9_guess : GoodIn wsX9_guessSkipped wsX9_guess := goodIn_r _ [21, 22, 23, 6, 24, 25, 26, 27, 3, 4, 5, 7, 8, 9, 10, 11, 28, 29, 30, 31, 16, 32, 33, 34, 35, 17, 1, 2, 36, 37, 38, 39, 40, 41, 42, 43, 44, 45, 46, 47, 48, 49, 50, 51, 52, 53, 54, 55, 56, 57, 58, 59, 60, 61, 62, 63, 64, 65, 66, 67, 68, 69, 70, 71, 72, 73, 74, 75, 76, 77] (by decide +kernel) (by decide +kernel)
set_option maxRecDepth 20000 in
theorem gX9_guessSkipped_X9_guess : GoodIn wsX9_guessSkipped (wsV RX9 182 RX9 yX9_guess wsX9_guess) := goodIn_app (goodIn_of _ (by decide +kernel)) ggX9_guessSkipped_X9_guess
theorem dX9_guessSkipped_0 : decode cX9_guessSkipped 0 = .ok (.aload_n 0, 1) := by decide +kernel
theorem dX9_guessSkipped_1 : decode cX9_guessSkipped 1 = .ok (.iload_n 1, 1) := by decide +kernel
theorem dX9_guessSkipped_2 : decode cX9_guessSkipped 2 = .ok (.iconst (-1), 1) := by decide +kernel
theorem dX9_guessSkipped_3 : decode cX9_guessSkipped 3 = .ok (.iconst 0, 1) := by decide +kernel
theorem dX9_guessSkipped_4 : decode cX9_guessSkipped 4 = .ok (.iconst 0, 1) := by decide +kernel
theorem dX9_guessSkipped_5 : decode cX9_guessSkipped 5 = .ok (.invokevirtual 111, 3) := by decide +kernel
theorem dX9_guessSkipped_8 : decode cX9_guessSkipped 8 = .ok (.istore_n 2, 1) := by decide +kernel
theorem dX9_guessSkipped_9 : decode cX9_guessSkipped 9 = .ok (.aload_n 0, 1) := by decide +kernel
theorem dX9_guessSkipped_10 : decode cX9_guessSkipped 10 = .ok (.iload_n 1, 1) := by decide +kernel
theorem dX9_guessSkipped_11 : decode cX9_guessSkipped 11 = .ok (.iconst 0, 1) := by decide +kernel
theorem dX9_guessSkipped_12 : decode cX9_guessSkipped 12 = .ok (.iconst (-1), 1) := by decide +kernel
theorem dX9_guessSkipped_13 : decode cX9_guessSkipped 13 = .ok (.iconst 0, 1) := by decide +kernel
theorem dX9_guessSkipped_14 : decode cX9_guessSkipped 14 = .ok (.invokevirtual 111, 3) := by decide +kernel
theorem dX9_guessSkipped_17 : decode cX9_guessSkipped 17 = .ok (.istore_n 3, 1) := by decide +kernel
theorem dX9_guessSkipped_18 : decode cX9_guessSkipped 18 = .ok (.aload_n 0, 1) := by decide +kernel
theorem dX9_guessSkipped_19 : decode cX9_guessSkipped 19 = .ok (.iconst 0, 1) := by decide +kernel
theorem dX9_guessSkipped_20 : decode cX9_guessSkipped 20 = .ok (.putfield 173, 3) := by decide +kernel
theorem dX9_guessSkipped_23 : decode cX9_guessSkipped 23 = .ok (.aload_n 0, 1) := by decide +kernel
theorem dX9_guessSkipped_24 : decode cX9_guessSkipped 24 = .ok (.iconst 0, 1) := by decide +kernel
theorem dX9_guessSkipped_25 : decode cX9_guessSkipped 25 = .ok (.putfield 176, 3) := by decide +kernel
theorem dX9_guessSkipped_28 : decode cX9_guessSkipped 28 = .ok (.iload_n 2, 1) := by decide +kernel
theorem dX9_guessSkipped_29 : decode cX9_guessSkipped 29 = .ok (.ifCond .lt 34, 3) := by decide +kernel
theorem dX9_guessSkipped_32 : decode cX9_guessSkipped 32 = .ok (.iload_n 3, 1) := by decide +kernel
theorem dX9_guessSkipped_33 : decode cX9_guessSkipped 33 = .ok (.ifCond .lt 30, 3) := by decide +kernel
theorem dX9_guessSkipped_36 : decode cX9_guessSkipped 36 = .ok (.aload_n 0, 1) := by decide +kernel
theorem dX9_guessSkipped_37 : decode cX9_guessSkipped 37 = .ok (.iload_n 2, 1) := by decide +kernel
theorem dX9_guessSkipped_38 : decode cX9_guessSkipped 38 = .ok (.invokevirtual 179, 3) := by decide +kernel
theorem dX9_guessSkipped_41 : decode cX9_guessSkipped 41 = .ok (.ifCond .ne 22, 3) := by decide +kernel
theorem dX9_guessSkipped_44 : decode cX9_guessSkipped 44 = .ok (.aload_n 0, 1) := by decide +kernel
theorem dX9_guessSkipped_45 : decode cX9_guessSkipped 45 = .ok (.iload_n 3, 1) := by decide +kernel
theorem dX9_guessSkipped_46 : decode cX9_guessSkipped 46 = .ok (.invokevirtual 179, 3) := by decide +kernel
theorem dX9_guessSkipped_49 : decode cX9_guessSkipped 49 = .ok (.ifCond .ne 14, 3) := by decide +kernel
theorem dX9_guessSkipped_52 : decode cX9_guessSkipped 52 = .ok (.aload_n 0, 1) := by decide +kernel
theorem dX9_guessSkipped_53 : decode cX9_guessSkipped 53 = .ok (.iload_n 1, 1) := by decide +kernel
theorem dX9_guessSkipped_54 : decode cX9_guessSkipped 54 = .ok (.iconst 0, 1) := by decide +kernel
theorem dX9_guessSkipped_55 : decode cX9_guessSkipped 55 = .ok (.iconst 0, 1) := by decide +kernel
theorem dX9_guessSkipped_56 : decode cX9_guessSkipped 56 = .ok (.iconst 0, 1) := by decide +kernel
theorem dX9_guessSkipped_57 : decode cX9_guessSkipped 57 = .ok (.bipush 16, 2) := by decide +kernel
theorem dX9_guessSkipped_59 : decode cX9_guessSkipped 59 = .ok (.iconst 0, 1) := by decide +kernel
theorem dX9_guessSkipped_60 : decode cX9_guessSkipped 60 = .ok (.invokevirtual 182, 3) := by decide +kernel
theorem dX9_guessSkipped_63 : decode cX9_guessSkipped 63 = .ok (.return_, 1) := by decide +kernel
def FX9_guessSkipped (G : GG) (M : DD) (a : Nat) (p0 : Int32) : Option (DD) :=
  bnd (FX9_pieceAt G M a p0 ((-1 : Int32)) ((0 : Int32)) ((0 : Int32))) fun y1 =>
  bnd (FX9_pieceAt G y1.1 a p0 ((0 : Int32)) ((-1 : Int32)) ((0 : Int32))) fun y2 =>
  ltt (uI y2.1 a 18 ((0 : Int32))) fun M3 =>
  ltt (uI M3 a 19 ((0 : Int32))) fun M4 =>
  bnd (if y1.2 < ((0 : Int32)) then (some (M4)) else
  (bnd (if y2.2 < ((0 : Int32)) then (some (M4)) else
  (bnd (FX9_isAtRest G M4 a y1.2) fun y9 =>
  bnd (if y9.2 = ((0 : Int32)) then (bnd (FX9_isAtRest G y9.1 a y2.2) fun y12 =>
  bnd (if y12.2 = ((0 : Int32)) then (bnd (FX9_guess G y12.1 a p0 ((0 : Int32)) ((0 : Int32)) ((0 : Int32)) ((16 : Int32)) ((0 : Int32))) fun y15 =>
  some (y15)) else
  (some (y12.1))) fun (y13 : DD) =>
  some (y13)) else
  (some (y9.1))) fun (y10 : DD) =>
  some (y10))) fun (y7 : DD) =>
  some (y7))) fun (y5 : DD) =>
  some y5
set_option maxHeartbeats 4000000 in
set_option maxRecDepth 100000 in
theorem kX9_guessSkipped (l : Launch) (D : va_G) (ct : CT) (ad : Nat → Nat) (Z : Nat → Nat) (G : GG) (M : DD) (sz : Nat) (a : Nat) (p0 : Int32) (y : DD) (hc : a < G.1) (hk : G.2.1 a = 9) (hF : FX9_guessSkipped G M a p0 = some y) : Met l yX9_guessSkipped wsX9_guessSkipped ({ frames := 2, cells := 0, slots := 0, locals := 69 }) (va_Pc [.ref (ad a), .int p0] (kB D ct ad Z G M sz)) (va_Qv (fun (_ : Unit) => True) (fun _ t => kE D ct ad G (wA ad G sz) y t) (wA ad G sz)) 0 0 (wA ad G sz) := by
  refine Met.ofW (cc := cX9_guessSkipped) (maxL := 4) (ret := none) (by decide) rfl ?_
  intro p e s m args below meth c s₁ B hml hv
  obtain ⟨rfl, hsz, hP, hK, hD0, hZ, hN⟩ := hv
  have hx := B.exec
  have hb := B.bytes
  have hr := B.returns
  have hts := atoms_spec (ws := wsX9_guessSkipped) B.pre
  have hown : s.vm.findClass RX9 = some m.cls := findClass_of_methodNamed B.named
  have hlocks := B.notSynchronized
  subst hsz
  have hD := wD_self (sz := s.heap.size) hD0
  have hA9 : ∀ q, s.heap.size ≤ q → wA ad G s.heap.size q := fun q h => Or.inr h
  generalize hAe : wA ad G s.heap.size = A at hD hA9 hZ ⊢
  have hS : va_S A s.heap s.heap [] := va_S.rf
  have hl := lv_entry ([.ref (ad a), .int p0]) (n := 4) (Nat.le_of_ble_eq_true rfl)
  rw [lg_entry_eq]
  generalize (lg_sl ([.ref (ad a), .int p0]) ++ List.replicate (4 - (lg_sl ([.ref (ad a), .int p0])).length) Slot.unset).toArray = ls at hl ⊢
  have hl : lv_has ls 4 [(0, .ref (ad a)), (1, .int p0)] := hl
  unfold FX9_guessSkipped at hF
  refine lv_aload_n hx hb dX9_guessSkipped_0 rfl (lv_at hl 0 rfl) ?_
  refine lv_iload_n hx hb dX9_guessSkipped_1 rfl (lv_at hl 1 rfl) ?_
  refine lv_iconst (v := (-1 : Int32)) hx hb dX9_guessSkipped_2 (by decide) ?_
  refine lv_iconst (v := (0 : Int32)) hx hb dX9_guessSkipped_3 (by decide) ?_
  refine lv_iconst (v := (0 : Int32)) hx hb dX9_guessSkipped_4 (by decide) ?_
  obtain ⟨y1, hy1, hF⟩ := bnd_some hF
  have hf9 := wA_in hD hA9 hS
  refine va_calli (va_runV (As := [.int p0, .int (-1 : Int32), .int (0 : Int32), .int (0 : Int32)]) (rest := []) ⟨hx, hb, hml, hown, hts⟩ (kX9_pieceAt l D ct ad Z G M s.heap.size a p0 ((-1 : Int32)) ((0 : Int32)) ((0 : Int32)) y1 hc hk hy1) (cwV 4 hts gX9_guessSkipped_X9_pieceAt rfl rfl rfl (by decide +kernel) ⟨Nat.le_of_ble_eq_true rfl, Nat.le_of_ble_eq_true rfl⟩) ⟨fun a U g mk q => by obtain ⟨q0, q1, qP, qK, qD, qZ, qN⟩ := q; exact ⟨q0, q1, qP, va_K.moved (u := U) (U := U.calling g mk a) (Vm.Alike.refl U.vm) qK, qD, sF.moved (u := U) (U := U.calling g mk a) (Vm.Alike.refl U.vm) qZ, nF.same rfl qN⟩, va_recv hK hP (ci := 9) (q0 := a) rfl (wld_o ct ad G M hc hk (by decide)), fun U hU hW => ⟨rfl, by rw [hU], by rw [hU]; exact hP, va_K.moved hW.alike hK, hD.weaken (fun _ _ _ _ => trivial), by rw [hU]; exact ((hZ.kept hS.2.1).narrow hf9).moved hW.alike, hN.warm hW⟩⟩ rfl rfl hl.1 rfl (lv_room (Nat.le_of_ble_eq_true rfl)) dX9_guessSkipped_5 ⟨(Nat.zero_le _), (Nat.zero_le _)⟩) hS (fun q _ h => hf9 q h) hf9 (fun r u t H locs ht hvm hw hB hz1 hk1 hS => ?_)
  obtain ⟨hP, hK9, hD9⟩ := hB
  rw [ht] at hP
  try dsimp only at hw
  subst hw
  have hD := hD9.weaken (fun _ q _ h => hf9 q.1 h)
  refine lv_istore_n (lv' := [(2, .int y1.2), (0, .ref (ad a)), (1, .int p0)]) hx hb dX9_guessSkipped_8 rfl hl (by decide) rfl (fun ls hl => ?_)
  refine lv_aload_n hx hb dX9_guessSkipped_9 rfl (lv_at hl 1 rfl) ?_
  refine lv_iload_n hx hb dX9_guessSkipped_10 rfl (lv_at hl 2 rfl) ?_
  refine lv_iconst (v := (0 : Int32)) hx hb dX9_guessSkipped_11 (by decide) ?_
  refine lv_iconst (v := (-1 : Int32)) hx hb dX9_guessSkipped_12 (by decide) ?_
  refine lv_iconst (v := (0 : Int32)) hx hb dX9_guessSkipped_13 (by decide) ?_
  obtain ⟨y2, hy2, hF⟩ := bnd_some hF
  have hf9 := wA_in hD hA9 hS
  refine va_calli (va_runV (As := [.int p0, .int (0 : Int32), .int (-1 : Int32), .int (0 : Int32)]) (rest := []) ⟨hx, hb, hml, hown, hts⟩ (kX9_pieceAt l D ct ad Z G y1.1 H.size a p0 ((0 : Int32)) ((-1 : Int32)) ((0 : Int32)) y2 hc hk hy2) (cwV 4 hts gX9_guessSkipped_X9_pieceAt rfl rfl rfl (by decide +kernel) ⟨Nat.le_of_ble_eq_true rfl, Nat.le_of_ble_eq_true rfl⟩) ⟨fun a U g mk q => by obtain ⟨q0, q1, qP, qK, qD, qZ, qN⟩ := q; exact ⟨q0, q1, qP, va_K.moved (u := U) (U := U.calling g mk a) (Vm.Alike.refl U.vm) qK, qD, sF.moved (u := U) (U := U.calling g mk a) (Vm.Alike.refl U.vm) qZ, nF.same rfl qN⟩, va_recv hK hP (ci := 9) (q0 := a) rfl (wld_o ct ad G y1.1 hc hk (by decide)), fun U hU hW => ⟨rfl, by rw [hU], by rw [hU]; exact hP, va_K.moved hW.alike hK, hD.weaken (fun _ _ _ _ => trivial), by rw [hU]; exact ((hZ.kept hS.2.1).narrow hf9).moved hW.alike, hN.warm hW⟩⟩ rfl rfl hl.1 rfl (lv_room (Nat.le_of_ble_eq_true rfl)) dX9_guessSkipped_14 ⟨(Nat.zero_le _), (Nat.zero_le _)⟩) hS (fun q _ h => hf9 q h) hf9 (fun r u t H locs ht hvm hw hB hz1 hk1 hS => ?_)
  obtain ⟨hP, hK9, hD9⟩ := hB
  rw [ht] at hP
  try dsimp only at hw
  subst hw
  have hD := hD9.weaken (fun _ q _ h => hf9 q.1 h)
  refine lv_istore_n (lv' := [(3, .int y2.2), (2, .int y1.2), (0, .ref (ad a)), (1, .int p0)]) hx hb dX9_guessSkipped_17 rfl hl (by decide) rfl (fun ls hl => ?_)
  refine lv_aload_n hx hb dX9_guessSkipped_18 rfl (lv_at hl 2 rfl) ?_
  refine lv_iconst (v := (0 : Int32)) hx hb dX9_guessSkipped_19 (by decide) ?_
  refine va_put (D := D) (ci := 9) (v := .int (0 : Int32)) (ty := .int) (C := RX9) (T := TX9) (N := 20) hx hb hts (by decide +kernel) tyX9 tyX9_ok nmX9 hown hK hP hD hS a (wld_o ct ad G y2.1 hc hk (by decide)) rfl 18 (by decide) (hts (.fieldLink RX9 173 "VideoSuite$Work" "guessX" "I") (by decide +kernel)) (fun _ h9 => h9) rfl (by decide +kernel) rfl rfl (Nat.le_of_ble_eq_true rfl) dX9_guessSkipped_20 (fun H locs hP hD hS => ?_)
  obtain ⟨M3, eM3, hF⟩ := ltt_some hF
  rw [set_oI ct ad G y2.1 hc hk (by decide) (by rfl), ← eM3] at hP hD
  refine lv_aload_n hx hb dX9_guessSkipped_23 rfl (lv_at hl 2 rfl) ?_
  refine lv_iconst (v := (0 : Int32)) hx hb dX9_guessSkipped_24 (by decide) ?_
  refine va_put (D := D) (ci := 9) (v := .int (0 : Int32)) (ty := .int) (C := RX9) (T := TX9) (N := 20) hx hb hts (by decide +kernel) tyX9 tyX9_ok nmX9 hown hK hP hD hS a (wld_o ct ad G M3 hc hk (by decide)) rfl 19 (by decide) (hts (.fieldLink RX9 176 "VideoSuite$Work" "guessY" "I") (by decide +kernel)) (fun _ h9 => h9) rfl (by decide +kernel) rfl rfl (Nat.le_of_ble_eq_true rfl) dX9_guessSkipped_25 (fun H locs hP hD hS => ?_)
  obtain ⟨M4, eM4, hF⟩ := ltt_some hF
  rw [set_oI ct ad G M3 hc hk (by decide) (by rfl), ← eM4] at hP hD
  refine lv_iload_n hx hb dX9_guessSkipped_28 rfl (lv_at hl 1 rfl) ?_
  obtain ⟨y5, hy5, hF⟩ := bnd_some hF
  have J5 : ∀ (H : Heap) (locs : List Loc) (ls : Array Slot), va_P D classes (wld ct ad G y5) H → va_D A (wld ct ad G y5) → va_S A s.heap H locs → lv_has ls 4 [(3, .int y2.2), (2, .int y1.2), (0, .ref (ad a)), (1, .int p0)] → W p l e (headSpec wsX9_guessSkipped ({ frames := 2, cells := 0, slots := 0, locals := 69 })).room s m ([.ref (ad a), .int p0] : List Value).toArray below meth c H locs 0 0 (MQ below (va_Qv (fun (_ : Unit) => True) (fun _ t => kE D ct ad G A y t) A) ([.ref (ad a), .int p0] : List Value).toArray s 0 0 A) (F0 m 63 ls []) := by
    intro H locs ls hP hD hS hl
    obtain rfl := Option.some.inj hF
    exact W.vret hx hb hr (fun t ht hW => ⟨⟨(), rfl, trivial, ⟨by rw [ht]; exact hP, va_K.moved hW.alike hK, hD⟩⟩, hS.F ht⟩) hS.2.2 dX9_guessSkipped_63
  clear hF
  have hF := hy5
  clear hy5
  refine lv_if_lt (tgt := 63) hx hb dX9_guessSkipped_29 (by decide) (fun c6 => ?_) (fun c6 => ?_)
  · rw [if_pos c6] at hF
    obtain rfl := Option.some.inj hF
    exact J5 _ _ _ hP hD hS (lv_sub hl [0, 1, 2, 3] rfl)
  · rw [if_neg c6] at hF
    refine lv_iload_n hx hb dX9_guessSkipped_32 rfl (lv_at hl 0 rfl) ?_
    obtain ⟨y7, hy7, hF⟩ := bnd_some hF
    have J7 : ∀ (H : Heap) (locs : List Loc) (ls : Array Slot), va_P D classes (wld ct ad G y7) H → va_D A (wld ct ad G y7) → va_S A s.heap H locs → lv_has ls 4 [(3, .int y2.2), (2, .int y1.2), (0, .ref (ad a)), (1, .int p0)] → W p l e (headSpec wsX9_guessSkipped ({ frames := 2, cells := 0, slots := 0, locals := 69 })).room s m ([.ref (ad a), .int p0] : List Value).toArray below meth c H locs 0 0 (MQ below (va_Qv (fun (_ : Unit) => True) (fun _ t => kE D ct ad G A y t) A) ([.ref (ad a), .int p0] : List Value).toArray s 0 0 A) (F0 m 63 ls []) := by
      intro H locs ls hP hD hS hl
      obtain rfl := Option.some.inj hF
      exact J5 _ _ _ hP hD hS (lv_sub hl [0, 1, 2, 3] rfl)
    clear hF
    have hF := hy7
    clear hy7
    refine lv_if_lt (tgt := 63) hx hb dX9_guessSkipped_33 (by decide) (fun c8 => ?_) (fun c8 => ?_)
    · rw [if_pos c8] at hF
      obtain rfl := Option.some.inj hF
      exact J7 _ _ _ hP hD hS (lv_sub hl [0, 1, 2, 3] rfl)
    · rw [if_neg c8] at hF
      refine lv_aload_n hx hb dX9_guessSkipped_36 rfl (lv_at hl 2 rfl) ?_
      refine lv_iload_n hx hb dX9_guessSkipped_37 rfl (lv_at hl 1 rfl) ?_
      obtain ⟨y9, hy9, hF⟩ := bnd_some hF
      have hf9 := wA_in hD hA9 hS
      refine va_calli (va_runV (As := [.int y1.2]) (rest := []) ⟨hx, hb, hml, hown, hts⟩ (kX9_isAtRest l D ct ad Z G M4 H.size a y1.2 y9 hc hk hy9) (cwV 1 hts gX9_guessSkipped_X9_isAtRest rfl rfl rfl (by decide +kernel) ⟨Nat.le_of_ble_eq_true rfl, Nat.le_of_ble_eq_true rfl⟩) ⟨fun a U g mk q => by obtain ⟨q0, q1, qP, qK, qD, qZ, qN⟩ := q; exact ⟨q0, q1, qP, va_K.moved (u := U) (U := U.calling g mk a) (Vm.Alike.refl U.vm) qK, qD, sF.moved (u := U) (U := U.calling g mk a) (Vm.Alike.refl U.vm) qZ, nF.same rfl qN⟩, va_recv hK hP (ci := 9) (q0 := a) rfl (wld_o ct ad G M4 hc hk (by decide)), fun U hU hW => ⟨rfl, by rw [hU], by rw [hU]; exact hP, va_K.moved hW.alike hK, hD.weaken (fun _ _ _ _ => trivial), by rw [hU]; exact ((hZ.kept hS.2.1).narrow hf9).moved hW.alike, hN.warm hW⟩⟩ rfl rfl hl.1 rfl (lv_room (Nat.le_of_ble_eq_true rfl)) dX9_guessSkipped_38 ⟨(Nat.zero_le _), (Nat.zero_le _)⟩) hS (fun q _ h => hf9 q h) hf9 (fun r u t H locs ht hvm hw hB hz1 hk1 hS => ?_)
      obtain ⟨hP, hK9, hD9⟩ := hB
      rw [ht] at hP
      try dsimp only at hw
      subst hw
      have hD := hD9.weaken (fun _ q _ h => hf9 q.1 h)
      obtain ⟨y10, hy10, hF⟩ := bnd_some hF
      have J10 : ∀ (H : Heap) (locs : List Loc) (ls : Array Slot), va_P D classes (wld ct ad G y10) H → va_D A (wld ct ad G y10) → va_S A s.heap H locs → lv_has ls 4 [(3, .int y2.2), (2, .int y1.2), (0, .ref (ad a)), (1, .int p0)] → W p l e (headSpec wsX9_guessSkipped ({ frames := 2, cells := 0, slots := 0, locals := 69 })).room s m ([.ref (ad a), .int p0] : List Value).toArray below meth c H locs 0 0 (MQ below (va_Qv (fun (_ : Unit) => True) (fun _ t => kE D ct ad G A y t) A) ([.ref (ad a), .int p0] : List Value).toArray s 0 0 A) (F0 m 63 ls []) := by
        intro H locs ls hP hD hS hl
        obtain rfl := Option.some.inj hF
        exact J7 _ _ _ hP hD hS (lv_sub hl [0, 1, 2, 3] rfl)
      clear hF
      have hF := hy10
      clear hy10
      refine lv_if_ne (tgt := 63) hx hb dX9_guessSkipped_41 (by decide) (fun c11 => ?_) (fun c11 => ?_)
      · rw [if_neg c11] at hF
        obtain rfl := Option.some.inj hF
        exact J10 _ _ _ hP hD hS (lv_sub hl [0, 1, 2, 3] rfl)
      · rw [if_pos c11] at hF
        refine lv_aload_n hx hb dX9_guessSkipped_44 rfl (lv_at hl 2 rfl) ?_
        refine lv_iload_n hx hb dX9_guessSkipped_45 rfl (lv_at hl 0 rfl) ?_
        obtain ⟨y12, hy12, hF⟩ := bnd_some hF
        have hf9 := wA_in hD hA9 hS
        refine va_calli (va_runV (As := [.int y2.2]) (rest := []) ⟨hx, hb, hml, hown, hts⟩ (kX9_isAtRest l D ct ad Z G y9.1 H.size a y2.2 y12 hc hk hy12) (cwV 1 hts gX9_guessSkipped_X9_isAtRest rfl rfl rfl (by decide +kernel) ⟨Nat.le_of_ble_eq_true rfl, Nat.le_of_ble_eq_true rfl⟩) ⟨fun a U g mk q => by obtain ⟨q0, q1, qP, qK, qD, qZ, qN⟩ := q; exact ⟨q0, q1, qP, va_K.moved (u := U) (U := U.calling g mk a) (Vm.Alike.refl U.vm) qK, qD, sF.moved (u := U) (U := U.calling g mk a) (Vm.Alike.refl U.vm) qZ, nF.same rfl qN⟩, va_recv hK hP (ci := 9) (q0 := a) rfl (wld_o ct ad G y9.1 hc hk (by decide)), fun U hU hW => ⟨rfl, by rw [hU], by rw [hU]; exact hP, va_K.moved hW.alike hK, hD.weaken (fun _ _ _ _ => trivial), by rw [hU]; exact ((hZ.kept hS.2.1).narrow hf9).moved hW.alike, hN.warm hW⟩⟩ rfl rfl hl.1 rfl (lv_room (Nat.le_of_ble_eq_true rfl)) dX9_guessSkipped_46 ⟨(Nat.zero_le _), (Nat.zero_le _)⟩) hS (fun q _ h => hf9 q h) hf9 (fun r u t H locs ht hvm hw hB hz1 hk1 hS => ?_)
        obtain ⟨hP, hK9, hD9⟩ := hB
        rw [ht] at hP
        try dsimp only at hw
        subst hw
        have hD := hD9.weaken (fun _ q _ h => hf9 q.1 h)
        obtain ⟨y13, hy13, hF⟩ := bnd_some hF
        have J13 : ∀ (H : Heap) (locs : List Loc) (ls : Array Slot), va_P D classes (wld ct ad G y13) H → va_D A (wld ct ad G y13) → va_S A s.heap H locs → lv_has ls 4 [(3, .int y2.2), (2, .int y1.2), (0, .ref (ad a)), (1, .int p0)] → W p l e (headSpec wsX9_guessSkipped ({ frames := 2, cells := 0, slots := 0, locals := 69 })).room s m ([.ref (ad a), .int p0] : List Value).toArray below meth c H locs 0 0 (MQ below (va_Qv (fun (_ : Unit) => True) (fun _ t => kE D ct ad G A y t) A) ([.ref (ad a), .int p0] : List Value).toArray s 0 0 A) (F0 m 63 ls []) := by
          intro H locs ls hP hD hS hl
          obtain rfl := Option.some.inj hF
          exact J10 _ _ _ hP hD hS (lv_sub hl [0, 1, 2, 3] rfl)
        clear hF
        have hF := hy13
        clear hy13
        refine lv_if_ne (tgt := 63) hx hb dX9_guessSkipped_49 (by decide) (fun c14 => ?_) (fun c14 => ?_)
        · rw [if_neg c14] at hF
          obtain rfl := Option.some.inj hF
          exact J13 _ _ _ hP hD hS (lv_sub hl [0, 1, 2, 3] rfl)
        · rw [if_pos c14] at hF
          refine lv_aload_n hx hb dX9_guessSkipped_52 rfl (lv_at hl 2 rfl) ?_
          refine lv_iload_n hx hb dX9_guessSkipped_53 rfl (lv_at hl 3 rfl) ?_
          refine lv_iconst (v := (0 : Int32)) hx hb dX9_guessSkipped_54 (by decide) ?_
          refine lv_iconst (v := (0 : Int32)) hx hb dX9_guessSkipped_55 (by decide) ?_
          refine lv_iconst (v := (0 : Int32)) hx hb dX9_guessSkipped_56 (by decide) ?_
          refine lv_bipush (v := (16 : Int32)) hx hb dX9_guessSkipped_57 (by decide) ?_
          refine lv_iconst (v := (0 : Int32)) hx hb dX9_guessSkipped_59 (by decide) ?_
          obtain ⟨y15, hy15, hF⟩ := bnd_some hF
          have hf9 := wA_in hD hA9 hS
          refine va_callv (va_runV (As := [.int p0, .int (0 : Int32), .int (0 : Int32), .int (0 : Int32), .int (16 : Int32), .int (0 : Int32)]) (rest := []) ⟨hx, hb, hml, hown, hts⟩ (kX9_guess l D ct ad Z G y12.1 H.size a p0 ((0 : Int32)) ((0 : Int32)) ((0 : Int32)) ((16 : Int32)) ((0 : Int32)) y15 hc hk hy15) (cwV 6 hts gX9_guessSkipped_X9_guess rfl rfl rfl (by decide +kernel) ⟨Nat.le_of_ble_eq_true rfl, Nat.le_of_ble_eq_true rfl⟩) ⟨fun a U g mk q => by obtain ⟨q0, q1, qP, qK, qD, qZ, qN⟩ := q; exact ⟨q0, q1, qP, va_K.moved (u := U) (U := U.calling g mk a) (Vm.Alike.refl U.vm) qK, qD, sF.moved (u := U) (U := U.calling g mk a) (Vm.Alike.refl U.vm) qZ, nF.same rfl qN⟩, va_recv hK hP (ci := 9) (q0 := a) rfl (wld_o ct ad G y12.1 hc hk (by decide)), fun U hU hW => ⟨rfl, by rw [hU], by rw [hU]; exact hP, va_K.moved hW.alike hK, hD.weaken (fun _ _ _ _ => trivial), by rw [hU]; exact ((hZ.kept hS.2.1).narrow hf9).moved hW.alike, hN.warm hW⟩⟩ rfl rfl hl.1 rfl (lv_room (Nat.le_of_ble_eq_true rfl)) dX9_guessSkipped_60 ⟨(Nat.zero_le _), (Nat.zero_le _)⟩) hS (fun q _ h => hf9 q h) hf9 (fun u t H locs ht hvm hw hB hz1 hk1 hS => ?_)
          obtain ⟨hP, hK9, hD9⟩ := hB
          rw [ht] at hP
          have hD := hD9.weaken (fun _ q _ h => hf9 q.1 h)
          obtain rfl := Option.some.inj hF
          exact J13 _ _ _ hP hD hS (lv_sub hl [0, 1, 2, 3] rfl)
theorem ggX9_leastReference_X9_pieceAt : GoodIn wsX9_leastReference wsX9_pieceAt := goodIn_r _ [5, 6, 7, 8, 9, 15, 16, 17, 18, 19, 20, 21, 22, 23, 24, 25, 26, 27, 28, 29, 30, 31, 32, 33, 34, 35, 36, 37, 38, 39, 40, 41, 42, 43, 44, 45, 46, 47, 48, 49, 50, 51, 52] (by decide +kernel) (by decide +kernel)
set_option maxRecDepth 20000 in
theorem gX9_leastReference_X9_pieceAt : GoodIn wsX9_leastReference (wsV RX9 111 RX9 yX9_pieceAt wsX9_pieceAt) := goodIn_app (goodIn_of _ (by decide +kernel)) ggX9_leastReference_X9_pieceAt
set_option maxRecDepth 20000 in
theorem ggX9_leastReference_X9_referenceAt : GoodIn wsX9_leastReference wsX9_referenceAt := goodIn_r _ [13, 6, 14, 15, 16, 17, 18, 19, 20, 21, 22, 23, 24, 25, 26, 27, 28, 29, 30, 31, 32, 33, 34, 35, 36, 37, 38, 39, 40, 41, 42, 43, 44, 45, 46, 47, 48, 49, 50, 51, 52] (by decide +kernel) (by decide +kernel)
set_option maxRecDepth 20000 in
theorem gX9_leastReference_X9_referenceAt : GoodIn wsX9_leastReference (wsV RX9 164 RX9 yX9_referenceAt wsX9_referenceAt) := goodIn_app (goodIn_of _ (by decide +kernel)) ggX9_leastReference_X9_referenceAt
theorem dX9_leastReference_0 : decode cX9_leastReference 0 = .ok (.aload_n 0, 1) := by decide +kernel
theorem dX9_leastReference_1 : decode cX9_leastReference 1 = .ok (.iload_n 1, 1) := by decide +kernel
theorem dX9_leastReference_2 : decode cX9_leastReference 2 = .ok (.bipush 16, 2) := by decide +kernel
theorem dX9_leastReference_4 : decode cX9_leastReference 4 = .ok (.iconst (-1), 1) := by decide +kernel
theorem dX9_leastReference_5 : decode cX9_leastReference 5 = .ok (.iconst 0, 1) := by decide +kernel
theorem dX9_leastReference_6 : decode cX9_leastReference 6 = .ok (.invokevirtual 111, 3) := by decide +kernel
theorem dX9_leastReference_9 : decode cX9_leastReference 9 = .ok (.istore_n 3, 1) := by decide +kernel
theorem dX9_leastReference_10 : decode cX9_leastReference 10 = .ok (.iload_n 3, 1) := by decide +kernel
theorem dX9_leastReference_11 : decode cX9_leastReference 11 = .ok (.ifCond .ge 14, 3) := by decide +kernel
theorem dX9_leastReference_14 : decode cX9_leastReference 14 = .ok (.aload_n 0, 1) := by decide +kernel
theorem dX9_leastReference_15 : decode cX9_leastReference 15 = .ok (.iload_n 1, 1) := by decide +kernel
theorem dX9_leastReference_16 : decode cX9_leastReference 16 = .ok (.iconst (-1), 1) := by decide +kernel
theorem dX9_leastReference_17 : decode cX9_leastReference 17 = .ok (.iconst (-1), 1) := by decide +kernel
theorem dX9_leastReference_18 : decode cX9_leastReference 18 = .ok (.iconst 0, 1) := by decide +kernel
theorem dX9_leastReference_19 : decode cX9_leastReference 19 = .ok (.invokevirtual 111, 3) := by decide +kernel
theorem dX9_leastReference_22 : decode cX9_leastReference 22 = .ok (.goto 4, 3) := by decide +kernel
theorem dX9_leastReference_25 : decode cX9_leastReference 25 = .ok (.iload_n 3, 1) := by decide +kernel
theorem dX9_leastReference_26 : decode cX9_leastReference 26 = .ok (.istore_n 3, 1) := by decide +kernel
theorem dX9_leastReference_27 : decode cX9_leastReference 27 = .ok (.aload_n 0, 1) := by decide +kernel
theorem dX9_leastReference_28 : decode cX9_leastReference 28 = .ok (.iload_n 2, 1) := by decide +kernel
theorem dX9_leastReference_29 : decode cX9_leastReference 29 = .ok (.aload_n 0, 1) := by decide +kernel
theorem dX9_leastReference_30 : decode cX9_leastReference 30 = .ok (.iload_n 1, 1) := by decide +kernel
theorem dX9_leastReference_31 : decode cX9_leastReference 31 = .ok (.iconst (-1), 1) := by decide +kernel
theorem dX9_leastReference_32 : decode cX9_leastReference 32 = .ok (.iconst 0, 1) := by decide +kernel
theorem dX9_leastReference_33 : decode cX9_leastReference 33 = .ok (.iconst 0, 1) := by decide +kernel
theorem dX9_leastReference_34 : decode cX9_leastReference 34 = .ok (.invokevirtual 111, 3) := by decide +kernel
theorem dX9_leastReference_37 : decode cX9_leastReference 37 = .ok (.invokevirtual 164, 3) := by decide +kernel
theorem dX9_leastReference_40 : decode cX9_leastReference 40 = .ok (.istore 4, 2) := by decide +kernel
theorem dX9_leastReference_42 : decode cX9_leastReference 42 = .ok (.aload_n 0, 1) := by decide +kernel
theorem dX9_leastReference_43 : decode cX9_leastReference 43 = .ok (.iload_n 2, 1) := by decide +kernel
theorem dX9_leastReference_44 : decode cX9_leastReference 44 = .ok (.aload_n 0, 1) := by decide +kernel
theorem dX9_leastReference_45 : decode cX9_leastReference 45 = .ok (.iload_n 1, 1) := by decide +kernel
theorem dX9_leastReference_46 : decode cX9_leastReference 46 = .ok (.iconst 0, 1) := by decide +kernel
theorem dX9_leastReference_47 : decode cX9_leastReference 47 = .ok (.iconst (-1), 1) := by decide +kernel
theorem dX9_leastReference_48 : decode cX9_leastReference 48 = .ok (.iconst 0, 1) := by decide +kernel
theorem dX9_leastReference_49 : decode cX9_leastReference 49 = .ok (.invokevirtual 111, 3) := by decide +kernel
theorem dX9_leastReference_52 : decode cX9_leastReference 52 = .ok (.invokevirtual 164, 3) := by decide +kernel
theorem dX9_leastReference_55 : decode cX9_leastReference 55 = .ok (.istore 5, 2) := by decide +kernel
theorem dX9_leastReference_57 : decode cX9_leastReference 57 = .ok (.aload_n 0, 1) := by decide +kernel
theorem dX9_leastReference_58 : decode cX9_leastReference 58 = .ok (.iload_n 2, 1) := by decide +kernel
theorem dX9_leastReference_59 : decode cX9_leastReference 59 = .ok (.iload_n 3, 1) := by decide +kernel
theorem dX9_leastReference_60 : decode cX9_leastReference 60 = .ok (.invokevirtual 164, 3) := by decide +kernel
theorem dX9_leastReference_63 : decode cX9_leastReference 63 = .ok (.istore 6, 2) := by decide +kernel
theorem dX9_leastReference_65 : decode cX9_leastReference 65 = .ok (.iload 4, 2) := by decide +kernel
theorem dX9_leastReference_67 : decode cX9_leastReference 67 = .ok (.ifCond .lt 15, 3) := by decide +kernel
theorem dX9_leastReference_70 : decode cX9_leastReference 70 = .ok (.iload 5, 2) := by decide +kernel
theorem dX9_leastReference_72 : decode cX9_leastReference 72 = .ok (.ifCond .lt 15, 3) := by decide +kernel
theorem dX9_leastReference_75 : decode cX9_leastReference 75 = .ok (.iload 5, 2) := by decide +kernel
theorem dX9_leastReference_77 : decode cX9_leastReference 77 = .ok (.iload 4, 2) := by decide +kernel
theorem dX9_leastReference_79 : decode cX9_leastReference 79 = .ok (.if_icmp .ge 8, 3) := by decide +kernel
theorem dX9_leastReference_82 : decode cX9_leastReference 82 = .ok (.iload 5, 2) := by decide +kernel
theorem dX9_leastReference_84 : decode cX9_leastReference 84 = .ok (.goto 5, 3) := by decide +kernel
theorem dX9_leastReference_87 : decode cX9_leastReference 87 = .ok (.iload 4, 2) := by decide +kernel
theorem dX9_leastReference_89 : decode cX9_leastReference 89 = .ok (.istore 7, 2) := by decide +kernel
theorem dX9_leastReference_91 : decode cX9_leastReference 91 = .ok (.iload 7, 2) := by decide +kernel
theorem dX9_leastReference_93 : decode cX9_leastReference 93 = .ok (.ifCond .lt 15, 3) := by decide +kernel
theorem dX9_leastReference_96 : decode cX9_leastReference 96 = .ok (.iload 6, 2) := by decide +kernel
theorem dX9_leastReference_98 : decode cX9_leastReference 98 = .ok (.ifCond .lt 15, 3) := by decide +kernel
theorem dX9_leastReference_101 : decode cX9_leastReference 101 = .ok (.iload 6, 2) := by decide +kernel
theorem dX9_leastReference_103 : decode cX9_leastReference 103 = .ok (.iload 7, 2) := by decide +kernel
theorem dX9_leastReference_105 : decode cX9_leastReference 105 = .ok (.if_icmp .ge 8, 3) := by decide +kernel
theorem dX9_leastReference_108 : decode cX9_leastReference 108 = .ok (.iload 6, 2) := by decide +kernel
theorem dX9_leastReference_110 : decode cX9_leastReference 110 = .ok (.goto 5, 3) := by decide +kernel
theorem dX9_leastReference_113 : decode cX9_leastReference 113 = .ok (.iload 7, 2) := by decide +kernel
theorem dX9_leastReference_115 : decode cX9_leastReference 115 = .ok (.ireturn, 1) := by decide +kernel
def FX9_leastReference (G : GG) (M : DD) (a : Nat) (p0 : Int32) (p1 : Int32) : Option (DD × Int32) :=
  bnd (FX9_pieceAt G M a p0 ((16 : Int32)) ((-1 : Int32)) ((0 : Int32))) fun y1 =>
  bnd (if ((0 : Int32)) ≤ y1.2 then (some (y1.2, y1.1)) else
  (bnd (FX9_pieceAt G y1.1 a p0 ((-1 : Int32)) ((-1 : Int32)) ((0 : Int32))) fun y21 =>
  some (y21.2, y21.1))) fun (y2 : Int32 × DD) =>
  bnd (FX9_pieceAt G y2.2 a p0 ((-1 : Int32)) ((0 : Int32)) ((0 : Int32))) fun y3 =>
  bnd (FX9_referenceAt G y3.1 a p1 y3.2) fun y4 =>
  bnd (FX9_pieceAt G y4.1 a p0 ((0 : Int32)) ((-1 : Int32)) ((0 : Int32))) fun y5 =>
  bnd (FX9_referenceAt G y5.1 a p1 y5.2) fun y6 =>
  bnd (FX9_referenceAt G y6.1 a p1 y2.1) fun y7 =>
  bnd (if y4.2 < ((0 : Int32)) then (some (y6.2)) else
  (bnd (if y6.2 < ((0 : Int32)) then (some (y4.2)) else
  (bnd (if y4.2 ≤ y6.2 then (some (y4.2)) else
  (some (y6.2))) fun (y18 : Int32) =>
  some (y18))) fun (y16 : Int32) =>
  some (y16))) fun (y8 : Int32) =>
  bnd (if y8 < ((0 : Int32)) then (some (y7.2)) else
  (bnd (if y7.2 < ((0 : Int32)) then (some (y8)) else
  (bnd (if y8 ≤ y7.2 then (some (y8)) else
  (some (y7.2))) fun (y13 : Int32) =>
  some (y13))) fun (y11 : Int32) =>
  some (y11))) fun (y9 : Int32) =>
  some (y7.1, y9)
set_option maxHeartbeats 4000000 in
set_option maxRecDepth 100000 in
theorem kX9_leastReference (l : Launch) (D : va_G) (ct : CT) (ad : Nat → Nat) (Z : Nat → Nat) (G : GG) (M : DD) (sz : Nat) (a : Nat) (p0 : Int32) (p1 : Int32) (y : DD × Int32) (hc : a < G.1) (hk : G.2.1 a = 9) (hF : FX9_leastReference G M a p0 p1 = some y) : Met l yX9_leastReference wsX9_leastReference ({ frames := 1, cells := 0, slots := 0, locals := 28 }) (va_Pc [.ref (ad a), .int p0, .int p1] (kB D ct ad Z G M sz)) (va_Qi (fun (q : Int32) (_ : Unit) => q = y.2) (fun _ t => kE D ct ad G (wA ad G sz) y.1 t) (wA ad G sz)) 0 0 (wA ad G sz) := by
  refine Met.ofW (cc := cX9_leastReference) (maxL := 8) (ret := (some .int)) (by decide) rfl ?_
  intro p e s m args below meth c s₁ B hml hv
  obtain ⟨rfl, hsz, hP, hK, hD0, hZ, hN⟩ := hv
  have hx := B.exec
  have hb := B.bytes
  have hr := B.returns
  have hts := atoms_spec (ws := wsX9_leastReference) B.pre
  have hown : s.vm.findClass RX9 = some m.cls := findClass_of_methodNamed B.named
  have hlocks := B.notSynchronized
  subst hsz
  have hD := wD_self (sz := s.heap.size) hD0
  have hA9 : ∀ q, s.heap.size ≤ q → wA ad G s.heap.size q := fun q h => Or.inr h
  generalize hAe : wA ad G s.heap.size = A at hD hA9 hZ ⊢
  have hS : va_S A s.heap s.heap [] := va_S.rf
  have hl := lv_entry ([.ref (ad a), .int p0, .int p1]) (n := 8) (Nat.le_of_ble_eq_true rfl)
  rw [lg_entry_eq]
  generalize (lg_sl ([.ref (ad a), .int p0, .int p1]) ++ List.replicate (8 - (lg_sl ([.ref (ad a), .int p0, .int p1])).length) Slot.unset).toArray = ls at hl ⊢
  have hl : lv_has ls 8 [(0, .ref (ad a)), (1, .int p0), (2, .int p1)] := hl
  unfold FX9_leastReference at hF
  refine lv_aload_n hx hb dX9_leastReference_0 rfl (lv_at hl 0 rfl) ?_
  refine lv_iload_n hx hb dX9_leastReference_1 rfl (lv_at hl 1 rfl) ?_
  refine lv_bipush (v := (16 : Int32)) hx hb dX9_leastReference_2 (by decide) ?_
  refine lv_iconst (v := (-1 : Int32)) hx hb dX9_leastReference_4 (by decide) ?_
  refine lv_iconst (v := (0 : Int32)) hx hb dX9_leastReference_5 (by decide) ?_
  obtain ⟨y1, hy1, hF⟩ := bnd_some hF
  have hf9 := wA_in hD hA9 hS
  refine va_calli (va_runV (As := [.int p0, .int (16 : Int32), .int (-1 : Int32), .int (0 : Int32)]) (rest := []) ⟨hx, hb, hml, hown, hts⟩ (kX9_pieceAt l D ct ad Z G M s.heap.size a p0 ((16 : Int32)) ((-1 : Int32)) ((0 : Int32)) y1 hc hk hy1) (cwV 4 hts gX9_leastReference_X9_pieceAt rfl rfl rfl (by decide +kernel) ⟨Nat.le_of_ble_eq_true rfl, Nat.le_of_ble_eq_true rfl⟩) ⟨fun a U g mk q => by obtain ⟨q0, q1, qP, qK, qD, qZ, qN⟩ := q; exact ⟨q0, q1, qP, va_K.moved (u := U) (U := U.calling g mk a) (Vm.Alike.refl U.vm) qK, qD, sF.moved (u := U) (U := U.calling g mk a) (Vm.Alike.refl U.vm) qZ, nF.same rfl qN⟩, va_recv hK hP (ci := 9) (q0 := a) rfl (wld_o ct ad G M hc hk (by decide)), fun U hU hW => ⟨rfl, by rw [hU], by rw [hU]; exact hP, va_K.moved hW.alike hK, hD.weaken (fun _ _ _ _ => trivial), by rw [hU]; exact ((hZ.kept hS.2.1).narrow hf9).moved hW.alike, hN.warm hW⟩⟩ rfl rfl hl.1 rfl (lv_room (Nat.le_of_ble_eq_true rfl)) dX9_leastReference_6 ⟨(Nat.zero_le _), (Nat.zero_le _)⟩) hS (fun q _ h => hf9 q h) hf9 (fun r u t H locs ht hvm hw hB hz1 hk1 hS => ?_)
  obtain ⟨hP, hK9, hD9⟩ := hB
  rw [ht] at hP
  try dsimp only at hw
  subst hw
  have hD := hD9.weaken (fun _ q _ h => hf9 q.1 h)
  refine lv_istore_n (lv' := [(3, .int y1.2), (0, .ref (ad a)), (1, .int p0), (2, .int p1)]) hx hb dX9_leastReference_9 rfl hl (by decide) rfl (fun ls hl => ?_)
  refine lv_iload_n hx hb dX9_leastReference_10 rfl (lv_at hl 0 rfl) ?_
  obtain ⟨y2, hy2, hF⟩ := bnd_some hF
  have J2 : ∀ (H : Heap) (locs : List Loc) (ls : Array Slot), va_P D classes (wld ct ad G y2.2) H → va_D A (wld ct ad G y2.2) → va_S A s.heap H locs → lv_has ls 8 [(3, .int y1.2), (0, .ref (ad a)), (1, .int p0), (2, .int p1)] → W p l e (headSpec wsX9_leastReference ({ frames := 1, cells := 0, slots := 0, locals := 28 })).room s m ([.ref (ad a), .int p0, .int p1] : List Value).toArray below meth c H locs 0 0 (MQ below (va_Qi (fun (q : Int32) (_ : Unit) => q = y.2) (fun _ t => kE D ct ad G A y.1 t) A) ([.ref (ad a), .int p0, .int p1] : List Value).toArray s 0 0 A) (F0 m 26 ls [.int y2.1]) := by
    intro H locs ls hP hD hS hl
    refine lv_istore_n (lv' := [(3, .int y2.1), (0, .ref (ad a)), (1, .int p0), (2, .int p1)]) hx hb dX9_leastReference_26 rfl hl (by decide) rfl (fun ls hl => ?_)
    refine lv_aload_n hx hb dX9_leastReference_27 rfl (lv_at hl 1 rfl) ?_
    refine lv_iload_n hx hb dX9_leastReference_28 rfl (lv_at hl 3 rfl) ?_
    refine lv_aload_n hx hb dX9_leastReference_29 rfl (lv_at hl 1 rfl) ?_
    refine lv_iload_n hx hb dX9_leastReference_30 rfl (lv_at hl 2 rfl) ?_
    refine lv_iconst (v := (-1 : Int32)) hx hb dX9_leastReference_31 (by decide) ?_
    refine lv_iconst (v := (0 : Int32)) hx hb dX9_leastReference_32 (by decide) ?_
    refine lv_iconst (v := (0 : Int32)) hx hb dX9_leastReference_33 (by decide) ?_
    obtain ⟨y3, hy3, hF⟩ := bnd_some hF
    have hf9 := wA_in hD hA9 hS
    refine va_calli (va_runV (As := [.int p0, .int (-1 : Int32), .int (0 : Int32), .int (0 : Int32)]) (rest := [.int p1, .ref (ad a)]) ⟨hx, hb, hml, hown, hts⟩ (kX9_pieceAt l D ct ad Z G y2.2 H.size a p0 ((-1 : Int32)) ((0 : Int32)) ((0 : Int32)) y3 hc hk hy3) (cwV 4 hts gX9_leastReference_X9_pieceAt rfl rfl rfl (by decide +kernel) ⟨Nat.le_of_ble_eq_true rfl, Nat.le_of_ble_eq_true rfl⟩) ⟨fun a U g mk q => by obtain ⟨q0, q1, qP, qK, qD, qZ, qN⟩ := q; exact ⟨q0, q1, qP, va_K.moved (u := U) (U := U.calling g mk a) (Vm.Alike.refl U.vm) qK, qD, sF.moved (u := U) (U := U.calling g mk a) (Vm.Alike.refl U.vm) qZ, nF.same rfl qN⟩, va_recv hK hP (ci := 9) (q0 := a) rfl (wld_o ct ad G y2.2 hc hk (by decide)), fun U hU hW => ⟨rfl, by rw [hU], by rw [hU]; exact hP, va_K.moved hW.alike hK, hD.weaken (fun _ _ _ _ => trivial), by rw [hU]; exact ((hZ.kept hS.2.1).narrow hf9).moved hW.alike, hN.warm hW⟩⟩ rfl rfl hl.1 rfl (lv_room (Nat.le_of_ble_eq_true rfl)) dX9_leastReference_34 ⟨(Nat.zero_le _), (Nat.zero_le _)⟩) hS (fun q _ h => hf9 q h) hf9 (fun r u t H locs ht hvm hw hB hz1 hk1 hS => ?_)
    obtain ⟨hP, hK9, hD9⟩ := hB
    rw [ht] at hP
    try dsimp only at hw
    subst hw
    have hD := hD9.weaken (fun _ q _ h => hf9 q.1 h)
    obtain ⟨y4, hy4, hF⟩ := bnd_some hF
    have hf9 := wA_in hD hA9 hS
    refine va_calli (va_runV (As := [.int p1, .int y3.2]) (rest := []) ⟨hx, hb, hml, hown, hts⟩ (kX9_referenceAt l D ct ad Z G y3.1 H.size a p1 y3.2 y4 hc hk hy4) (cwV 2 hts gX9_leastReference_X9_referenceAt rfl rfl rfl (by decide +kernel) ⟨Nat.le_of_ble_eq_true rfl, Nat.le_of_ble_eq_true rfl⟩) ⟨fun a U g mk q => by obtain ⟨q0, q1, qP, qK, qD, qZ, qN⟩ := q; exact ⟨q0, q1, qP, va_K.moved (u := U) (U := U.calling g mk a) (Vm.Alike.refl U.vm) qK, qD, sF.moved (u := U) (U := U.calling g mk a) (Vm.Alike.refl U.vm) qZ, nF.same rfl qN⟩, va_recv hK hP (ci := 9) (q0 := a) rfl (wld_o ct ad G y3.1 hc hk (by decide)), fun U hU hW => ⟨rfl, by rw [hU], by rw [hU]; exact hP, va_K.moved hW.alike hK, hD.weaken (fun _ _ _ _ => trivial), by rw [hU]; exact ((hZ.kept hS.2.1).narrow hf9).moved hW.alike, hN.warm hW⟩⟩ rfl rfl hl.1 rfl (lv_room (Nat.le_of_ble_eq_true rfl)) dX9_leastReference_37 ⟨(Nat.zero_le _), (Nat.zero_le _)⟩) hS (fun q _ h => hf9 q h) hf9 (fun r u t H locs ht hvm hw hB hz1 hk1 hS => ?_)
    obtain ⟨hP, hK9, hD9⟩ := hB
    rw [ht] at hP
    try dsimp only at hw
    subst hw
    have hD := hD9.weaken (fun _ q _ h => hf9 q.1 h)
    refine lv_istore (lv' := [(4, .int y4.2), (3, .int y2.1), (0, .ref (ad a)), (1, .int p0), (2, .int p1)]) hx hb dX9_leastReference_40 hl (by decide) rfl (fun ls hl => ?_)
    refine lv_aload_n hx hb dX9_leastReference_42 rfl (lv_at hl 2 rfl) ?_
    refine lv_iload_n hx hb dX9_leastReference_43 rfl (lv_at hl 4 rfl) ?_
    refine lv_aload_n hx hb dX9_leastReference_44 rfl (lv_at hl 2 rfl) ?_
    refine lv_iload_n hx hb dX9_leastReference_45 rfl (lv_at hl 3 rfl) ?_
    refine lv_iconst (v := (0 : Int32)) hx hb dX9_leastReference_46 (by decide) ?_
    refine lv_iconst (v := (-1 : Int32)) hx hb dX9_leastReference_47 (by decide) ?_
    refine lv_iconst (v := (0 : Int32)) hx hb dX9_leastReference_48 (by decide) ?_
    obtain ⟨y5, hy5, hF⟩ := bnd_some hF
    have hf9 := wA_in hD hA9 hS
    refine va_calli (va_runV (As := [.int p0, .int (0 : Int32), .int (-1 : Int32), .int (0 : Int32)]) (rest := [.int p1, .ref (ad a)]) ⟨hx, hb, hml, hown, hts⟩ (kX9_pieceAt l D ct ad Z G y4.1 H.size a p0 ((0 : Int32)) ((-1 : Int32)) ((0 : Int32)) y5 hc hk hy5) (cwV 4 hts gX9_leastReference_X9_pieceAt rfl rfl rfl (by decide +kernel) ⟨Nat.le_of_ble_eq_true rfl, Nat.le_of_ble_eq_true rfl⟩) ⟨fun a U g mk q => by obtain ⟨q0, q1, qP, qK, qD, qZ, qN⟩ := q; exact ⟨q0, q1, qP, va_K.moved (u := U) (U := U.calling g mk a) (Vm.Alike.refl U.vm) qK, qD, sF.moved (u := U) (U := U.calling g mk a) (Vm.Alike.refl U.vm) qZ, nF.same rfl qN⟩, va_recv hK hP (ci := 9) (q0 := a) rfl (wld_o ct ad G y4.1 hc hk (by decide)), fun U hU hW => ⟨rfl, by rw [hU], by rw [hU]; exact hP, va_K.moved hW.alike hK, hD.weaken (fun _ _ _ _ => trivial), by rw [hU]; exact ((hZ.kept hS.2.1).narrow hf9).moved hW.alike, hN.warm hW⟩⟩ rfl rfl hl.1 rfl (lv_room (Nat.le_of_ble_eq_true rfl)) dX9_leastReference_49 ⟨(Nat.zero_le _), (Nat.zero_le _)⟩) hS (fun q _ h => hf9 q h) hf9 (fun r u t H locs ht hvm hw hB hz1 hk1 hS => ?_)
    obtain ⟨hP, hK9, hD9⟩ := hB
    rw [ht] at hP
    try dsimp only at hw
    subst hw
    have hD := hD9.weaken (fun _ q _ h => hf9 q.1 h)
    obtain ⟨y6, hy6, hF⟩ := bnd_some hF
    have hf9 := wA_in hD hA9 hS
    refine va_calli (va_runV (As := [.int p1, .int y5.2]) (rest := []) ⟨hx, hb, hml, hown, hts⟩ (kX9_referenceAt l D ct ad Z G y5.1 H.size a p1 y5.2 y6 hc hk hy6) (cwV 2 hts gX9_leastReference_X9_referenceAt rfl rfl rfl (by decide +kernel) ⟨Nat.le_of_ble_eq_true rfl, Nat.le_of_ble_eq_true rfl⟩) ⟨fun a U g mk q => by obtain ⟨q0, q1, qP, qK, qD, qZ, qN⟩ := q; exact ⟨q0, q1, qP, va_K.moved (u := U) (U := U.calling g mk a) (Vm.Alike.refl U.vm) qK, qD, sF.moved (u := U) (U := U.calling g mk a) (Vm.Alike.refl U.vm) qZ, nF.same rfl qN⟩, va_recv hK hP (ci := 9) (q0 := a) rfl (wld_o ct ad G y5.1 hc hk (by decide)), fun U hU hW => ⟨rfl, by rw [hU], by rw [hU]; exact hP, va_K.moved hW.alike hK, hD.weaken (fun _ _ _ _ => trivial), by rw [hU]; exact ((hZ.kept hS.2.1).narrow hf9).moved hW.alike, hN.warm hW⟩⟩ rfl rfl hl.1 rfl (lv_room (Nat.le_of_ble_eq_true rfl)) dX9_leastReference_52 ⟨(Nat.zero_le _), (Nat.zero_le _)⟩) hS (fun q _ h => hf9 q h) hf9 (fun r u t H locs ht hvm hw hB hz1 hk1 hS => ?_)
    obtain ⟨hP, hK9, hD9⟩ := hB
    rw [ht] at hP
    try dsimp only at hw
    subst hw
    have hD := hD9.weaken (fun _ q _ h => hf9 q.1 h)
    refine lv_istore (lv' := [(5, .int y6.2), (4, .int y4.2), (3, .int y2.1), (0, .ref (ad a)), (1, .int p0), (2, .int p1)]) hx hb dX9_leastReference_55 hl (by decide) rfl (fun ls hl => ?_)
    refine lv_aload_n hx hb dX9_leastReference_57 rfl (lv_at hl 3 rfl) ?_
    refine lv_iload_n hx hb dX9_leastReference_58 rfl (lv_at hl 5 rfl) ?_
    refine lv_iload_n hx hb dX9_leastReference_59 rfl (lv_at hl 2 rfl) ?_
    obtain ⟨y7, hy7, hF⟩ := bnd_some hF
    have hf9 := wA_in hD hA9 hS
    refine va_calli (va_runV (As := [.int p1, .int y2.1]) (rest := []) ⟨hx, hb, hml, hown, hts⟩ (kX9_referenceAt l D ct ad Z G y6.1 H.size a p1 y2.1 y7 hc hk hy7) (cwV 2 hts gX9_leastReference_X9_referenceAt rfl rfl rfl (by decide +kernel) ⟨Nat.le_of_ble_eq_true rfl, Nat.le_of_ble_eq_true rfl⟩) ⟨fun a U g mk q => by obtain ⟨q0, q1, qP, qK, qD, qZ, qN⟩ := q; exact ⟨q0, q1, qP, va_K.moved (u := U) (U := U.calling g mk a) (Vm.Alike.refl U.vm) qK, qD, sF.moved (u := U) (U := U.calling g mk a) (Vm.Alike.refl U.vm) qZ, nF.same rfl qN⟩, va_recv hK hP (ci := 9) (q0 := a) rfl (wld_o ct ad G y6.1 hc hk (by decide)), fun U hU hW => ⟨rfl, by rw [hU], by rw [hU]; exact hP, va_K.moved hW.alike hK, hD.weaken (fun _ _ _ _ => trivial), by rw [hU]; exact ((hZ.kept hS.2.1).narrow hf9).moved hW.alike, hN.warm hW⟩⟩ rfl rfl hl.1 rfl (lv_room (Nat.le_of_ble_eq_true rfl)) dX9_leastReference_60 ⟨(Nat.zero_le _), (Nat.zero_le _)⟩) hS (fun q _ h => hf9 q h) hf9 (fun r u t H locs ht hvm hw hB hz1 hk1 hS => ?_)
    obtain ⟨hP, hK9, hD9⟩ := hB
    rw [ht] at hP
    try dsimp only at hw
    subst hw
    have hD := hD9.weaken (fun _ q _ h => hf9 q.1 h)
    refine lv_istore (lv' := [(6, .int y7.2), (5, .int y6.2), (4, .int y4.2), (3, .int y2.1), (0, .ref (ad a)), (1, .int p0), (2, .int p1)]) hx hb dX9_leastReference_63 hl (by decide) rfl (fun ls hl => ?_)
    refine lv_iload hx hb dX9_leastReference_65 (lv_at hl 2 rfl) ?_
    obtain ⟨y8, hy8, hF⟩ := bnd_some hF
    have J8 : ∀ (H : Heap) (locs : List Loc) (ls : Array Slot), va_P D classes (wld ct ad G y7.1) H → va_D A (wld ct ad G y7.1) → va_S A s.heap H locs → lv_has ls 8 [(6, .int y7.2), (5, .int y6.2), (4, .int y4.2), (3, .int y2.1), (0, .ref (ad a)), (1, .int p0), (2, .int p1)] → W p l e (headSpec wsX9_leastReference ({ frames := 1, cells := 0, slots := 0, locals := 28 })).room s m ([.ref (ad a), .int p0, .int p1] : List Value).toArray below meth c H locs 0 0 (MQ below (va_Qi (fun (q : Int32) (_ : Unit) => q = y.2) (fun _ t => kE D ct ad G A y.1 t) A) ([.ref (ad a), .int p0, .int p1] : List Value).toArray s 0 0 A) (F0 m 89 ls [.int y8]) := by
      intro H locs ls hP hD hS hl
      refine lv_istore (lv' := [(7, .int y8), (6, .int y7.2), (5, .int y6.2), (4, .int y4.2), (3, .int y2.1), (0, .ref (ad a)), (1, .int p0), (2, .int p1)]) hx hb dX9_leastReference_89 hl (by decide) rfl (fun ls hl => ?_)
      refine lv_iload hx hb dX9_leastReference_91 (lv_at hl 0 rfl) ?_
      obtain ⟨y9, hy9, hF⟩ := bnd_some hF
      have J9 : ∀ (H : Heap) (locs : List Loc) (ls : Array Slot), va_P D classes (wld ct ad G y7.1) H → va_D A (wld ct ad G y7.1) → va_S A s.heap H locs → lv_has ls 8 [(7, .int y8), (6, .int y7.2), (5, .int y6.2), (4, .int y4.2), (3, .int y2.1), (0, .ref (ad a)), (1, .int p0), (2, .int p1)] → W p l e (headSpec wsX9_leastReference ({ frames := 1, cells := 0, slots := 0, locals := 28 })).room s m ([.ref (ad a), .int p0, .int p1] : List Value).toArray below meth c H locs 0 0 (MQ below (va_Qi (fun (q : Int32) (_ : Unit) => q = y.2) (fun _ t => kE D ct ad G A y.1 t) A) ([.ref (ad a), .int p0, .int p1] : List Value).toArray s 0 0 A) (F0 m 115 ls [.int y9]) := by
        intro H locs ls hP hD hS hl
        obtain rfl := Option.some.inj hF
        exact W.iret (v := y9) hx hb hr (fun t ht hW => ⟨⟨_, (), rfl, rfl, ⟨by rw [ht]; exact hP, va_K.moved hW.alike hK, hD⟩⟩, hS.F ht⟩) hS.2.2 dX9_leastReference_115
      clear hF
      have hF := hy9
      clear hy9
      refine lv_if_lt (tgt := 108) hx hb dX9_leastReference_93 (by decide) (fun c10 => ?_) (fun c10 => ?_)
      · rw [if_pos c10] at hF
        refine lv_iload hx hb dX9_leastReference_108 (lv_at hl 1 rfl) ?_
        refine lv_goto (tgt := 115) hx hb dX9_leastReference_110 (by decide) ?_
        obtain rfl := Option.some.inj hF
        exact J9 _ _ _ hP hD hS (lv_sub hl [0, 1, 2, 3, 4, 5, 6, 7] rfl)
      · rw [if_neg c10] at hF
        refine lv_iload hx hb dX9_leastReference_96 (lv_at hl 1 rfl) ?_
        obtain ⟨y11, hy11, hF⟩ := bnd_some hF
        have J11 : ∀ (H : Heap) (locs : List Loc) (ls : Array Slot), va_P D classes (wld ct ad G y7.1) H → va_D A (wld ct ad G y7.1) → va_S A s.heap H locs → lv_has ls 8 [(7, .int y8), (6, .int y7.2), (5, .int y6.2), (4, .int y4.2), (3, .int y2.1), (0, .ref (ad a)), (1, .int p0), (2, .int p1)] → W p l e (headSpec wsX9_leastReference ({ frames := 1, cells := 0, slots := 0, locals := 28 })).room s m ([.ref (ad a), .int p0, .int p1] : List Value).toArray below meth c H locs 0 0 (MQ below (va_Qi (fun (q : Int32) (_ : Unit) => q = y.2) (fun _ t => kE D ct ad G A y.1 t) A) ([.ref (ad a), .int p0, .int p1] : List Value).toArray s 0 0 A) (F0 m 115 ls [.int y11]) := by
          intro H locs ls hP hD hS hl
          obtain rfl := Option.some.inj hF
          exact J9 _ _ _ hP hD hS (lv_sub hl [0, 1, 2, 3, 4, 5, 6, 7] rfl)
        clear hF
        have hF := hy11
        clear hy11
        refine lv_if_lt (tgt := 113) hx hb dX9_leastReference_98 (by decide) (fun c12 => ?_) (fun c12 => ?_)
        · rw [if_pos c12] at hF
          refine lv_iload hx hb dX9_leastReference_113 (lv_at hl 0 rfl) ?_
          obtain rfl := Option.some.inj hF
          exact J11 _ _ _ hP hD hS (lv_sub hl [0, 1, 2, 3, 4, 5, 6, 7] rfl)
        · rw [if_neg c12] at hF
          refine lv_iload hx hb dX9_leastReference_101 (lv_at hl 1 rfl) ?_
          refine lv_iload hx hb dX9_leastReference_103 (lv_at hl 0 rfl) ?_
          obtain ⟨y13, hy13, hF⟩ := bnd_some hF
          have J13 : ∀ (H : Heap) (locs : List Loc) (ls : Array Slot), va_P D classes (wld ct ad G y7.1) H → va_D A (wld ct ad G y7.1) → va_S A s.heap H locs → lv_has ls 8 [(7, .int y8), (6, .int y7.2), (5, .int y6.2), (4, .int y4.2), (3, .int y2.1), (0, .ref (ad a)), (1, .int p0), (2, .int p1)] → W p l e (headSpec wsX9_leastReference ({ frames := 1, cells := 0, slots := 0, locals := 28 })).room s m ([.ref (ad a), .int p0, .int p1] : List Value).toArray below meth c H locs 0 0 (MQ below (va_Qi (fun (q : Int32) (_ : Unit) => q = y.2) (fun _ t => kE D ct ad G A y.1 t) A) ([.ref (ad a), .int p0, .int p1] : List Value).toArray s 0 0 A) (F0 m 115 ls [.int y13]) := by
            intro H locs ls hP hD hS hl
            obtain rfl := Option.some.inj hF
            exact J11 _ _ _ hP hD hS (lv_sub hl [0, 1, 2, 3, 4, 5, 6, 7] rfl)
          clear hF
          have hF := hy13
          clear hy13
          refine lv_icmp_ge (tgt := 113) hx hb dX9_leastReference_105 (by decide) (fun c14 => ?_) (fun c14 => ?_)
          · rw [if_pos c14] at hF
            refine lv_iload hx hb dX9_leastReference_113 (lv_at hl 0 rfl) ?_
            obtain rfl := Option.some.inj hF
            exact J13 _ _ _ hP hD hS (lv_sub hl [0, 1, 2, 3, 4, 5, 6, 7] rfl)
          · rw [if_neg c14] at hF
            refine lv_iload hx hb dX9_leastReference_108 (lv_at hl 1 rfl) ?_
            refine lv_goto (tgt := 115) hx hb dX9_leastReference_110 (by decide) ?_
            obtain rfl := Option.some.inj hF
            exact J13 _ _ _ hP hD hS (lv_sub hl [0, 1, 2, 3, 4, 5, 6, 7] rfl)
    clear hF
    have hF := hy8
    clear hy8
    refine lv_if_lt (tgt := 82) hx hb dX9_leastReference_67 (by decide) (fun c15 => ?_) (fun c15 => ?_)
    · rw [if_pos c15] at hF
      refine lv_iload hx hb dX9_leastReference_82 (lv_at hl 1 rfl) ?_
      refine lv_goto (tgt := 89) hx hb dX9_leastReference_84 (by decide) ?_
      obtain rfl := Option.some.inj hF
      exact J8 _ _ _ hP hD hS (lv_sub hl [0, 1, 2, 3, 4, 5, 6] rfl)
    · rw [if_neg c15] at hF
      refine lv_iload hx hb dX9_leastReference_70 (lv_at hl 1 rfl) ?_
      obtain ⟨y16, hy16, hF⟩ := bnd_some hF
      have J16 : ∀ (H : Heap) (locs : List Loc) (ls : Array Slot), va_P D classes (wld ct ad G y7.1) H → va_D A (wld ct ad G y7.1) → va_S A s.heap H locs → lv_has ls 8 [(6, .int y7.2), (5, .int y6.2), (4, .int y4.2), (3, .int y2.1), (0, .ref (ad a)), (1, .int p0), (2, .int p1)] → W p l e (headSpec wsX9_leastReference ({ frames := 1, cells := 0, slots := 0, locals := 28 })).room s m ([.ref (ad a), .int p0, .int p1] : List Value).toArray below meth c H locs 0 0 (MQ below (va_Qi (fun (q : Int32) (_ : Unit) => q = y.2) (fun _ t => kE D ct ad G A y.1 t) A) ([.ref (ad a), .int p0, .int p1] : List Value).toArray s 0 0 A) (F0 m 89 ls [.int y16]) := by
        intro H locs ls hP hD hS hl
        obtain rfl := Option.some.inj hF
        exact J8 _ _ _ hP hD hS (lv_sub hl [0, 1, 2, 3, 4, 5, 6] rfl)
      clear hF
      have hF := hy16
      clear hy16
      refine lv_if_lt (tgt := 87) hx hb dX9_leastReference_72 (by decide) (fun c17 => ?_) (fun c17 => ?_)
      · rw [if_pos c17] at hF
        refine lv_iload hx hb dX9_leastReference_87 (lv_at hl 2 rfl) ?_
        obtain rfl := Option.some.inj hF
        exact J16 _ _ _ hP hD hS (lv_sub hl [0, 1, 2, 3, 4, 5, 6] rfl)
      · rw [if_neg c17] at hF
        refine lv_iload hx hb dX9_leastReference_75 (lv_at hl 1 rfl) ?_
        refine lv_iload hx hb dX9_leastReference_77 (lv_at hl 2 rfl) ?_
        obtain ⟨y18, hy18, hF⟩ := bnd_some hF
        have J18 : ∀ (H : Heap) (locs : List Loc) (ls : Array Slot), va_P D classes (wld ct ad G y7.1) H → va_D A (wld ct ad G y7.1) → va_S A s.heap H locs → lv_has ls 8 [(6, .int y7.2), (5, .int y6.2), (4, .int y4.2), (3, .int y2.1), (0, .ref (ad a)), (1, .int p0), (2, .int p1)] → W p l e (headSpec wsX9_leastReference ({ frames := 1, cells := 0, slots := 0, locals := 28 })).room s m ([.ref (ad a), .int p0, .int p1] : List Value).toArray below meth c H locs 0 0 (MQ below (va_Qi (fun (q : Int32) (_ : Unit) => q = y.2) (fun _ t => kE D ct ad G A y.1 t) A) ([.ref (ad a), .int p0, .int p1] : List Value).toArray s 0 0 A) (F0 m 89 ls [.int y18]) := by
          intro H locs ls hP hD hS hl
          obtain rfl := Option.some.inj hF
          exact J16 _ _ _ hP hD hS (lv_sub hl [0, 1, 2, 3, 4, 5, 6] rfl)
        clear hF
        have hF := hy18
        clear hy18
        refine lv_icmp_ge (tgt := 87) hx hb dX9_leastReference_79 (by decide) (fun c19 => ?_) (fun c19 => ?_)
        · rw [if_pos c19] at hF
          refine lv_iload hx hb dX9_leastReference_87 (lv_at hl 2 rfl) ?_
          obtain rfl := Option.some.inj hF
          exact J18 _ _ _ hP hD hS (lv_sub hl [0, 1, 2, 3, 4, 5, 6] rfl)
        · rw [if_neg c19] at hF
          refine lv_iload hx hb dX9_leastReference_82 (lv_at hl 1 rfl) ?_
          refine lv_goto (tgt := 89) hx hb dX9_leastReference_84 (by decide) ?_
          obtain rfl := Option.some.inj hF
          exact J18 _ _ _ hP hD hS (lv_sub hl [0, 1, 2, 3, 4, 5, 6] rfl)
  clear hF
  have hF := hy2
  clear hy2
  refine lv_if_ge (tgt := 25) hx hb dX9_leastReference_11 (by decide) (fun c20 => ?_) (fun c20 => ?_)
  · rw [if_pos c20] at hF
    refine lv_iload_n hx hb dX9_leastReference_25 rfl (lv_at hl 0 rfl) ?_
    obtain rfl := Option.some.inj hF
    exact J2 _ _ _ hP hD hS (lv_sub hl [0, 1, 2, 3] rfl)
  · rw [if_neg c20] at hF
    refine lv_aload_n hx hb dX9_leastReference_14 rfl (lv_at hl 1 rfl) ?_
    refine lv_iload_n hx hb dX9_leastReference_15 rfl (lv_at hl 2 rfl) ?_
    refine lv_iconst (v := (-1 : Int32)) hx hb dX9_leastReference_16 (by decide) ?_
    refine lv_iconst (v := (-1 : Int32)) hx hb dX9_leastReference_17 (by decide) ?_
    refine lv_iconst (v := (0 : Int32)) hx hb dX9_leastReference_18 (by decide) ?_
    obtain ⟨y21, hy21, hF⟩ := bnd_some hF
    have hf9 := wA_in hD hA9 hS
    refine va_calli (va_runV (As := [.int p0, .int (-1 : Int32), .int (-1 : Int32), .int (0 : Int32)]) (rest := []) ⟨hx, hb, hml, hown, hts⟩ (kX9_pieceAt l D ct ad Z G y1.1 H.size a p0 ((-1 : Int32)) ((-1 : Int32)) ((0 : Int32)) y21 hc hk hy21) (cwV 4 hts gX9_leastReference_X9_pieceAt rfl rfl rfl (by decide +kernel) ⟨Nat.le_of_ble_eq_true rfl, Nat.le_of_ble_eq_true rfl⟩) ⟨fun a U g mk q => by obtain ⟨q0, q1, qP, qK, qD, qZ, qN⟩ := q; exact ⟨q0, q1, qP, va_K.moved (u := U) (U := U.calling g mk a) (Vm.Alike.refl U.vm) qK, qD, sF.moved (u := U) (U := U.calling g mk a) (Vm.Alike.refl U.vm) qZ, nF.same rfl qN⟩, va_recv hK hP (ci := 9) (q0 := a) rfl (wld_o ct ad G y1.1 hc hk (by decide)), fun U hU hW => ⟨rfl, by rw [hU], by rw [hU]; exact hP, va_K.moved hW.alike hK, hD.weaken (fun _ _ _ _ => trivial), by rw [hU]; exact ((hZ.kept hS.2.1).narrow hf9).moved hW.alike, hN.warm hW⟩⟩ rfl rfl hl.1 rfl (lv_room (Nat.le_of_ble_eq_true rfl)) dX9_leastReference_19 ⟨(Nat.zero_le _), (Nat.zero_le _)⟩) hS (fun q _ h => hf9 q h) hf9 (fun r u t H locs ht hvm hw hB hz1 hk1 hS => ?_)
    obtain ⟨hP, hK9, hD9⟩ := hB
    rw [ht] at hP
    try dsimp only at hw
    subst hw
    have hD := hD9.weaken (fun _ q _ h => hf9 q.1 h)
    refine lv_goto (tgt := 26) hx hb dX9_leastReference_22 (by decide) ?_
    obtain rfl := Option.some.inj hF
    exact J2 _ _ _ hP hD hS (lv_sub hl [0, 1, 2, 3] rfl)
theorem ggX9_plan_X9_addGroup : GoodIn wsX9_plan wsX9_addGroup := goodIn_r _ [15, 2, 16, 22, 23, 24, 25, 26, 27, 28, 29, 30, 31, 32, 33, 34, 35, 36, 37, 38, 39, 40, 41] (by decide +kernel) (by decide +kernel)
set_option maxRecDepth 20000 in
theorem gX9_plan_X9_addGroup : GoodIn wsX9_plan (wsV RX9 148 RX9 yX9_addGroup wsX9_addGroup) := goodIn_app (goodIn_of _ (by decide +kernel)) ggX9_plan_X9_addGroup
set_option maxRecDepth 20000 in
theorem ggX9_plan_X9_addPart : GoodIn wsX9_plan wsX9_addPart := goodIn_r _ [20, 1, 21, 16, 2, 22, 23, 24, 25, 26, 27, 28, 29, 30, 31, 32, 33, 34, 35, 36, 37, 38, 39, 40, 41] (by decide +kernel) (by decide +kernel)
set_option maxRecDepth 20000 in
theorem gX9_plan_X9_addPart : GoodIn wsX9_plan (wsV RX9 152 RX9 yX9_addPart wsX9_addPart) := goodIn_app (goodIn_of _ (by decide +kernel)) ggX9_plan_X9_addPart
theorem ggX9_plan_X9_planQuarter : GoodIn wsX9_plan wsX9_planQuarter := goodIn_r _ [8, 9, 10, 11, 12, 13, 14, 7, 15, 2, 16, 17, 18, 19, 20, 1, 21, 22, 23, 24, 25, 26, 27, 28, 29, 30, 31, 32, 33, 34, 35, 36, 37, 38, 39, 40, 41] (by decide +kernel) (by decide +kernel)
set_option maxRecDepth 20000 in
theorem gX9_plan_X9_planQuarter : GoodIn wsX9_plan (wsV RX9 141 RX9 yX9_planQuarter wsX9_planQuarter) := goodIn_app (goodIn_of _ (by decide +kernel)) ggX9_plan_X9_planQuarter
set_option maxRecDepth 20000 in
theorem dX9_plan_0 : decode cX9_plan 0 = .ok (.aload_n 0, 1) := by decide +kernel
theorem dX9_plan_1 : decode cX9_plan 1 = .ok (.iconst 0, 1) := by decide +kernel
theorem dX9_plan_2 : decode cX9_plan 2 = .ok (.putfield 135, 3) := by decide +kernel
theorem dX9_plan_5 : decode cX9_plan 5 = .ok (.aload_n 0, 1) := by decide +kernel
theorem dX9_plan_6 : decode cX9_plan 6 = .ok (.iconst 0, 1) := by decide +kernel
theorem dX9_plan_7 : decode cX9_plan 7 = .ok (.putfield 138, 3) := by decide +kernel
theorem dX9_plan_10 : decode cX9_plan 10 = .ok (.iload_n 1, 1) := by decide +kernel
theorem dX9_plan_11 : decode cX9_plan 11 = .ok (.ifCond .ne 11, 3) := by decide +kernel
theorem dX9_plan_14 : decode cX9_plan 14 = .ok (.iload_n 2, 1) := by decide +kernel
theorem dX9_plan_15 : decode cX9_plan 15 = .ok (.iconst 2, 1) := by decide +kernel
theorem dX9_plan_16 : decode cX9_plan 16 = .ok (.if_icmp .le 32, 3) := by decide +kernel
theorem dX9_plan_19 : decode cX9_plan 19 = .ok (.goto 9, 3) := by decide +kernel
theorem dX9_plan_22 : decode cX9_plan 22 = .ok (.iload_n 2, 1) := by decide +kernel
theorem dX9_plan_23 : decode cX9_plan 23 = .ok (.bipush 22, 2) := by decide +kernel
theorem dX9_plan_25 : decode cX9_plan 25 = .ok (.if_icmp .ne 23, 3) := by decide +kernel
theorem dX9_plan_28 : decode cX9_plan 28 = .ok (.iconst 0, 1) := by decide +kernel
theorem dX9_plan_29 : decode cX9_plan 29 = .ok (.istore_n 3, 1) := by decide +kernel
theorem dX9_plan_30 : decode cX9_plan 30 = .ok (.iload_n 3, 1) := by decide +kernel
theorem dX9_plan_31 : decode cX9_plan 31 = .ok (.iconst 4, 1) := by decide +kernel
theorem dX9_plan_32 : decode cX9_plan 32 = .ok (.if_icmp .ge 15, 3) := by decide +kernel
theorem dX9_plan_35 : decode cX9_plan 35 = .ok (.aload_n 0, 1) := by decide +kernel
theorem dX9_plan_36 : decode cX9_plan 36 = .ok (.iload_n 1, 1) := by decide +kernel
theorem dX9_plan_37 : decode cX9_plan 37 = .ok (.iload_n 3, 1) := by decide +kernel
theorem dX9_plan_38 : decode cX9_plan 38 = .ok (.invokevirtual 141, 3) := by decide +kernel
theorem dX9_plan_41 : decode cX9_plan 41 = .ok (.iinc 3 1, 3) := by decide +kernel
theorem dX9_plan_44 : decode cX9_plan 44 = .ok (.goto (-14), 3) := by decide +kernel
theorem dX9_plan_47 : decode cX9_plan 47 = .ok (.return_, 1) := by decide +kernel
theorem dX9_plan_48 : decode cX9_plan 48 = .ok (.iload_n 1, 1) := by decide +kernel
theorem dX9_plan_49 : decode cX9_plan 49 = .ok (.ifCond .ne 7, 3) := by decide +kernel
theorem dX9_plan_52 : decode cX9_plan 52 = .ok (.iload_n 2, 1) := by decide +kernel
theorem dX9_plan_53 : decode cX9_plan 53 = .ok (.goto 17, 3) := by decide +kernel
theorem dX9_plan_56 : decode cX9_plan 56 = .ok (.iload_n 2, 1) := by decide +kernel
theorem dX9_plan_57 : decode cX9_plan 57 = .ok (.iconst 4, 1) := by decide +kernel
theorem dX9_plan_58 : decode cX9_plan 58 = .ok (.if_icmp .ge 7, 3) := by decide +kernel
theorem dX9_plan_61 : decode cX9_plan 61 = .ok (.iconst 0, 1) := by decide +kernel
theorem dX9_plan_62 : decode cX9_plan 62 = .ok (.goto 8, 3) := by decide +kernel
theorem dX9_plan_65 : decode cX9_plan 65 = .ok (.iconst 1, 1) := by decide +kernel
theorem dX9_plan_66 : decode cX9_plan 66 = .ok (.iload_n 2, 1) := by decide +kernel
theorem dX9_plan_67 : decode cX9_plan 67 = .ok (.iconst 2, 1) := by decide +kernel
theorem dX9_plan_68 : decode cX9_plan 68 = .ok (.irem, 1) := by decide +kernel
theorem dX9_plan_69 : decode cX9_plan 69 = .ok (.iadd, 1) := by decide +kernel
theorem dX9_plan_70 : decode cX9_plan 70 = .ok (.istore_n 3, 1) := by decide +kernel
theorem dX9_plan_71 : decode cX9_plan 71 = .ok (.iload_n 2, 1) := by decide +kernel
theorem dX9_plan_72 : decode cX9_plan 72 = .ok (.iconst 4, 1) := by decide +kernel
theorem dX9_plan_73 : decode cX9_plan 73 = .ok (.isub, 1) := by decide +kernel
theorem dX9_plan_74 : decode cX9_plan 74 = .ok (.bipush (-2), 2) := by decide +kernel
theorem dX9_plan_76 : decode cX9_plan 76 = .ok (.iand, 1) := by decide +kernel
theorem dX9_plan_77 : decode cX9_plan 77 = .ok (.istore 4, 2) := by decide +kernel
theorem dX9_plan_79 : decode cX9_plan 79 = .ok (.iload_n 1, 1) := by decide +kernel
theorem dX9_plan_80 : decode cX9_plan 80 = .ok (.ifCond .ne 7, 3) := by decide +kernel
theorem dX9_plan_83 : decode cX9_plan 83 = .ok (.iconst 1, 1) := by decide +kernel
theorem dX9_plan_84 : decode cX9_plan 84 = .ok (.goto 18, 3) := by decide +kernel
theorem dX9_plan_87 : decode cX9_plan 87 = .ok (.iload_n 2, 1) := by decide +kernel
theorem dX9_plan_88 : decode cX9_plan 88 = .ok (.iconst 4, 1) := by decide +kernel
theorem dX9_plan_89 : decode cX9_plan 89 = .ok (.if_icmp .ge 7, 3) := by decide +kernel
theorem dX9_plan_92 : decode cX9_plan 92 = .ok (.iload_n 2, 1) := by decide +kernel
theorem dX9_plan_93 : decode cX9_plan 93 = .ok (.goto 9, 3) := by decide +kernel
theorem dX9_plan_96 : decode cX9_plan 96 = .ok (.getstatic 145, 3) := by decide +kernel
theorem dX9_plan_99 : decode cX9_plan 99 = .ok (.iload 4, 2) := by decide +kernel
theorem dX9_plan_101 : decode cX9_plan 101 = .ok (.iaload, 1) := by decide +kernel
theorem dX9_plan_102 : decode cX9_plan 102 = .ok (.istore 5, 2) := by decide +kernel
theorem dX9_plan_104 : decode cX9_plan 104 = .ok (.iload_n 1, 1) := by decide +kernel
theorem dX9_plan_105 : decode cX9_plan 105 = .ok (.ifCond .eq 8, 3) := by decide +kernel
theorem dX9_plan_108 : decode cX9_plan 108 = .ok (.iload_n 2, 1) := by decide +kernel
theorem dX9_plan_109 : decode cX9_plan 109 = .ok (.iconst 4, 1) := by decide +kernel
theorem dX9_plan_110 : decode cX9_plan 110 = .ok (.if_icmp .ge 8, 3) := by decide +kernel
theorem dX9_plan_113 : decode cX9_plan 113 = .ok (.iload 5, 2) := by decide +kernel
theorem dX9_plan_115 : decode cX9_plan 115 = .ok (.goto 11, 3) := by decide +kernel
theorem dX9_plan_118 : decode cX9_plan 118 = .ok (.getstatic 145, 3) := by decide +kernel
theorem dX9_plan_121 : decode cX9_plan 121 = .ok (.iload 4, 2) := by decide +kernel
theorem dX9_plan_123 : decode cX9_plan 123 = .ok (.iconst 1, 1) := by decide +kernel
theorem dX9_plan_124 : decode cX9_plan 124 = .ok (.iadd, 1) := by decide +kernel
theorem dX9_plan_125 : decode cX9_plan 125 = .ok (.iaload, 1) := by decide +kernel
theorem dX9_plan_126 : decode cX9_plan 126 = .ok (.istore 6, 2) := by decide +kernel
theorem dX9_plan_128 : decode cX9_plan 128 = .ok (.iload_n 3, 1) := by decide +kernel
theorem dX9_plan_129 : decode cX9_plan 129 = .ok (.ifCond .ne 27, 3) := by decide +kernel
theorem dX9_plan_132 : decode cX9_plan 132 = .ok (.aload_n 0, 1) := by decide +kernel
theorem dX9_plan_133 : decode cX9_plan 133 = .ok (.iconst 0, 1) := by decide +kernel
theorem dX9_plan_134 : decode cX9_plan 134 = .ok (.bipush 16, 2) := by decide +kernel
theorem dX9_plan_136 : decode cX9_plan 136 = .ok (.bipush 16, 2) := by decide +kernel
theorem dX9_plan_138 : decode cX9_plan 138 = .ok (.iload 5, 2) := by decide +kernel
theorem dX9_plan_140 : decode cX9_plan 140 = .ok (.invokevirtual 148, 3) := by decide +kernel
theorem dX9_plan_143 : decode cX9_plan 143 = .ok (.aload_n 0, 1) := by decide +kernel
theorem dX9_plan_144 : decode cX9_plan 144 = .ok (.iconst 0, 1) := by decide +kernel
theorem dX9_plan_145 : decode cX9_plan 145 = .ok (.bipush 16, 2) := by decide +kernel
theorem dX9_plan_147 : decode cX9_plan 147 = .ok (.bipush 16, 2) := by decide +kernel
theorem dX9_plan_149 : decode cX9_plan 149 = .ok (.iconst 0, 1) := by decide +kernel
theorem dX9_plan_150 : decode cX9_plan 150 = .ok (.invokevirtual 152, 3) := by decide +kernel
theorem dX9_plan_153 : decode cX9_plan 153 = .ok (.goto 97, 3) := by decide +kernel
theorem dX9_plan_156 : decode cX9_plan 156 = .ok (.iload_n 3, 1) := by decide +kernel
theorem dX9_plan_157 : decode cX9_plan 157 = .ok (.iconst 1, 1) := by decide +kernel
theorem dX9_plan_158 : decode cX9_plan 158 = .ok (.if_icmp .ne 50, 3) := by decide +kernel
theorem dX9_plan_161 : decode cX9_plan 161 = .ok (.aload_n 0, 1) := by decide +kernel
theorem dX9_plan_162 : decode cX9_plan 162 = .ok (.iconst 0, 1) := by decide +kernel
theorem dX9_plan_163 : decode cX9_plan 163 = .ok (.bipush 16, 2) := by decide +kernel
theorem dX9_plan_165 : decode cX9_plan 165 = .ok (.bipush 8, 2) := by decide +kernel
theorem dX9_plan_167 : decode cX9_plan 167 = .ok (.iload 5, 2) := by decide +kernel
theorem dX9_plan_169 : decode cX9_plan 169 = .ok (.invokevirtual 148, 3) := by decide +kernel
theorem dX9_plan_172 : decode cX9_plan 172 = .ok (.aload_n 0, 1) := by decide +kernel
theorem dX9_plan_173 : decode cX9_plan 173 = .ok (.iconst 0, 1) := by decide +kernel
theorem dX9_plan_174 : decode cX9_plan 174 = .ok (.bipush 16, 2) := by decide +kernel
theorem dX9_plan_176 : decode cX9_plan 176 = .ok (.bipush 8, 2) := by decide +kernel
theorem dX9_plan_178 : decode cX9_plan 178 = .ok (.iconst 1, 1) := by decide +kernel
theorem dX9_plan_179 : decode cX9_plan 179 = .ok (.invokevirtual 152, 3) := by decide +kernel
theorem dX9_plan_182 : decode cX9_plan 182 = .ok (.aload_n 0, 1) := by decide +kernel
theorem dX9_plan_183 : decode cX9_plan 183 = .ok (.bipush 8, 2) := by decide +kernel
theorem dX9_plan_185 : decode cX9_plan 185 = .ok (.bipush 16, 2) := by decide +kernel
theorem dX9_plan_187 : decode cX9_plan 187 = .ok (.bipush 8, 2) := by decide +kernel
theorem dX9_plan_189 : decode cX9_plan 189 = .ok (.iload 6, 2) := by decide +kernel
theorem dX9_plan_191 : decode cX9_plan 191 = .ok (.invokevirtual 148, 3) := by decide +kernel
theorem dX9_plan_194 : decode cX9_plan 194 = .ok (.aload_n 0, 1) := by decide +kernel
theorem dX9_plan_195 : decode cX9_plan 195 = .ok (.bipush 8, 2) := by decide +kernel
theorem dX9_plan_197 : decode cX9_plan 197 = .ok (.bipush 16, 2) := by decide +kernel
theorem dX9_plan_199 : decode cX9_plan 199 = .ok (.bipush 8, 2) := by decide +kernel
theorem dX9_plan_201 : decode cX9_plan 201 = .ok (.iconst 2, 1) := by decide +kernel
theorem dX9_plan_202 : decode cX9_plan 202 = .ok (.invokevirtual 152, 3) := by decide +kernel
theorem dX9_plan_205 : decode cX9_plan 205 = .ok (.goto 45, 3) := by decide +kernel
theorem dX9_plan_208 : decode cX9_plan 208 = .ok (.aload_n 0, 1) := by decide +kernel
theorem dX9_plan_209 : decode cX9_plan 209 = .ok (.iconst 0, 1) := by decide +kernel
theorem dX9_plan_210 : decode cX9_plan 210 = .ok (.bipush 8, 2) := by decide +kernel
theorem dX9_plan_212 : decode cX9_plan 212 = .ok (.bipush 16, 2) := by decide +kernel
theorem dX9_plan_214 : decode cX9_plan 214 = .ok (.iload 5, 2) := by decide +kernel
theorem dX9_plan_216 : decode cX9_plan 216 = .ok (.invokevirtual 148, 3) := by decide +kernel
theorem dX9_plan_219 : decode cX9_plan 219 = .ok (.aload_n 0, 1) := by decide +kernel
theorem dX9_plan_220 : decode cX9_plan 220 = .ok (.iconst 0, 1) := by decide +kernel
theorem dX9_plan_221 : decode cX9_plan 221 = .ok (.bipush 8, 2) := by decide +kernel
theorem dX9_plan_223 : decode cX9_plan 223 = .ok (.bipush 16, 2) := by decide +kernel
theorem dX9_plan_225 : decode cX9_plan 225 = .ok (.iconst 3, 1) := by decide +kernel
theorem dX9_plan_226 : decode cX9_plan 226 = .ok (.invokevirtual 152, 3) := by decide +kernel
theorem dX9_plan_229 : decode cX9_plan 229 = .ok (.aload_n 0, 1) := by decide +kernel
theorem dX9_plan_230 : decode cX9_plan 230 = .ok (.iconst 4, 1) := by decide +kernel
theorem dX9_plan_231 : decode cX9_plan 231 = .ok (.bipush 8, 2) := by decide +kernel
theorem dX9_plan_233 : decode cX9_plan 233 = .ok (.bipush 16, 2) := by decide +kernel
theorem dX9_plan_235 : decode cX9_plan 235 = .ok (.iload 6, 2) := by decide +kernel
theorem dX9_plan_237 : decode cX9_plan 237 = .ok (.invokevirtual 148, 3) := by decide +kernel
theorem dX9_plan_240 : decode cX9_plan 240 = .ok (.aload_n 0, 1) := by decide +kernel
theorem dX9_plan_241 : decode cX9_plan 241 = .ok (.iconst 4, 1) := by decide +kernel
theorem dX9_plan_242 : decode cX9_plan 242 = .ok (.bipush 8, 2) := by decide +kernel
theorem dX9_plan_244 : decode cX9_plan 244 = .ok (.bipush 16, 2) := by decide +kernel
theorem dX9_plan_246 : decode cX9_plan 246 = .ok (.iconst 4, 1) := by decide +kernel
theorem dX9_plan_247 : decode cX9_plan 247 = .ok (.invokevirtual 152, 3) := by decide +kernel
theorem dX9_plan_250 : decode cX9_plan 250 = .ok (.return_, 1) := by decide +kernel
def FX9_plan (G : GG) (M : DD) (a : Nat) (p0 : Int32) (p1 : Int32) : Option (DD) :=
  ltt (uI M a 14 ((0 : Int32))) fun M1 =>
  ltt (uI M1 a 16 ((0 : Int32))) fun M2 =>
  if p0 = ((0 : Int32)) then (if p1 ≤ ((2 : Int32)) then (bnd (if p0 = ((0 : Int32)) then (some (p1)) else
  (bnd (if ((4 : Int32)) ≤ p1 then (ltt (p1 - p1 / ((2 : Int32)) * ((2 : Int32))) fun x77 =>
  ltt ((((1 : Int32)) + x77)) fun x78 =>
  some (x78)) else
  (some ((0 : Int32)))) fun (y75 : Int32) =>
  some (y75))) fun (y46 : Int32) =>
  ltt ((p1 - ((4 : Int32)))) fun x47 =>
  ltt ((x47 &&& ((-2 : Int32)))) fun x48 =>
  bnd (if p0 = ((0 : Int32)) then (some ((1 : Int32))) else
  (bnd (if ((4 : Int32)) ≤ p1 then (chk (¬ (x48 < 0 ∨ 18 ≤ x48.toNatClampNeg)) <|
  ltt ((sT 16).getD x48.toNatClampNeg 0) fun x73 =>
  some (x73)) else
  (some (p1))) fun (y71 : Int32) =>
  some (y71))) fun (y49 : Int32) =>
  bnd (if p0 = ((0 : Int32)) then (some (y49)) else
  (bnd (if ((4 : Int32)) ≤ p1 then (ltt ((x48 + ((1 : Int32)))) fun x68 =>
  chk (¬ (x68 < 0 ∨ 18 ≤ x68.toNatClampNeg)) <|
  ltt ((sT 16).getD x68.toNatClampNeg 0) fun x69 =>
  some (x69)) else
  (some (y49))) fun (y66 : Int32) =>
  some (y66))) fun (y50 : Int32) =>
  bnd (if y46 = ((0 : Int32)) then (bnd (FX9_addGroup G M2 a ((0 : Int32)) ((16 : Int32)) ((16 : Int32)) y49) fun y63 =>
  bnd (FX9_addPart G y63 a ((0 : Int32)) ((16 : Int32)) ((16 : Int32)) ((0 : Int32))) fun y64 =>
  some (y64)) else
  (bnd (if y46 = ((1 : Int32)) then (bnd (FX9_addGroup G M2 a ((0 : Int32)) ((16 : Int32)) ((8 : Int32)) y49) fun y59 =>
  bnd (FX9_addPart G y59 a ((0 : Int32)) ((16 : Int32)) ((8 : Int32)) ((1 : Int32))) fun y60 =>
  bnd (FX9_addGroup G y60 a ((8 : Int32)) ((16 : Int32)) ((8 : Int32)) y50) fun y61 =>
  bnd (FX9_addPart G y61 a ((8 : Int32)) ((16 : Int32)) ((8 : Int32)) ((2 : Int32))) fun y62 =>
  some (y62)) else
  (bnd (FX9_addGroup G M2 a ((0 : Int32)) ((8 : Int32)) ((16 : Int32)) y49) fun y55 =>
  bnd (FX9_addPart G y55 a ((0 : Int32)) ((8 : Int32)) ((16 : Int32)) ((3 : Int32))) fun y56 =>
  bnd (FX9_addGroup G y56 a ((4 : Int32)) ((8 : Int32)) ((16 : Int32)) y50) fun y57 =>
  bnd (FX9_addPart G y57 a ((4 : Int32)) ((8 : Int32)) ((16 : Int32)) ((4 : Int32))) fun y58 =>
  some (y58))) fun (y53 : DD) =>
  some (y53))) fun (y51 : DD) =>
  some y51) else
  (bnd (itr (fun (s80 : Int32 × DD) => ((if ((4 : Int32)) ≤ s80.1 then (some (.inr (s80.1, s80.2))) else
  (bnd (FX9_planQuarter G s80.2 a p0 s80.1) fun y84 =>
  ltt (s80.1 + (1 : Int32)) fun x85 =>
  some (.inl (x85, y84)))) : Option ((Int32 × DD) ⊕ (Int32 × DD)))) 1000000 ((0 : Int32), M2)) fun (y79 : Int32 × DD) =>
  some y79.2)) else
  (if p1 = ((22 : Int32)) then (bnd (itr (fun (s39 : Int32 × DD) => ((if ((4 : Int32)) ≤ s39.1 then (some (.inr (s39.1, s39.2))) else
  (bnd (FX9_planQuarter G s39.2 a p0 s39.1) fun y43 =>
  ltt (s39.1 + (1 : Int32)) fun x44 =>
  some (.inl (x44, y43)))) : Option ((Int32 × DD) ⊕ (Int32 × DD)))) 1000000 ((0 : Int32), M2)) fun (y38 : Int32 × DD) =>
  some y38.2) else
  (bnd (if p0 = ((0 : Int32)) then (some (p1)) else
  (bnd (if ((4 : Int32)) ≤ p1 then (ltt (p1 - p1 / ((2 : Int32)) * ((2 : Int32))) fun x36 =>
  ltt ((((1 : Int32)) + x36)) fun x37 =>
  some (x37)) else
  (some ((0 : Int32)))) fun (y34 : Int32) =>
  some (y34))) fun (y5 : Int32) =>
  ltt ((p1 - ((4 : Int32)))) fun x6 =>
  ltt ((x6 &&& ((-2 : Int32)))) fun x7 =>
  bnd (if p0 = ((0 : Int32)) then (some ((1 : Int32))) else
  (bnd (if ((4 : Int32)) ≤ p1 then (chk (¬ (x7 < 0 ∨ 18 ≤ x7.toNatClampNeg)) <|
  ltt ((sT 16).getD x7.toNatClampNeg 0) fun x32 =>
  some (x32)) else
  (some (p1))) fun (y30 : Int32) =>
  some (y30))) fun (y8 : Int32) =>
  bnd (if p0 = ((0 : Int32)) then (some (y8)) else
  (bnd (if ((4 : Int32)) ≤ p1 then (ltt ((x7 + ((1 : Int32)))) fun x27 =>
  chk (¬ (x27 < 0 ∨ 18 ≤ x27.toNatClampNeg)) <|
  ltt ((sT 16).getD x27.toNatClampNeg 0) fun x28 =>
  some (x28)) else
  (some (y8))) fun (y25 : Int32) =>
  some (y25))) fun (y9 : Int32) =>
  bnd (if y5 = ((0 : Int32)) then (bnd (FX9_addGroup G M2 a ((0 : Int32)) ((16 : Int32)) ((16 : Int32)) y8) fun y22 =>
  bnd (FX9_addPart G y22 a ((0 : Int32)) ((16 : Int32)) ((16 : Int32)) ((0 : Int32))) fun y23 =>
  some (y23)) else
  (bnd (if y5 = ((1 : Int32)) then (bnd (FX9_addGroup G M2 a ((0 : Int32)) ((16 : Int32)) ((8 : Int32)) y8) fun y18 =>
  bnd (FX9_addPart G y18 a ((0 : Int32)) ((16 : Int32)) ((8 : Int32)) ((1 : Int32))) fun y19 =>
  bnd (FX9_addGroup G y19 a ((8 : Int32)) ((16 : Int32)) ((8 : Int32)) y9) fun y20 =>
  bnd (FX9_addPart G y20 a ((8 : Int32)) ((16 : Int32)) ((8 : Int32)) ((2 : Int32))) fun y21 =>
  some (y21)) else
  (bnd (FX9_addGroup G M2 a ((0 : Int32)) ((8 : Int32)) ((16 : Int32)) y8) fun y14 =>
  bnd (FX9_addPart G y14 a ((0 : Int32)) ((8 : Int32)) ((16 : Int32)) ((3 : Int32))) fun y15 =>
  bnd (FX9_addGroup G y15 a ((4 : Int32)) ((8 : Int32)) ((16 : Int32)) y9) fun y16 =>
  bnd (FX9_addPart G y16 a ((4 : Int32)) ((8 : Int32)) ((16 : Int32)) ((4 : Int32))) fun y17 =>
  some (y17))) fun (y12 : DD) =>
  some (y12))) fun (y10 : DD) =>
  some y10))
set_option maxHeartbeats 4000000 in
set_option maxRecDepth 100000 in
theorem kX9_plan (l : Launch) (D : va_G) (ct : CT) (ad : Nat → Nat) (Z : Nat → Nat) (G : GG) (M : DD) (sz : Nat) (a : Nat) (p0 : Int32) (p1 : Int32) (y : DD) (hc : a < G.1) (hk : G.2.1 a = 9) (hF : FX9_plan G M a p0 p1 = some y) : Met l yX9_plan wsX9_plan ({ frames := 2, cells := 0, slots := 0, locals := 53 }) (va_Pc [.ref (ad a), .int p0, .int p1] (kB D ct ad Z G M sz)) (va_Qv (fun (_ : Unit) => True) (fun _ t => kE D ct ad G (wA ad G sz) y t) (wA ad G sz)) 0 0 (wA ad G sz) := by
  refine Met.ofW (cc := cX9_plan) (maxL := 7) (ret := none) (by decide) rfl ?_
  intro p e s m args below meth c s₁ B hml hv
  obtain ⟨rfl, hsz, hP, hK, hD0, hZ, hN⟩ := hv
  have hx := B.exec
  have hb := B.bytes
  have hr := B.returns
  have hts := atoms_spec (ws := wsX9_plan) B.pre
  have hown : s.vm.findClass RX9 = some m.cls := findClass_of_methodNamed B.named
  have hlocks := B.notSynchronized
  subst hsz
  have hD := wD_self (sz := s.heap.size) hD0
  have hA9 : ∀ q, s.heap.size ≤ q → wA ad G s.heap.size q := fun q h => Or.inr h
  generalize hAe : wA ad G s.heap.size = A at hD hA9 hZ ⊢
  have hS : va_S A s.heap s.heap [] := va_S.rf
  have hl := lv_entry ([.ref (ad a), .int p0, .int p1]) (n := 7) (Nat.le_of_ble_eq_true rfl)
  rw [lg_entry_eq]
  generalize (lg_sl ([.ref (ad a), .int p0, .int p1]) ++ List.replicate (7 - (lg_sl ([.ref (ad a), .int p0, .int p1])).length) Slot.unset).toArray = ls at hl ⊢
  have hl : lv_has ls 7 [(0, .ref (ad a)), (1, .int p0), (2, .int p1)] := hl
  unfold FX9_plan at hF
  refine lv_aload_n hx hb dX9_plan_0 rfl (lv_at hl 0 rfl) ?_
  refine lv_iconst (v := (0 : Int32)) hx hb dX9_plan_1 (by decide) ?_
  refine va_put (D := D) (ci := 9) (v := .int (0 : Int32)) (ty := .int) (C := RX9) (T := TX9) (N := 20) hx hb hts (by decide +kernel) tyX9 tyX9_ok nmX9 hown hK hP hD hS a (wld_o ct ad G M hc hk (by decide)) rfl 14 (by decide) (hts (.fieldLink RX9 135 "VideoSuite$Work" "parts" "I") (by decide +kernel)) (fun _ h9 => h9) rfl (by decide +kernel) rfl rfl (Nat.le_of_ble_eq_true rfl) dX9_plan_2 (fun H locs hP hD hS => ?_)
  obtain ⟨M1, eM1, hF⟩ := ltt_some hF
  rw [set_oI ct ad G M hc hk (by decide) (by rfl), ← eM1] at hP hD
  refine lv_aload_n hx hb dX9_plan_5 rfl (lv_at hl 0 rfl) ?_
  refine lv_iconst (v := (0 : Int32)) hx hb dX9_plan_6 (by decide) ?_
  refine va_put (D := D) (ci := 9) (v := .int (0 : Int32)) (ty := .int) (C := RX9) (T := TX9) (N := 20) hx hb hts (by decide +kernel) tyX9 tyX9_ok nmX9 hown hK hP hD hS a (wld_o ct ad G M1 hc hk (by decide)) rfl 16 (by decide) (hts (.fieldLink RX9 138 "VideoSuite$Work" "groups" "I") (by decide +kernel)) (fun _ h9 => h9) rfl (by decide +kernel) rfl rfl (Nat.le_of_ble_eq_true rfl) dX9_plan_7 (fun H locs hP hD hS => ?_)
  obtain ⟨M2, eM2, hF⟩ := ltt_some hF
  rw [set_oI ct ad G M1 hc hk (by decide) (by rfl), ← eM2] at hP hD
  refine lv_iload_n hx hb dX9_plan_10 rfl (lv_at hl 1 rfl) ?_
  refine lv_if_ne (tgt := 22) hx hb dX9_plan_11 (by decide) (fun c3 => ?_) (fun c3 => ?_)
  · rw [if_neg c3] at hF
    refine lv_iload_n hx hb dX9_plan_22 rfl (lv_at hl 2 rfl) ?_
    refine lv_bipush (v := (22 : Int32)) hx hb dX9_plan_23 (by decide) ?_
    refine lv_icmp_ne (tgt := 48) hx hb dX9_plan_25 (by decide) (fun c4 => ?_) (fun c4 => ?_)
    · rw [if_neg c4] at hF
      refine lv_iload_n hx hb dX9_plan_48 rfl (lv_at hl 1 rfl) ?_
      obtain ⟨y5, hy5, hF⟩ := bnd_some hF
      have J5 : ∀ (H : Heap) (locs : List Loc) (ls : Array Slot), va_P D classes (wld ct ad G M2) H → va_D A (wld ct ad G M2) → va_S A s.heap H locs → lv_has ls 7 [(0, .ref (ad a)), (1, .int p0), (2, .int p1)] → W p l e (headSpec wsX9_plan ({ frames := 2, cells := 0, slots := 0, locals := 53 })).room s m ([.ref (ad a), .int p0, .int p1] : List Value).toArray below meth c H locs 0 0 (MQ below (va_Qv (fun (_ : Unit) => True) (fun _ t => kE D ct ad G A y t) A) ([.ref (ad a), .int p0, .int p1] : List Value).toArray s 0 0 A) (F0 m 70 ls [.int y5]) := by
        intro H locs ls hP hD hS hl
        refine lv_istore_n (lv' := [(3, .int y5), (0, .ref (ad a)), (1, .int p0), (2, .int p1)]) hx hb dX9_plan_70 rfl hl (by decide) rfl (fun ls hl => ?_)
        refine lv_iload_n hx hb dX9_plan_71 rfl (lv_at hl 3 rfl) ?_
        refine lv_iconst (v := (4 : Int32)) hx hb dX9_plan_72 (by decide) ?_
        refine lv_isub hx hb dX9_plan_73 ?_
        obtain ⟨x6, ex6, hF⟩ := ltt_some hF
        refine lv_topi (fun zx6 ezx6 => ?_)
        obtain rfl : x6 = zx6 := ex6.trans ezx6.symm
        refine lv_bipush (v := (-2 : Int32)) hx hb dX9_plan_74 (by decide) ?_
        refine lv_iand hx hb dX9_plan_76 ?_
        obtain ⟨x7, ex7, hF⟩ := ltt_some hF
        refine lv_topi (fun zx7 ezx7 => ?_)
        obtain rfl : x7 = zx7 := ex7.trans ezx7.symm
        refine lv_istore (lv' := [(4, .int x7), (3, .int y5), (0, .ref (ad a)), (1, .int p0), (2, .int p1)]) hx hb dX9_plan_77 hl (by decide) rfl (fun ls hl => ?_)
        refine lv_iload_n hx hb dX9_plan_79 rfl (lv_at hl 3 rfl) ?_
        obtain ⟨y8, hy8, hF⟩ := bnd_some hF
        have J8 : ∀ (H : Heap) (locs : List Loc) (ls : Array Slot), va_P D classes (wld ct ad G M2) H → va_D A (wld ct ad G M2) → va_S A s.heap H locs → lv_has ls 7 [(4, .int x7), (3, .int y5), (0, .ref (ad a)), (1, .int p0), (2, .int p1)] → W p l e (headSpec wsX9_plan ({ frames := 2, cells := 0, slots := 0, locals := 53 })).room s m ([.ref (ad a), .int p0, .int p1] : List Value).toArray below meth c H locs 0 0 (MQ below (va_Qv (fun (_ : Unit) => True) (fun _ t => kE D ct ad G A y t) A) ([.ref (ad a), .int p0, .int p1] : List Value).toArray s 0 0 A) (F0 m 102 ls [.int y8]) := by
          intro H locs ls hP hD hS hl
          refine lv_istore (lv' := [(5, .int y8), (4, .int x7), (3, .int y5), (0, .ref (ad a)), (1, .int p0), (2, .int p1)]) hx hb dX9_plan_102 hl (by decide) rfl (fun ls hl => ?_)
          refine lv_iload_n hx hb dX9_plan_104 rfl (lv_at hl 4 rfl) ?_
          obtain ⟨y9, hy9, hF⟩ := bnd_some hF
          have J9 : ∀ (H : Heap) (locs : List Loc) (ls : Array Slot), va_P D classes (wld ct ad G M2) H → va_D A (wld ct ad G M2) → va_S A s.heap H locs → lv_has ls 7 [(5, .int y8), (4, .int x7), (3, .int y5), (0, .ref (ad a)), (1, .int p0), (2, .int p1)] → W p l e (headSpec wsX9_plan ({ frames := 2, cells := 0, slots := 0, locals := 53 })).room s m ([.ref (ad a), .int p0, .int p1] : List Value).toArray below meth c H locs 0 0 (MQ below (va_Qv (fun (_ : Unit) => True) (fun _ t => kE D ct ad G A y t) A) ([.ref (ad a), .int p0, .int p1] : List Value).toArray s 0 0 A) (F0 m 126 ls [.int y9]) := by
            intro H locs ls hP hD hS hl
            refine lv_istore (lv' := [(6, .int y9), (5, .int y8), (4, .int x7), (3, .int y5), (0, .ref (ad a)), (1, .int p0), (2, .int p1)]) hx hb dX9_plan_126 hl (by decide) rfl (fun ls hl => ?_)
            refine lv_iload_n hx hb dX9_plan_128 rfl (lv_at hl 3 rfl) ?_
            obtain ⟨y10, hy10, hF⟩ := bnd_some hF
            have J10 : ∀ (H : Heap) (locs : List Loc) (ls : Array Slot), va_P D classes (wld ct ad G y10) H → va_D A (wld ct ad G y10) → va_S A s.heap H locs → lv_has ls 7 [(6, .int y9), (5, .int y8), (4, .int x7), (3, .int y5), (0, .ref (ad a)), (1, .int p0), (2, .int p1)] → W p l e (headSpec wsX9_plan ({ frames := 2, cells := 0, slots := 0, locals := 53 })).room s m ([.ref (ad a), .int p0, .int p1] : List Value).toArray below meth c H locs 0 0 (MQ below (va_Qv (fun (_ : Unit) => True) (fun _ t => kE D ct ad G A y t) A) ([.ref (ad a), .int p0, .int p1] : List Value).toArray s 0 0 A) (F0 m 250 ls []) := by
              intro H locs ls hP hD hS hl
              obtain rfl := Option.some.inj hF
              exact W.vret hx hb hr (fun t ht hW => ⟨⟨(), rfl, trivial, ⟨by rw [ht]; exact hP, va_K.moved hW.alike hK, hD⟩⟩, hS.F ht⟩) hS.2.2 dX9_plan_250
            clear hF
            have hF := hy10
            clear hy10
            refine lv_if_ne (tgt := 156) hx hb dX9_plan_129 (by decide) (fun c11 => ?_) (fun c11 => ?_)
            · rw [if_neg c11] at hF
              refine lv_iload_n hx hb dX9_plan_156 rfl (lv_at hl 3 rfl) ?_
              refine lv_iconst (v := (1 : Int32)) hx hb dX9_plan_157 (by decide) ?_
              obtain ⟨y12, hy12, hF⟩ := bnd_some hF
              have J12 : ∀ (H : Heap) (locs : List Loc) (ls : Array Slot), va_P D classes (wld ct ad G y12) H → va_D A (wld ct ad G y12) → va_S A s.heap H locs → lv_has ls 7 [(6, .int y9), (5, .int y8), (4, .int x7), (3, .int y5), (0, .ref (ad a)), (1, .int p0), (2, .int p1)] → W p l e (headSpec wsX9_plan ({ frames := 2, cells := 0, slots := 0, locals := 53 })).room s m ([.ref (ad a), .int p0, .int p1] : List Value).toArray below meth c H locs 0 0 (MQ below (va_Qv (fun (_ : Unit) => True) (fun _ t => kE D ct ad G A y t) A) ([.ref (ad a), .int p0, .int p1] : List Value).toArray s 0 0 A) (F0 m 250 ls []) := by
                intro H locs ls hP hD hS hl
                obtain rfl := Option.some.inj hF
                exact J10 _ _ _ hP hD hS (lv_sub hl [0, 1, 2, 3, 4, 5, 6] rfl)
              clear hF
              have hF := hy12
              clear hy12
              refine lv_icmp_ne (tgt := 208) hx hb dX9_plan_158 (by decide) (fun c13 => ?_) (fun c13 => ?_)
              · rw [if_neg c13] at hF
                refine lv_aload_n hx hb dX9_plan_208 rfl (lv_at hl 4 rfl) ?_
                refine lv_iconst (v := (0 : Int32)) hx hb dX9_plan_209 (by decide) ?_
                refine lv_bipush (v := (8 : Int32)) hx hb dX9_plan_210 (by decide) ?_
                refine lv_bipush (v := (16 : Int32)) hx hb dX9_plan_212 (by decide) ?_
                refine lv_iload hx hb dX9_plan_214 (lv_at hl 1 rfl) ?_
                obtain ⟨y14, hy14, hF⟩ := bnd_some hF
                have hf9 := wA_in hD hA9 hS
                refine va_callv (va_runV (As := [.int (0 : Int32), .int (8 : Int32), .int (16 : Int32), .int y8]) (rest := []) ⟨hx, hb, hml, hown, hts⟩ (kX9_addGroup l D ct ad Z G M2 H.size a ((0 : Int32)) ((8 : Int32)) ((16 : Int32)) y8 y14 hc hk hy14) (cwV 4 hts gX9_plan_X9_addGroup rfl rfl rfl (by decide +kernel) ⟨Nat.le_of_ble_eq_true rfl, Nat.le_of_ble_eq_true rfl⟩) ⟨fun a U g mk q => by obtain ⟨q0, q1, qP, qK, qD, qZ, qN⟩ := q; exact ⟨q0, q1, qP, va_K.moved (u := U) (U := U.calling g mk a) (Vm.Alike.refl U.vm) qK, qD, sF.moved (u := U) (U := U.calling g mk a) (Vm.Alike.refl U.vm) qZ, nF.same rfl qN⟩, va_recv hK hP (ci := 9) (q0 := a) rfl (wld_o ct ad G M2 hc hk (by decide)), fun U hU hW => ⟨rfl, by rw [hU], by rw [hU]; exact hP, va_K.moved hW.alike hK, hD.weaken (fun _ _ _ _ => trivial), by rw [hU]; exact ((hZ.kept hS.2.1).narrow hf9).moved hW.alike, hN.warm hW⟩⟩ rfl rfl hl.1 rfl (lv_room (Nat.le_of_ble_eq_true rfl)) dX9_plan_216 ⟨(Nat.zero_le _), (Nat.zero_le _)⟩) hS (fun q _ h => hf9 q h) hf9 (fun u t H locs ht hvm hw hB hz1 hk1 hS => ?_)
                obtain ⟨hP, hK9, hD9⟩ := hB
                rw [ht] at hP
                have hD := hD9.weaken (fun _ q _ h => hf9 q.1 h)
                refine lv_aload_n hx hb dX9_plan_219 rfl (lv_at hl 4 rfl) ?_
                refine lv_iconst (v := (0 : Int32)) hx hb dX9_plan_220 (by decide) ?_
                refine lv_bipush (v := (8 : Int32)) hx hb dX9_plan_221 (by decide) ?_
                refine lv_bipush (v := (16 : Int32)) hx hb dX9_plan_223 (by decide) ?_
                refine lv_iconst (v := (3 : Int32)) hx hb dX9_plan_225 (by decide) ?_
                obtain ⟨y15, hy15, hF⟩ := bnd_some hF
                have hf9 := wA_in hD hA9 hS
                refine va_callv (va_runV (As := [.int (0 : Int32), .int (8 : Int32), .int (16 : Int32), .int (3 : Int32)]) (rest := []) ⟨hx, hb, hml, hown, hts⟩ (kX9_addPart l D ct ad Z G y14 H.size a ((0 : Int32)) ((8 : Int32)) ((16 : Int32)) ((3 : Int32)) y15 hc hk hy15) (cwV 4 hts gX9_plan_X9_addPart rfl rfl rfl (by decide +kernel) ⟨Nat.le_of_ble_eq_true rfl, Nat.le_of_ble_eq_true rfl⟩) ⟨fun a U g mk q => by obtain ⟨q0, q1, qP, qK, qD, qZ, qN⟩ := q; exact ⟨q0, q1, qP, va_K.moved (u := U) (U := U.calling g mk a) (Vm.Alike.refl U.vm) qK, qD, sF.moved (u := U) (U := U.calling g mk a) (Vm.Alike.refl U.vm) qZ, nF.same rfl qN⟩, va_recv hK hP (ci := 9) (q0 := a) rfl (wld_o ct ad G y14 hc hk (by decide)), fun U hU hW => ⟨rfl, by rw [hU], by rw [hU]; exact hP, va_K.moved hW.alike hK, hD.weaken (fun _ _ _ _ => trivial), by rw [hU]; exact ((hZ.kept hS.2.1).narrow hf9).moved hW.alike, hN.warm hW⟩⟩ rfl rfl hl.1 rfl (lv_room (Nat.le_of_ble_eq_true rfl)) dX9_plan_226 ⟨(Nat.zero_le _), (Nat.zero_le _)⟩) hS (fun q _ h => hf9 q h) hf9 (fun u t H locs ht hvm hw hB hz1 hk1 hS => ?_)
                obtain ⟨hP, hK9, hD9⟩ := hB
                rw [ht] at hP
                have hD := hD9.weaken (fun _ q _ h => hf9 q.1 h)
                refine lv_aload_n hx hb dX9_plan_229 rfl (lv_at hl 4 rfl) ?_
                refine lv_iconst (v := (4 : Int32)) hx hb dX9_plan_230 (by decide) ?_
                refine lv_bipush (v := (8 : Int32)) hx hb dX9_plan_231 (by decide) ?_
                refine lv_bipush (v := (16 : Int32)) hx hb dX9_plan_233 (by decide) ?_
                refine lv_iload hx hb dX9_plan_235 (lv_at hl 0 rfl) ?_
                obtain ⟨y16, hy16, hF⟩ := bnd_some hF
                have hf9 := wA_in hD hA9 hS
                refine va_callv (va_runV (As := [.int (4 : Int32), .int (8 : Int32), .int (16 : Int32), .int y9]) (rest := []) ⟨hx, hb, hml, hown, hts⟩ (kX9_addGroup l D ct ad Z G y15 H.size a ((4 : Int32)) ((8 : Int32)) ((16 : Int32)) y9 y16 hc hk hy16) (cwV 4 hts gX9_plan_X9_addGroup rfl rfl rfl (by decide +kernel) ⟨Nat.le_of_ble_eq_true rfl, Nat.le_of_ble_eq_true rfl⟩) ⟨fun a U g mk q => by obtain ⟨q0, q1, qP, qK, qD, qZ, qN⟩ := q; exact ⟨q0, q1, qP, va_K.moved (u := U) (U := U.calling g mk a) (Vm.Alike.refl U.vm) qK, qD, sF.moved (u := U) (U := U.calling g mk a) (Vm.Alike.refl U.vm) qZ, nF.same rfl qN⟩, va_recv hK hP (ci := 9) (q0 := a) rfl (wld_o ct ad G y15 hc hk (by decide)), fun U hU hW => ⟨rfl, by rw [hU], by rw [hU]; exact hP, va_K.moved hW.alike hK, hD.weaken (fun _ _ _ _ => trivial), by rw [hU]; exact ((hZ.kept hS.2.1).narrow hf9).moved hW.alike, hN.warm hW⟩⟩ rfl rfl hl.1 rfl (lv_room (Nat.le_of_ble_eq_true rfl)) dX9_plan_237 ⟨(Nat.zero_le _), (Nat.zero_le _)⟩) hS (fun q _ h => hf9 q h) hf9 (fun u t H locs ht hvm hw hB hz1 hk1 hS => ?_)
                obtain ⟨hP, hK9, hD9⟩ := hB
                rw [ht] at hP
                have hD := hD9.weaken (fun _ q _ h => hf9 q.1 h)
                refine lv_aload_n hx hb dX9_plan_240 rfl (lv_at hl 4 rfl) ?_
                refine lv_iconst (v := (4 : Int32)) hx hb dX9_plan_241 (by decide) ?_
                refine lv_bipush (v := (8 : Int32)) hx hb dX9_plan_242 (by decide) ?_
                refine lv_bipush (v := (16 : Int32)) hx hb dX9_plan_244 (by decide) ?_
                refine lv_iconst (v := (4 : Int32)) hx hb dX9_plan_246 (by decide) ?_
                obtain ⟨y17, hy17, hF⟩ := bnd_some hF
                have hf9 := wA_in hD hA9 hS
                refine va_callv (va_runV (As := [.int (4 : Int32), .int (8 : Int32), .int (16 : Int32), .int (4 : Int32)]) (rest := []) ⟨hx, hb, hml, hown, hts⟩ (kX9_addPart l D ct ad Z G y16 H.size a ((4 : Int32)) ((8 : Int32)) ((16 : Int32)) ((4 : Int32)) y17 hc hk hy17) (cwV 4 hts gX9_plan_X9_addPart rfl rfl rfl (by decide +kernel) ⟨Nat.le_of_ble_eq_true rfl, Nat.le_of_ble_eq_true rfl⟩) ⟨fun a U g mk q => by obtain ⟨q0, q1, qP, qK, qD, qZ, qN⟩ := q; exact ⟨q0, q1, qP, va_K.moved (u := U) (U := U.calling g mk a) (Vm.Alike.refl U.vm) qK, qD, sF.moved (u := U) (U := U.calling g mk a) (Vm.Alike.refl U.vm) qZ, nF.same rfl qN⟩, va_recv hK hP (ci := 9) (q0 := a) rfl (wld_o ct ad G y16 hc hk (by decide)), fun U hU hW => ⟨rfl, by rw [hU], by rw [hU]; exact hP, va_K.moved hW.alike hK, hD.weaken (fun _ _ _ _ => trivial), by rw [hU]; exact ((hZ.kept hS.2.1).narrow hf9).moved hW.alike, hN.warm hW⟩⟩ rfl rfl hl.1 rfl (lv_room (Nat.le_of_ble_eq_true rfl)) dX9_plan_247 ⟨(Nat.zero_le _), (Nat.zero_le _)⟩) hS (fun q _ h => hf9 q h) hf9 (fun u t H locs ht hvm hw hB hz1 hk1 hS => ?_)
                obtain ⟨hP, hK9, hD9⟩ := hB
                rw [ht] at hP
                have hD := hD9.weaken (fun _ q _ h => hf9 q.1 h)
                obtain rfl := Option.some.inj hF
                exact J12 _ _ _ hP hD hS (lv_sub hl [0, 1, 2, 3, 4, 5, 6] rfl)
              · rw [if_pos c13] at hF
                refine lv_aload_n hx hb dX9_plan_161 rfl (lv_at hl 4 rfl) ?_
                refine lv_iconst (v := (0 : Int32)) hx hb dX9_plan_162 (by decide) ?_
                refine lv_bipush (v := (16 : Int32)) hx hb dX9_plan_163 (by decide) ?_
                refine lv_bipush (v := (8 : Int32)) hx hb dX9_plan_165 (by decide) ?_
                refine lv_iload hx hb dX9_plan_167 (lv_at hl 1 rfl) ?_
                obtain ⟨y18, hy18, hF⟩ := bnd_some hF
                have hf9 := wA_in hD hA9 hS
                refine va_callv (va_runV (As := [.int (0 : Int32), .int (16 : Int32), .int (8 : Int32), .int y8]) (rest := []) ⟨hx, hb, hml, hown, hts⟩ (kX9_addGroup l D ct ad Z G M2 H.size a ((0 : Int32)) ((16 : Int32)) ((8 : Int32)) y8 y18 hc hk hy18) (cwV 4 hts gX9_plan_X9_addGroup rfl rfl rfl (by decide +kernel) ⟨Nat.le_of_ble_eq_true rfl, Nat.le_of_ble_eq_true rfl⟩) ⟨fun a U g mk q => by obtain ⟨q0, q1, qP, qK, qD, qZ, qN⟩ := q; exact ⟨q0, q1, qP, va_K.moved (u := U) (U := U.calling g mk a) (Vm.Alike.refl U.vm) qK, qD, sF.moved (u := U) (U := U.calling g mk a) (Vm.Alike.refl U.vm) qZ, nF.same rfl qN⟩, va_recv hK hP (ci := 9) (q0 := a) rfl (wld_o ct ad G M2 hc hk (by decide)), fun U hU hW => ⟨rfl, by rw [hU], by rw [hU]; exact hP, va_K.moved hW.alike hK, hD.weaken (fun _ _ _ _ => trivial), by rw [hU]; exact ((hZ.kept hS.2.1).narrow hf9).moved hW.alike, hN.warm hW⟩⟩ rfl rfl hl.1 rfl (lv_room (Nat.le_of_ble_eq_true rfl)) dX9_plan_169 ⟨(Nat.zero_le _), (Nat.zero_le _)⟩) hS (fun q _ h => hf9 q h) hf9 (fun u t H locs ht hvm hw hB hz1 hk1 hS => ?_)
                obtain ⟨hP, hK9, hD9⟩ := hB
                rw [ht] at hP
                have hD := hD9.weaken (fun _ q _ h => hf9 q.1 h)
                refine lv_aload_n hx hb dX9_plan_172 rfl (lv_at hl 4 rfl) ?_
                refine lv_iconst (v := (0 : Int32)) hx hb dX9_plan_173 (by decide) ?_
                refine lv_bipush (v := (16 : Int32)) hx hb dX9_plan_174 (by decide) ?_
                refine lv_bipush (v := (8 : Int32)) hx hb dX9_plan_176 (by decide) ?_
                refine lv_iconst (v := (1 : Int32)) hx hb dX9_plan_178 (by decide) ?_
                obtain ⟨y19, hy19, hF⟩ := bnd_some hF
                have hf9 := wA_in hD hA9 hS
                refine va_callv (va_runV (As := [.int (0 : Int32), .int (16 : Int32), .int (8 : Int32), .int (1 : Int32)]) (rest := []) ⟨hx, hb, hml, hown, hts⟩ (kX9_addPart l D ct ad Z G y18 H.size a ((0 : Int32)) ((16 : Int32)) ((8 : Int32)) ((1 : Int32)) y19 hc hk hy19) (cwV 4 hts gX9_plan_X9_addPart rfl rfl rfl (by decide +kernel) ⟨Nat.le_of_ble_eq_true rfl, Nat.le_of_ble_eq_true rfl⟩) ⟨fun a U g mk q => by obtain ⟨q0, q1, qP, qK, qD, qZ, qN⟩ := q; exact ⟨q0, q1, qP, va_K.moved (u := U) (U := U.calling g mk a) (Vm.Alike.refl U.vm) qK, qD, sF.moved (u := U) (U := U.calling g mk a) (Vm.Alike.refl U.vm) qZ, nF.same rfl qN⟩, va_recv hK hP (ci := 9) (q0 := a) rfl (wld_o ct ad G y18 hc hk (by decide)), fun U hU hW => ⟨rfl, by rw [hU], by rw [hU]; exact hP, va_K.moved hW.alike hK, hD.weaken (fun _ _ _ _ => trivial), by rw [hU]; exact ((hZ.kept hS.2.1).narrow hf9).moved hW.alike, hN.warm hW⟩⟩ rfl rfl hl.1 rfl (lv_room (Nat.le_of_ble_eq_true rfl)) dX9_plan_179 ⟨(Nat.zero_le _), (Nat.zero_le _)⟩) hS (fun q _ h => hf9 q h) hf9 (fun u t H locs ht hvm hw hB hz1 hk1 hS => ?_)
                obtain ⟨hP, hK9, hD9⟩ := hB
                rw [ht] at hP
                have hD := hD9.weaken (fun _ q _ h => hf9 q.1 h)
                refine lv_aload_n hx hb dX9_plan_182 rfl (lv_at hl 4 rfl) ?_
                refine lv_bipush (v := (8 : Int32)) hx hb dX9_plan_183 (by decide) ?_
                refine lv_bipush (v := (16 : Int32)) hx hb dX9_plan_185 (by decide) ?_
                refine lv_bipush (v := (8 : Int32)) hx hb dX9_plan_187 (by decide) ?_
                refine lv_iload hx hb dX9_plan_189 (lv_at hl 0 rfl) ?_
                obtain ⟨y20, hy20, hF⟩ := bnd_some hF
                have hf9 := wA_in hD hA9 hS
                refine va_callv (va_runV (As := [.int (8 : Int32), .int (16 : Int32), .int (8 : Int32), .int y9]) (rest := []) ⟨hx, hb, hml, hown, hts⟩ (kX9_addGroup l D ct ad Z G y19 H.size a ((8 : Int32)) ((16 : Int32)) ((8 : Int32)) y9 y20 hc hk hy20) (cwV 4 hts gX9_plan_X9_addGroup rfl rfl rfl (by decide +kernel) ⟨Nat.le_of_ble_eq_true rfl, Nat.le_of_ble_eq_true rfl⟩) ⟨fun a U g mk q => by obtain ⟨q0, q1, qP, qK, qD, qZ, qN⟩ := q; exact ⟨q0, q1, qP, va_K.moved (u := U) (U := U.calling g mk a) (Vm.Alike.refl U.vm) qK, qD, sF.moved (u := U) (U := U.calling g mk a) (Vm.Alike.refl U.vm) qZ, nF.same rfl qN⟩, va_recv hK hP (ci := 9) (q0 := a) rfl (wld_o ct ad G y19 hc hk (by decide)), fun U hU hW => ⟨rfl, by rw [hU], by rw [hU]; exact hP, va_K.moved hW.alike hK, hD.weaken (fun _ _ _ _ => trivial), by rw [hU]; exact ((hZ.kept hS.2.1).narrow hf9).moved hW.alike, hN.warm hW⟩⟩ rfl rfl hl.1 rfl (lv_room (Nat.le_of_ble_eq_true rfl)) dX9_plan_191 ⟨(Nat.zero_le _), (Nat.zero_le _)⟩) hS (fun q _ h => hf9 q h) hf9 (fun u t H locs ht hvm hw hB hz1 hk1 hS => ?_)
                obtain ⟨hP, hK9, hD9⟩ := hB
                rw [ht] at hP
                have hD := hD9.weaken (fun _ q _ h => hf9 q.1 h)
                refine lv_aload_n hx hb dX9_plan_194 rfl (lv_at hl 4 rfl) ?_
                refine lv_bipush (v := (8 : Int32)) hx hb dX9_plan_195 (by decide) ?_
                refine lv_bipush (v := (16 : Int32)) hx hb dX9_plan_197 (by decide) ?_
                refine lv_bipush (v := (8 : Int32)) hx hb dX9_plan_199 (by decide) ?_
                refine lv_iconst (v := (2 : Int32)) hx hb dX9_plan_201 (by decide) ?_
                obtain ⟨y21, hy21, hF⟩ := bnd_some hF
                have hf9 := wA_in hD hA9 hS
                refine va_callv (va_runV (As := [.int (8 : Int32), .int (16 : Int32), .int (8 : Int32), .int (2 : Int32)]) (rest := []) ⟨hx, hb, hml, hown, hts⟩ (kX9_addPart l D ct ad Z G y20 H.size a ((8 : Int32)) ((16 : Int32)) ((8 : Int32)) ((2 : Int32)) y21 hc hk hy21) (cwV 4 hts gX9_plan_X9_addPart rfl rfl rfl (by decide +kernel) ⟨Nat.le_of_ble_eq_true rfl, Nat.le_of_ble_eq_true rfl⟩) ⟨fun a U g mk q => by obtain ⟨q0, q1, qP, qK, qD, qZ, qN⟩ := q; exact ⟨q0, q1, qP, va_K.moved (u := U) (U := U.calling g mk a) (Vm.Alike.refl U.vm) qK, qD, sF.moved (u := U) (U := U.calling g mk a) (Vm.Alike.refl U.vm) qZ, nF.same rfl qN⟩, va_recv hK hP (ci := 9) (q0 := a) rfl (wld_o ct ad G y20 hc hk (by decide)), fun U hU hW => ⟨rfl, by rw [hU], by rw [hU]; exact hP, va_K.moved hW.alike hK, hD.weaken (fun _ _ _ _ => trivial), by rw [hU]; exact ((hZ.kept hS.2.1).narrow hf9).moved hW.alike, hN.warm hW⟩⟩ rfl rfl hl.1 rfl (lv_room (Nat.le_of_ble_eq_true rfl)) dX9_plan_202 ⟨(Nat.zero_le _), (Nat.zero_le _)⟩) hS (fun q _ h => hf9 q h) hf9 (fun u t H locs ht hvm hw hB hz1 hk1 hS => ?_)
                obtain ⟨hP, hK9, hD9⟩ := hB
                rw [ht] at hP
                have hD := hD9.weaken (fun _ q _ h => hf9 q.1 h)
                refine lv_goto (tgt := 250) hx hb dX9_plan_205 (by decide) ?_
                obtain rfl := Option.some.inj hF
                exact J12 _ _ _ hP hD hS (lv_sub hl [0, 1, 2, 3, 4, 5, 6] rfl)
            · rw [if_pos c11] at hF
              refine lv_aload_n hx hb dX9_plan_132 rfl (lv_at hl 4 rfl) ?_
              refine lv_iconst (v := (0 : Int32)) hx hb dX9_plan_133 (by decide) ?_
              refine lv_bipush (v := (16 : Int32)) hx hb dX9_plan_134 (by decide) ?_
              refine lv_bipush (v := (16 : Int32)) hx hb dX9_plan_136 (by decide) ?_
              refine lv_iload hx hb dX9_plan_138 (lv_at hl 1 rfl) ?_
              obtain ⟨y22, hy22, hF⟩ := bnd_some hF
              have hf9 := wA_in hD hA9 hS
              refine va_callv (va_runV (As := [.int (0 : Int32), .int (16 : Int32), .int (16 : Int32), .int y8]) (rest := []) ⟨hx, hb, hml, hown, hts⟩ (kX9_addGroup l D ct ad Z G M2 H.size a ((0 : Int32)) ((16 : Int32)) ((16 : Int32)) y8 y22 hc hk hy22) (cwV 4 hts gX9_plan_X9_addGroup rfl rfl rfl (by decide +kernel) ⟨Nat.le_of_ble_eq_true rfl, Nat.le_of_ble_eq_true rfl⟩) ⟨fun a U g mk q => by obtain ⟨q0, q1, qP, qK, qD, qZ, qN⟩ := q; exact ⟨q0, q1, qP, va_K.moved (u := U) (U := U.calling g mk a) (Vm.Alike.refl U.vm) qK, qD, sF.moved (u := U) (U := U.calling g mk a) (Vm.Alike.refl U.vm) qZ, nF.same rfl qN⟩, va_recv hK hP (ci := 9) (q0 := a) rfl (wld_o ct ad G M2 hc hk (by decide)), fun U hU hW => ⟨rfl, by rw [hU], by rw [hU]; exact hP, va_K.moved hW.alike hK, hD.weaken (fun _ _ _ _ => trivial), by rw [hU]; exact ((hZ.kept hS.2.1).narrow hf9).moved hW.alike, hN.warm hW⟩⟩ rfl rfl hl.1 rfl (lv_room (Nat.le_of_ble_eq_true rfl)) dX9_plan_140 ⟨(Nat.zero_le _), (Nat.zero_le _)⟩) hS (fun q _ h => hf9 q h) hf9 (fun u t H locs ht hvm hw hB hz1 hk1 hS => ?_)
              obtain ⟨hP, hK9, hD9⟩ := hB
              rw [ht] at hP
              have hD := hD9.weaken (fun _ q _ h => hf9 q.1 h)
              refine lv_aload_n hx hb dX9_plan_143 rfl (lv_at hl 4 rfl) ?_
              refine lv_iconst (v := (0 : Int32)) hx hb dX9_plan_144 (by decide) ?_
              refine lv_bipush (v := (16 : Int32)) hx hb dX9_plan_145 (by decide) ?_
              refine lv_bipush (v := (16 : Int32)) hx hb dX9_plan_147 (by decide) ?_
              refine lv_iconst (v := (0 : Int32)) hx hb dX9_plan_149 (by decide) ?_
              obtain ⟨y23, hy23, hF⟩ := bnd_some hF
              have hf9 := wA_in hD hA9 hS
              refine va_callv (va_runV (As := [.int (0 : Int32), .int (16 : Int32), .int (16 : Int32), .int (0 : Int32)]) (rest := []) ⟨hx, hb, hml, hown, hts⟩ (kX9_addPart l D ct ad Z G y22 H.size a ((0 : Int32)) ((16 : Int32)) ((16 : Int32)) ((0 : Int32)) y23 hc hk hy23) (cwV 4 hts gX9_plan_X9_addPart rfl rfl rfl (by decide +kernel) ⟨Nat.le_of_ble_eq_true rfl, Nat.le_of_ble_eq_true rfl⟩) ⟨fun a U g mk q => by obtain ⟨q0, q1, qP, qK, qD, qZ, qN⟩ := q; exact ⟨q0, q1, qP, va_K.moved (u := U) (U := U.calling g mk a) (Vm.Alike.refl U.vm) qK, qD, sF.moved (u := U) (U := U.calling g mk a) (Vm.Alike.refl U.vm) qZ, nF.same rfl qN⟩, va_recv hK hP (ci := 9) (q0 := a) rfl (wld_o ct ad G y22 hc hk (by decide)), fun U hU hW => ⟨rfl, by rw [hU], by rw [hU]; exact hP, va_K.moved hW.alike hK, hD.weaken (fun _ _ _ _ => trivial), by rw [hU]; exact ((hZ.kept hS.2.1).narrow hf9).moved hW.alike, hN.warm hW⟩⟩ rfl rfl hl.1 rfl (lv_room (Nat.le_of_ble_eq_true rfl)) dX9_plan_150 ⟨(Nat.zero_le _), (Nat.zero_le _)⟩) hS (fun q _ h => hf9 q h) hf9 (fun u t H locs ht hvm hw hB hz1 hk1 hS => ?_)
              obtain ⟨hP, hK9, hD9⟩ := hB
              rw [ht] at hP
              have hD := hD9.weaken (fun _ q _ h => hf9 q.1 h)
              refine lv_goto (tgt := 250) hx hb dX9_plan_153 (by decide) ?_
              obtain rfl := Option.some.inj hF
              exact J10 _ _ _ hP hD hS (lv_sub hl [0, 1, 2, 3, 4, 5, 6] rfl)
          clear hF
          have hF := hy9
          clear hy9
          refine lv_if_eq (tgt := 113) hx hb dX9_plan_105 (by decide) (fun c24 => ?_) (fun c24 => ?_)
          · rw [if_pos c24] at hF
            refine lv_iload hx hb dX9_plan_113 (lv_at hl 0 rfl) ?_
            refine lv_goto (tgt := 126) hx hb dX9_plan_115 (by decide) ?_
            obtain rfl := Option.some.inj hF
            exact J9 _ _ _ hP hD hS (lv_sub hl [0, 1, 2, 3, 4, 5] rfl)
          · rw [if_neg c24] at hF
            refine lv_iload_n hx hb dX9_plan_108 rfl (lv_at hl 5 rfl) ?_
            refine lv_iconst (v := (4 : Int32)) hx hb dX9_plan_109 (by decide) ?_
            obtain ⟨y25, hy25, hF⟩ := bnd_some hF
            have J25 : ∀ (H : Heap) (locs : List Loc) (ls : Array Slot), va_P D classes (wld ct ad G M2) H → va_D A (wld ct ad G M2) → va_S A s.heap H locs → lv_has ls 7 [(5, .int y8), (4, .int x7), (3, .int y5), (0, .ref (ad a)), (1, .int p0), (2, .int p1)] → W p l e (headSpec wsX9_plan ({ frames := 2, cells := 0, slots := 0, locals := 53 })).room s m ([.ref (ad a), .int p0, .int p1] : List Value).toArray below meth c H locs 0 0 (MQ below (va_Qv (fun (_ : Unit) => True) (fun _ t => kE D ct ad G A y t) A) ([.ref (ad a), .int p0, .int p1] : List Value).toArray s 0 0 A) (F0 m 126 ls [.int y25]) := by
              intro H locs ls hP hD hS hl
              obtain rfl := Option.some.inj hF
              exact J9 _ _ _ hP hD hS (lv_sub hl [0, 1, 2, 3, 4, 5] rfl)
            clear hF
            have hF := hy25
            clear hy25
            refine lv_icmp_ge (tgt := 118) hx hb dX9_plan_110 (by decide) (fun c26 => ?_) (fun c26 => ?_)
            · rw [if_pos c26] at hF
              refine va_gets hx hb (hZ.1 16 (by decide)).1 hS hown (hts (.fieldLink RX9 145 "VideoSuite$Work" "PAIR_USE" "[I") (by decide +kernel)) (fun _ h => h) dX9_plan_118 ?_
              refine lv_iload hx hb dX9_plan_121 (lv_at hl 1 rfl) ?_
              refine lv_iconst (v := (1 : Int32)) hx hb dX9_plan_123 (by decide) ?_
              refine lv_iadd hx hb dX9_plan_124 ?_
              obtain ⟨x27, ex27, hF⟩ := ltt_some hF
              refine lv_topi (fun zx27 ezx27 => ?_)
              obtain rfl : x27 = zx27 := ex27.trans ezx27.symm
              obtain ⟨hvc, hF⟩ := chk_some hF
              refine va_ti (v := .int ((sT 16).getD x27.toNatClampNeg 0)) hx hb (hZ.1 16 (by decide)).2 hS hvc rfl dX9_plan_125 ?_
              obtain ⟨x28, ex28, hF⟩ := ltt_some hF
              refine lv_topi (fun zx28 ezx28 => ?_)
              obtain rfl : x28 = zx28 := ex28.trans ezx28.symm
              obtain rfl := Option.some.inj hF
              exact J25 _ _ _ hP hD hS (lv_sub hl [0, 1, 2, 3, 4, 5] rfl)
            · rw [if_neg c26] at hF
              refine lv_iload hx hb dX9_plan_113 (lv_at hl 0 rfl) ?_
              refine lv_goto (tgt := 126) hx hb dX9_plan_115 (by decide) ?_
              obtain rfl := Option.some.inj hF
              exact J25 _ _ _ hP hD hS (lv_sub hl [0, 1, 2, 3, 4, 5] rfl)
        clear hF
        have hF := hy8
        clear hy8
        refine lv_if_ne (tgt := 87) hx hb dX9_plan_80 (by decide) (fun c29 => ?_) (fun c29 => ?_)
        · rw [if_neg c29] at hF
          refine lv_iload_n hx hb dX9_plan_87 rfl (lv_at hl 4 rfl) ?_
          refine lv_iconst (v := (4 : Int32)) hx hb dX9_plan_88 (by decide) ?_
          obtain ⟨y30, hy30, hF⟩ := bnd_some hF
          have J30 : ∀ (H : Heap) (locs : List Loc) (ls : Array Slot), va_P D classes (wld ct ad G M2) H → va_D A (wld ct ad G M2) → va_S A s.heap H locs → lv_has ls 7 [(4, .int x7), (3, .int y5), (0, .ref (ad a)), (1, .int p0), (2, .int p1)] → W p l e (headSpec wsX9_plan ({ frames := 2, cells := 0, slots := 0, locals := 53 })).room s m ([.ref (ad a), .int p0, .int p1] : List Value).toArray below meth c H locs 0 0 (MQ below (va_Qv (fun (_ : Unit) => True) (fun _ t => kE D ct ad G A y t) A) ([.ref (ad a), .int p0, .int p1] : List Value).toArray s 0 0 A) (F0 m 102 ls [.int y30]) := by
            intro H locs ls hP hD hS hl
            obtain rfl := Option.some.inj hF
            exact J8 _ _ _ hP hD hS (lv_sub hl [0, 1, 2, 3, 4] rfl)
          clear hF
          have hF := hy30
          clear hy30
          refine lv_icmp_ge (tgt := 96) hx hb dX9_plan_89 (by decide) (fun c31 => ?_) (fun c31 => ?_)
          · rw [if_pos c31] at hF
            refine va_gets hx hb (hZ.1 16 (by decide)).1 hS hown (hts (.fieldLink RX9 145 "VideoSuite$Work" "PAIR_USE" "[I") (by decide +kernel)) (fun _ h => h) dX9_plan_96 ?_
            refine lv_iload hx hb dX9_plan_99 (lv_at hl 0 rfl) ?_
            obtain ⟨hvc, hF⟩ := chk_some hF
            refine va_ti (v := .int ((sT 16).getD x7.toNatClampNeg 0)) hx hb (hZ.1 16 (by decide)).2 hS hvc rfl dX9_plan_101 ?_
            obtain ⟨x32, ex32, hF⟩ := ltt_some hF
            refine lv_topi (fun zx32 ezx32 => ?_)
            obtain rfl : x32 = zx32 := ex32.trans ezx32.symm
            obtain rfl := Option.some.inj hF
            exact J30 _ _ _ hP hD hS (lv_sub hl [0, 1, 2, 3, 4] rfl)
          · rw [if_neg c31] at hF
            refine lv_iload_n hx hb dX9_plan_92 rfl (lv_at hl 4 rfl) ?_
            refine lv_goto (tgt := 102) hx hb dX9_plan_93 (by decide) ?_
            obtain rfl := Option.some.inj hF
            exact J30 _ _ _ hP hD hS (lv_sub hl [0, 1, 2, 3, 4] rfl)
        · rw [if_pos c29] at hF
          refine lv_iconst (v := (1 : Int32)) hx hb dX9_plan_83 (by decide) ?_
          refine lv_goto (tgt := 102) hx hb dX9_plan_84 (by decide) ?_
          obtain rfl := Option.some.inj hF
          exact J8 _ _ _ hP hD hS (lv_sub hl [0, 1, 2, 3, 4] rfl)
      clear hF
      have hF := hy5
      clear hy5
      refine lv_if_ne (tgt := 56) hx hb dX9_plan_49 (by decide) (fun c33 => ?_) (fun c33 => ?_)
      · rw [if_neg c33] at hF
        refine lv_iload_n hx hb dX9_plan_56 rfl (lv_at hl 2 rfl) ?_
        refine lv_iconst (v := (4 : Int32)) hx hb dX9_plan_57 (by decide) ?_
        obtain ⟨y34, hy34, hF⟩ := bnd_some hF
        have J34 : ∀ (H : Heap) (locs : List Loc) (ls : Array Slot), va_P D classes (wld ct ad G M2) H → va_D A (wld ct ad G M2) → va_S A s.heap H locs → lv_has ls 7 [(0, .ref (ad a)), (1, .int p0), (2, .int p1)] → W p l e (headSpec wsX9_plan ({ frames := 2, cells := 0, slots := 0, locals := 53 })).room s m ([.ref (ad a), .int p0, .int p1] : List Value).toArray below meth c H locs 0 0 (MQ below (va_Qv (fun (_ : Unit) => True) (fun _ t => kE D ct ad G A y t) A) ([.ref (ad a), .int p0, .int p1] : List Value).toArray s 0 0 A) (F0 m 70 ls [.int y34]) := by
          intro H locs ls hP hD hS hl
          obtain rfl := Option.some.inj hF
          exact J5 _ _ _ hP hD hS (lv_sub hl [0, 1, 2] rfl)
        clear hF
        have hF := hy34
        clear hy34
        refine lv_icmp_ge (tgt := 65) hx hb dX9_plan_58 (by decide) (fun c35 => ?_) (fun c35 => ?_)
        · rw [if_pos c35] at hF
          refine lv_iconst (v := (1 : Int32)) hx hb dX9_plan_65 (by decide) ?_
          refine lv_iload_n hx hb dX9_plan_66 rfl (lv_at hl 2 rfl) ?_
          refine lv_iconst (v := (2 : Int32)) hx hb dX9_plan_67 (by decide) ?_
          refine lv_irem hx hb dX9_plan_68 (by decide) ?_
          obtain ⟨x36, ex36, hF⟩ := ltt_some hF
          refine lv_topi (fun zx36 ezx36 => ?_)
          obtain rfl : x36 = zx36 := ex36.trans ezx36.symm
          refine lv_iadd hx hb dX9_plan_69 ?_
          obtain ⟨x37, ex37, hF⟩ := ltt_some hF
          refine lv_topi (fun zx37 ezx37 => ?_)
          obtain rfl : x37 = zx37 := ex37.trans ezx37.symm
          obtain rfl := Option.some.inj hF
          exact J34 _ _ _ hP hD hS (lv_sub hl [0, 1, 2] rfl)
        · rw [if_neg c35] at hF
          refine lv_iconst (v := (0 : Int32)) hx hb dX9_plan_61 (by decide) ?_
          refine lv_goto (tgt := 70) hx hb dX9_plan_62 (by decide) ?_
          obtain rfl := Option.some.inj hF
          exact J34 _ _ _ hP hD hS (lv_sub hl [0, 1, 2] rfl)
      · rw [if_pos c33] at hF
        refine lv_iload_n hx hb dX9_plan_52 rfl (lv_at hl 2 rfl) ?_
        refine lv_goto (tgt := 70) hx hb dX9_plan_53 (by decide) ?_
        obtain rfl := Option.some.inj hF
        exact J5 _ _ _ hP hD hS (lv_sub hl [0, 1, 2] rfl)
    · rw [if_pos c4] at hF
      refine lv_iconst (v := (0 : Int32)) hx hb dX9_plan_28 (by decide) ?_
      refine lv_istore_n (lv' := [(3, .int (0 : Int32)), (0, .ref (ad a)), (1, .int p0), (2, .int p1)]) hx hb dX9_plan_29 rfl hl (by decide) rfl (fun ls hl => ?_)
      obtain ⟨y38, hy38, hF⟩ := bnd_some hF
      have K38 : ∀ (H : Heap) (locs : List Loc) (ls : Array Slot), va_P D classes (wld ct ad G y38.2) H → va_D A (wld ct ad G y38.2) → va_S A s.heap H locs → lv_has ls 7 [(3, .int y38.1), (0, .ref (ad a)), (1, .int p0), (2, .int p1)] → W p l e (headSpec wsX9_plan ({ frames := 2, cells := 0, slots := 0, locals := 53 })).room s m ([.ref (ad a), .int p0, .int p1] : List Value).toArray below meth c H locs 0 0 (MQ below (va_Qv (fun (_ : Unit) => True) (fun _ t => kE D ct ad G A y t) A) ([.ref (ad a), .int p0, .int p1] : List Value).toArray s 0 0 A) (F0 m 47 ls []) := by
        intro H locs ls hP hD hS hl
        obtain rfl := Option.some.inj hF
        exact W.vret hx hb hr (fun t ht hW => ⟨⟨(), rfl, trivial, ⟨by rw [ht]; exact hP, va_K.moved hW.alike hK, hD⟩⟩, hS.F ht⟩) hS.2.2 dX9_plan_47
      clear hF
      refine itr_rule (fun (s39 : Int32 × DD) => ∀ (H : Heap) (locs : List Loc) (ls : Array Slot), va_P D classes (wld ct ad G s39.2) H → va_D A (wld ct ad G s39.2) → va_S A s.heap H locs → lv_has ls 7 [(3, .int s39.1), (0, .ref (ad a)), (1, .int p0), (2, .int p1)] → W p l e (headSpec wsX9_plan ({ frames := 2, cells := 0, slots := 0, locals := 53 })).room s m ([.ref (ad a), .int p0, .int p1] : List Value).toArray below meth c H locs 0 0 (MQ below (va_Qv (fun (_ : Unit) => True) (fun _ t => kE D ct ad G A y t) A) ([.ref (ad a), .int p0, .int p1] : List Value).toArray s 0 0 A) (F0 m 30 ls [])) ?_ _ _ hy38 _ _ _ hP hD hS (lv_sub hl [0, 1, 2, 3] rfl)
      rintro s39 ⟨z41, hF, hwz41⟩ H locs ls hP hD hS hl
      try dsimp only at hF
      refine lv_iload_n hx hb dX9_plan_30 rfl (lv_at hl 0 rfl) ?_
      refine lv_iconst (v := (4 : Int32)) hx hb dX9_plan_31 (by decide) ?_
      refine lv_icmp_ge (tgt := 47) hx hb dX9_plan_32 (by decide) (fun c42 => ?_) (fun c42 => ?_)
      · rw [if_pos c42] at hF
        obtain rfl := Option.some.inj hF
        subst hwz41
        exact K38 _ _ _ hP hD hS (lv_sub hl [0, 1, 2, 3] rfl)
      · rw [if_neg c42] at hF
        refine lv_aload_n hx hb dX9_plan_35 rfl (lv_at hl 1 rfl) ?_
        refine lv_iload_n hx hb dX9_plan_36 rfl (lv_at hl 2 rfl) ?_
        refine lv_iload_n hx hb dX9_plan_37 rfl (lv_at hl 0 rfl) ?_
        obtain ⟨y43, hy43, hF⟩ := bnd_some hF
        have hf9 := wA_in hD hA9 hS
        refine va_callv (va_runV (As := [.int p0, .int s39.1]) (rest := []) ⟨hx, hb, hml, hown, hts⟩ (kX9_planQuarter l D ct ad Z G s39.2 H.size a p0 s39.1 y43 hc hk hy43) (cwV 2 hts gX9_plan_X9_planQuarter rfl rfl rfl (by decide +kernel) ⟨Nat.le_of_ble_eq_true rfl, Nat.le_of_ble_eq_true rfl⟩) ⟨fun a U g mk q => by obtain ⟨q0, q1, qP, qK, qD, qZ, qN⟩ := q; exact ⟨q0, q1, qP, va_K.moved (u := U) (U := U.calling g mk a) (Vm.Alike.refl U.vm) qK, qD, sF.moved (u := U) (U := U.calling g mk a) (Vm.Alike.refl U.vm) qZ, nF.same rfl qN⟩, va_recv hK hP (ci := 9) (q0 := a) rfl (wld_o ct ad G s39.2 hc hk (by decide)), fun U hU hW => ⟨rfl, by rw [hU], by rw [hU]; exact hP, va_K.moved hW.alike hK, hD.weaken (fun _ _ _ _ => trivial), by rw [hU]; exact ((hZ.kept hS.2.1).narrow hf9).moved hW.alike, hN.warm hW⟩⟩ rfl rfl hl.1 rfl (lv_room (Nat.le_of_ble_eq_true rfl)) dX9_plan_38 ⟨(Nat.zero_le _), (Nat.zero_le _)⟩) hS (fun q _ h => hf9 q h) hf9 (fun u t H locs ht hvm hw hB hz1 hk1 hS => ?_)
        obtain ⟨hP, hK9, hD9⟩ := hB
        rw [ht] at hP
        have hD := hD9.weaken (fun _ q _ h => hf9 q.1 h)
        obtain ⟨x44, ex44, hF⟩ := ltt_some hF
        refine lv_iinc (v := x44) (lv' := [(3, .int x44), (0, .ref (ad a)), (1, .int p0), (2, .int p1)]) hx hb dX9_plan_41 hl (k := 0) rfl (by rw [ex44]; rfl) (by decide) rfl (fun ls hl => ?_)
        refine lv_goto (tgt := 30) hx hb dX9_plan_44 (by decide) ?_
        obtain rfl := Option.some.inj hF
        exact hwz41 _ _ _ hP hD hS (lv_sub hl [0, 1, 2, 3] rfl)
  · rw [if_pos c3] at hF
    refine lv_iload_n hx hb dX9_plan_14 rfl (lv_at hl 2 rfl) ?_
    refine lv_iconst (v := (2 : Int32)) hx hb dX9_plan_15 (by decide) ?_
    refine lv_icmp_le (tgt := 48) hx hb dX9_plan_16 (by decide) (fun c45 => ?_) (fun c45 => ?_)
    · rw [if_pos c45] at hF
      refine lv_iload_n hx hb dX9_plan_48 rfl (lv_at hl 1 rfl) ?_
      obtain ⟨y46, hy46, hF⟩ := bnd_some hF
      have J46 : ∀ (H : Heap) (locs : List Loc) (ls : Array Slot), va_P D classes (wld ct ad G M2) H → va_D A (wld ct ad G M2) → va_S A s.heap H locs → lv_has ls 7 [(0, .ref (ad a)), (1, .int p0), (2, .int p1)] → W p l e (headSpec wsX9_plan ({ frames := 2, cells := 0, slots := 0, locals := 53 })).room s m ([.ref (ad a), .int p0, .int p1] : List Value).toArray below meth c H locs 0 0 (MQ below (va_Qv (fun (_ : Unit) => True) (fun _ t => kE D ct ad G A y t) A) ([.ref (ad a), .int p0, .int p1] : List Value).toArray s 0 0 A) (F0 m 70 ls [.int y46]) := by
        intro H locs ls hP hD hS hl
        refine lv_istore_n (lv' := [(3, .int y46), (0, .ref (ad a)), (1, .int p0), (2, .int p1)]) hx hb dX9_plan_70 rfl hl (by decide) rfl (fun ls hl => ?_)
        refine lv_iload_n hx hb dX9_plan_71 rfl (lv_at hl 3 rfl) ?_
        refine lv_iconst (v := (4 : Int32)) hx hb dX9_plan_72 (by decide) ?_
        refine lv_isub hx hb dX9_plan_73 ?_
        obtain ⟨x47, ex47, hF⟩ := ltt_some hF
        refine lv_topi (fun zx47 ezx47 => ?_)
        obtain rfl : x47 = zx47 := ex47.trans ezx47.symm
        refine lv_bipush (v := (-2 : Int32)) hx hb dX9_plan_74 (by decide) ?_
        refine lv_iand hx hb dX9_plan_76 ?_
        obtain ⟨x48, ex48, hF⟩ := ltt_some hF
        refine lv_topi (fun zx48 ezx48 => ?_)
        obtain rfl : x48 = zx48 := ex48.trans ezx48.symm
        refine lv_istore (lv' := [(4, .int x48), (3, .int y46), (0, .ref (ad a)), (1, .int p0), (2, .int p1)]) hx hb dX9_plan_77 hl (by decide) rfl (fun ls hl => ?_)
        refine lv_iload_n hx hb dX9_plan_79 rfl (lv_at hl 3 rfl) ?_
        obtain ⟨y49, hy49, hF⟩ := bnd_some hF
        have J49 : ∀ (H : Heap) (locs : List Loc) (ls : Array Slot), va_P D classes (wld ct ad G M2) H → va_D A (wld ct ad G M2) → va_S A s.heap H locs → lv_has ls 7 [(4, .int x48), (3, .int y46), (0, .ref (ad a)), (1, .int p0), (2, .int p1)] → W p l e (headSpec wsX9_plan ({ frames := 2, cells := 0, slots := 0, locals := 53 })).room s m ([.ref (ad a), .int p0, .int p1] : List Value).toArray below meth c H locs 0 0 (MQ below (va_Qv (fun (_ : Unit) => True) (fun _ t => kE D ct ad G A y t) A) ([.ref (ad a), .int p0, .int p1] : List Value).toArray s 0 0 A) (F0 m 102 ls [.int y49]) := by
          intro H locs ls hP hD hS hl
          refine lv_istore (lv' := [(5, .int y49), (4, .int x48), (3, .int y46), (0, .ref (ad a)), (1, .int p0), (2, .int p1)]) hx hb dX9_plan_102 hl (by decide) rfl (fun ls hl => ?_)
          refine lv_iload_n hx hb dX9_plan_104 rfl (lv_at hl 4 rfl) ?_
          obtain ⟨y50, hy50, hF⟩ := bnd_some hF
          have J50 : ∀ (H : Heap) (locs : List Loc) (ls : Array Slot), va_P D classes (wld ct ad G M2) H → va_D A (wld ct ad G M2) → va_S A s.heap H locs → lv_has ls 7 [(5, .int y49), (4, .int x48), (3, .int y46), (0, .ref (ad a)), (1, .int p0), (2, .int p1)] → W p l e (headSpec wsX9_plan ({ frames := 2, cells := 0, slots := 0, locals := 53 })).room s m ([.ref (ad a), .int p0, .int p1] : List Value).toArray below meth c H locs 0 0 (MQ below (va_Qv (fun (_ : Unit) => True) (fun _ t => kE D ct ad G A y t) A) ([.ref (ad a), .int p0, .int p1] : List Value).toArray s 0 0 A) (F0 m 126 ls [.int y50]) := by
            intro H locs ls hP hD hS hl
            refine lv_istore (lv' := [(6, .int y50), (5, .int y49), (4, .int x48), (3, .int y46), (0, .ref (ad a)), (1, .int p0), (2, .int p1)]) hx hb dX9_plan_126 hl (by decide) rfl (fun ls hl => ?_)
            refine lv_iload_n hx hb dX9_plan_128 rfl (lv_at hl 3 rfl) ?_
            obtain ⟨y51, hy51, hF⟩ := bnd_some hF
            have J51 : ∀ (H : Heap) (locs : List Loc) (ls : Array Slot), va_P D classes (wld ct ad G y51) H → va_D A (wld ct ad G y51) → va_S A s.heap H locs → lv_has ls 7 [(6, .int y50), (5, .int y49), (4, .int x48), (3, .int y46), (0, .ref (ad a)), (1, .int p0), (2, .int p1)] → W p l e (headSpec wsX9_plan ({ frames := 2, cells := 0, slots := 0, locals := 53 })).room s m ([.ref (ad a), .int p0, .int p1] : List Value).toArray below meth c H locs 0 0 (MQ below (va_Qv (fun (_ : Unit) => True) (fun _ t => kE D ct ad G A y t) A) ([.ref (ad a), .int p0, .int p1] : List Value).toArray s 0 0 A) (F0 m 250 ls []) := by
              intro H locs ls hP hD hS hl
              obtain rfl := Option.some.inj hF
              exact W.vret hx hb hr (fun t ht hW => ⟨⟨(), rfl, trivial, ⟨by rw [ht]; exact hP, va_K.moved hW.alike hK, hD⟩⟩, hS.F ht⟩) hS.2.2 dX9_plan_250
            clear hF
            have hF := hy51
            clear hy51
            refine lv_if_ne (tgt := 156) hx hb dX9_plan_129 (by decide) (fun c52 => ?_) (fun c52 => ?_)
            · rw [if_neg c52] at hF
              refine lv_iload_n hx hb dX9_plan_156 rfl (lv_at hl 3 rfl) ?_
              refine lv_iconst (v := (1 : Int32)) hx hb dX9_plan_157 (by decide) ?_
              obtain ⟨y53, hy53, hF⟩ := bnd_some hF
              have J53 : ∀ (H : Heap) (locs : List Loc) (ls : Array Slot), va_P D classes (wld ct ad G y53) H → va_D A (wld ct ad G y53) → va_S A s.heap H locs → lv_has ls 7 [(6, .int y50), (5, .int y49), (4, .int x48), (3, .int y46), (0, .ref (ad a)), (1, .int p0), (2, .int p1)] → W p l e (headSpec wsX9_plan ({ frames := 2, cells := 0, slots := 0, locals := 53 })).room s m ([.ref (ad a), .int p0, .int p1] : List Value).toArray below meth c H locs 0 0 (MQ below (va_Qv (fun (_ : Unit) => True) (fun _ t => kE D ct ad G A y t) A) ([.ref (ad a), .int p0, .int p1] : List Value).toArray s 0 0 A) (F0 m 250 ls []) := by
                intro H locs ls hP hD hS hl
                obtain rfl := Option.some.inj hF
                exact J51 _ _ _ hP hD hS (lv_sub hl [0, 1, 2, 3, 4, 5, 6] rfl)
              clear hF
              have hF := hy53
              clear hy53
              refine lv_icmp_ne (tgt := 208) hx hb dX9_plan_158 (by decide) (fun c54 => ?_) (fun c54 => ?_)
              · rw [if_neg c54] at hF
                refine lv_aload_n hx hb dX9_plan_208 rfl (lv_at hl 4 rfl) ?_
                refine lv_iconst (v := (0 : Int32)) hx hb dX9_plan_209 (by decide) ?_
                refine lv_bipush (v := (8 : Int32)) hx hb dX9_plan_210 (by decide) ?_
                refine lv_bipush (v := (16 : Int32)) hx hb dX9_plan_212 (by decide) ?_
                refine lv_iload hx hb dX9_plan_214 (lv_at hl 1 rfl) ?_
                obtain ⟨y55, hy55, hF⟩ := bnd_some hF
                have hf9 := wA_in hD hA9 hS
                refine va_callv (va_runV (As := [.int (0 : Int32), .int (8 : Int32), .int (16 : Int32), .int y49]) (rest := []) ⟨hx, hb, hml, hown, hts⟩ (kX9_addGroup l D ct ad Z G M2 H.size a ((0 : Int32)) ((8 : Int32)) ((16 : Int32)) y49 y55 hc hk hy55) (cwV 4 hts gX9_plan_X9_addGroup rfl rfl rfl (by decide +kernel) ⟨Nat.le_of_ble_eq_true rfl, Nat.le_of_ble_eq_true rfl⟩) ⟨fun a U g mk q => by obtain ⟨q0, q1, qP, qK, qD, qZ, qN⟩ := q; exact ⟨q0, q1, qP, va_K.moved (u := U) (U := U.calling g mk a) (Vm.Alike.refl U.vm) qK, qD, sF.moved (u := U) (U := U.calling g mk a) (Vm.Alike.refl U.vm) qZ, nF.same rfl qN⟩, va_recv hK hP (ci := 9) (q0 := a) rfl (wld_o ct ad G M2 hc hk (by decide)), fun U hU hW => ⟨rfl, by rw [hU], by rw [hU]; exact hP, va_K.moved hW.alike hK, hD.weaken (fun _ _ _ _ => trivial), by rw [hU]; exact ((hZ.kept hS.2.1).narrow hf9).moved hW.alike, hN.warm hW⟩⟩ rfl rfl hl.1 rfl (lv_room (Nat.le_of_ble_eq_true rfl)) dX9_plan_216 ⟨(Nat.zero_le _), (Nat.zero_le _)⟩) hS (fun q _ h => hf9 q h) hf9 (fun u t H locs ht hvm hw hB hz1 hk1 hS => ?_)
                obtain ⟨hP, hK9, hD9⟩ := hB
                rw [ht] at hP
                have hD := hD9.weaken (fun _ q _ h => hf9 q.1 h)
                refine lv_aload_n hx hb dX9_plan_219 rfl (lv_at hl 4 rfl) ?_
                refine lv_iconst (v := (0 : Int32)) hx hb dX9_plan_220 (by decide) ?_
                refine lv_bipush (v := (8 : Int32)) hx hb dX9_plan_221 (by decide) ?_
                refine lv_bipush (v := (16 : Int32)) hx hb dX9_plan_223 (by decide) ?_
                refine lv_iconst (v := (3 : Int32)) hx hb dX9_plan_225 (by decide) ?_
                obtain ⟨y56, hy56, hF⟩ := bnd_some hF
                have hf9 := wA_in hD hA9 hS
                refine va_callv (va_runV (As := [.int (0 : Int32), .int (8 : Int32), .int (16 : Int32), .int (3 : Int32)]) (rest := []) ⟨hx, hb, hml, hown, hts⟩ (kX9_addPart l D ct ad Z G y55 H.size a ((0 : Int32)) ((8 : Int32)) ((16 : Int32)) ((3 : Int32)) y56 hc hk hy56) (cwV 4 hts gX9_plan_X9_addPart rfl rfl rfl (by decide +kernel) ⟨Nat.le_of_ble_eq_true rfl, Nat.le_of_ble_eq_true rfl⟩) ⟨fun a U g mk q => by obtain ⟨q0, q1, qP, qK, qD, qZ, qN⟩ := q; exact ⟨q0, q1, qP, va_K.moved (u := U) (U := U.calling g mk a) (Vm.Alike.refl U.vm) qK, qD, sF.moved (u := U) (U := U.calling g mk a) (Vm.Alike.refl U.vm) qZ, nF.same rfl qN⟩, va_recv hK hP (ci := 9) (q0 := a) rfl (wld_o ct ad G y55 hc hk (by decide)), fun U hU hW => ⟨rfl, by rw [hU], by rw [hU]; exact hP, va_K.moved hW.alike hK, hD.weaken (fun _ _ _ _ => trivial), by rw [hU]; exact ((hZ.kept hS.2.1).narrow hf9).moved hW.alike, hN.warm hW⟩⟩ rfl rfl hl.1 rfl (lv_room (Nat.le_of_ble_eq_true rfl)) dX9_plan_226 ⟨(Nat.zero_le _), (Nat.zero_le _)⟩) hS (fun q _ h => hf9 q h) hf9 (fun u t H locs ht hvm hw hB hz1 hk1 hS => ?_)
                obtain ⟨hP, hK9, hD9⟩ := hB
                rw [ht] at hP
                have hD := hD9.weaken (fun _ q _ h => hf9 q.1 h)
                refine lv_aload_n hx hb dX9_plan_229 rfl (lv_at hl 4 rfl) ?_
                refine lv_iconst (v := (4 : Int32)) hx hb dX9_plan_230 (by decide) ?_
                refine lv_bipush (v := (8 : Int32)) hx hb dX9_plan_231 (by decide) ?_
                refine lv_bipush (v := (16 : Int32)) hx hb dX9_plan_233 (by decide) ?_
                refine lv_iload hx hb dX9_plan_235 (lv_at hl 0 rfl) ?_
                obtain ⟨y57, hy57, hF⟩ := bnd_some hF
                have hf9 := wA_in hD hA9 hS
                refine va_callv (va_runV (As := [.int (4 : Int32), .int (8 : Int32), .int (16 : Int32), .int y50]) (rest := []) ⟨hx, hb, hml, hown, hts⟩ (kX9_addGroup l D ct ad Z G y56 H.size a ((4 : Int32)) ((8 : Int32)) ((16 : Int32)) y50 y57 hc hk hy57) (cwV 4 hts gX9_plan_X9_addGroup rfl rfl rfl (by decide +kernel) ⟨Nat.le_of_ble_eq_true rfl, Nat.le_of_ble_eq_true rfl⟩) ⟨fun a U g mk q => by obtain ⟨q0, q1, qP, qK, qD, qZ, qN⟩ := q; exact ⟨q0, q1, qP, va_K.moved (u := U) (U := U.calling g mk a) (Vm.Alike.refl U.vm) qK, qD, sF.moved (u := U) (U := U.calling g mk a) (Vm.Alike.refl U.vm) qZ, nF.same rfl qN⟩, va_recv hK hP (ci := 9) (q0 := a) rfl (wld_o ct ad G y56 hc hk (by decide)), fun U hU hW => ⟨rfl, by rw [hU], by rw [hU]; exact hP, va_K.moved hW.alike hK, hD.weaken (fun _ _ _ _ => trivial), by rw [hU]; exact ((hZ.kept hS.2.1).narrow hf9).moved hW.alike, hN.warm hW⟩⟩ rfl rfl hl.1 rfl (lv_room (Nat.le_of_ble_eq_true rfl)) dX9_plan_237 ⟨(Nat.zero_le _), (Nat.zero_le _)⟩) hS (fun q _ h => hf9 q h) hf9 (fun u t H locs ht hvm hw hB hz1 hk1 hS => ?_)
                obtain ⟨hP, hK9, hD9⟩ := hB
                rw [ht] at hP
                have hD := hD9.weaken (fun _ q _ h => hf9 q.1 h)
                refine lv_aload_n hx hb dX9_plan_240 rfl (lv_at hl 4 rfl) ?_
                refine lv_iconst (v := (4 : Int32)) hx hb dX9_plan_241 (by decide) ?_
                refine lv_bipush (v := (8 : Int32)) hx hb dX9_plan_242 (by decide) ?_
                refine lv_bipush (v := (16 : Int32)) hx hb dX9_plan_244 (by decide) ?_
                refine lv_iconst (v := (4 : Int32)) hx hb dX9_plan_246 (by decide) ?_
                obtain ⟨y58, hy58, hF⟩ := bnd_some hF
                have hf9 := wA_in hD hA9 hS
                refine va_callv (va_runV (As := [.int (4 : Int32), .int (8 : Int32), .int (16 : Int32), .int (4 : Int32)]) (rest := []) ⟨hx, hb, hml, hown, hts⟩ (kX9_addPart l D ct ad Z G y57 H.size a ((4 : Int32)) ((8 : Int32)) ((16 : Int32)) ((4 : Int32)) y58 hc hk hy58) (cwV 4 hts gX9_plan_X9_addPart rfl rfl rfl (by decide +kernel) ⟨Nat.le_of_ble_eq_true rfl, Nat.le_of_ble_eq_true rfl⟩) ⟨fun a U g mk q => by obtain ⟨q0, q1, qP, qK, qD, qZ, qN⟩ := q; exact ⟨q0, q1, qP, va_K.moved (u := U) (U := U.calling g mk a) (Vm.Alike.refl U.vm) qK, qD, sF.moved (u := U) (U := U.calling g mk a) (Vm.Alike.refl U.vm) qZ, nF.same rfl qN⟩, va_recv hK hP (ci := 9) (q0 := a) rfl (wld_o ct ad G y57 hc hk (by decide)), fun U hU hW => ⟨rfl, by rw [hU], by rw [hU]; exact hP, va_K.moved hW.alike hK, hD.weaken (fun _ _ _ _ => trivial), by rw [hU]; exact ((hZ.kept hS.2.1).narrow hf9).moved hW.alike, hN.warm hW⟩⟩ rfl rfl hl.1 rfl (lv_room (Nat.le_of_ble_eq_true rfl)) dX9_plan_247 ⟨(Nat.zero_le _), (Nat.zero_le _)⟩) hS (fun q _ h => hf9 q h) hf9 (fun u t H locs ht hvm hw hB hz1 hk1 hS => ?_)
                obtain ⟨hP, hK9, hD9⟩ := hB
                rw [ht] at hP
                have hD := hD9.weaken (fun _ q _ h => hf9 q.1 h)
                obtain rfl := Option.some.inj hF
                exact J53 _ _ _ hP hD hS (lv_sub hl [0, 1, 2, 3, 4, 5, 6] rfl)
              · rw [if_pos c54] at hF
                refine lv_aload_n hx hb dX9_plan_161 rfl (lv_at hl 4 rfl) ?_
                refine lv_iconst (v := (0 : Int32)) hx hb dX9_plan_162 (by decide) ?_
                refine lv_bipush (v := (16 : Int32)) hx hb dX9_plan_163 (by decide) ?_
                refine lv_bipush (v := (8 : Int32)) hx hb dX9_plan_165 (by decide) ?_
                refine lv_iload hx hb dX9_plan_167 (lv_at hl 1 rfl) ?_
                obtain ⟨y59, hy59, hF⟩ := bnd_some hF
                have hf9 := wA_in hD hA9 hS
                refine va_callv (va_runV (As := [.int (0 : Int32), .int (16 : Int32), .int (8 : Int32), .int y49]) (rest := []) ⟨hx, hb, hml, hown, hts⟩ (kX9_addGroup l D ct ad Z G M2 H.size a ((0 : Int32)) ((16 : Int32)) ((8 : Int32)) y49 y59 hc hk hy59) (cwV 4 hts gX9_plan_X9_addGroup rfl rfl rfl (by decide +kernel) ⟨Nat.le_of_ble_eq_true rfl, Nat.le_of_ble_eq_true rfl⟩) ⟨fun a U g mk q => by obtain ⟨q0, q1, qP, qK, qD, qZ, qN⟩ := q; exact ⟨q0, q1, qP, va_K.moved (u := U) (U := U.calling g mk a) (Vm.Alike.refl U.vm) qK, qD, sF.moved (u := U) (U := U.calling g mk a) (Vm.Alike.refl U.vm) qZ, nF.same rfl qN⟩, va_recv hK hP (ci := 9) (q0 := a) rfl (wld_o ct ad G M2 hc hk (by decide)), fun U hU hW => ⟨rfl, by rw [hU], by rw [hU]; exact hP, va_K.moved hW.alike hK, hD.weaken (fun _ _ _ _ => trivial), by rw [hU]; exact ((hZ.kept hS.2.1).narrow hf9).moved hW.alike, hN.warm hW⟩⟩ rfl rfl hl.1 rfl (lv_room (Nat.le_of_ble_eq_true rfl)) dX9_plan_169 ⟨(Nat.zero_le _), (Nat.zero_le _)⟩) hS (fun q _ h => hf9 q h) hf9 (fun u t H locs ht hvm hw hB hz1 hk1 hS => ?_)
                obtain ⟨hP, hK9, hD9⟩ := hB
                rw [ht] at hP
                have hD := hD9.weaken (fun _ q _ h => hf9 q.1 h)
                refine lv_aload_n hx hb dX9_plan_172 rfl (lv_at hl 4 rfl) ?_
                refine lv_iconst (v := (0 : Int32)) hx hb dX9_plan_173 (by decide) ?_
                refine lv_bipush (v := (16 : Int32)) hx hb dX9_plan_174 (by decide) ?_
                refine lv_bipush (v := (8 : Int32)) hx hb dX9_plan_176 (by decide) ?_
                refine lv_iconst (v := (1 : Int32)) hx hb dX9_plan_178 (by decide) ?_
                obtain ⟨y60, hy60, hF⟩ := bnd_some hF
                have hf9 := wA_in hD hA9 hS
                refine va_callv (va_runV (As := [.int (0 : Int32), .int (16 : Int32), .int (8 : Int32), .int (1 : Int32)]) (rest := []) ⟨hx, hb, hml, hown, hts⟩ (kX9_addPart l D ct ad Z G y59 H.size a ((0 : Int32)) ((16 : Int32)) ((8 : Int32)) ((1 : Int32)) y60 hc hk hy60) (cwV 4 hts gX9_plan_X9_addPart rfl rfl rfl (by decide +kernel) ⟨Nat.le_of_ble_eq_true rfl, Nat.le_of_ble_eq_true rfl⟩) ⟨fun a U g mk q => by obtain ⟨q0, q1, qP, qK, qD, qZ, qN⟩ := q; exact ⟨q0, q1, qP, va_K.moved (u := U) (U := U.calling g mk a) (Vm.Alike.refl U.vm) qK, qD, sF.moved (u := U) (U := U.calling g mk a) (Vm.Alike.refl U.vm) qZ, nF.same rfl qN⟩, va_recv hK hP (ci := 9) (q0 := a) rfl (wld_o ct ad G y59 hc hk (by decide)), fun U hU hW => ⟨rfl, by rw [hU], by rw [hU]; exact hP, va_K.moved hW.alike hK, hD.weaken (fun _ _ _ _ => trivial), by rw [hU]; exact ((hZ.kept hS.2.1).narrow hf9).moved hW.alike, hN.warm hW⟩⟩ rfl rfl hl.1 rfl (lv_room (Nat.le_of_ble_eq_true rfl)) dX9_plan_179 ⟨(Nat.zero_le _), (Nat.zero_le _)⟩) hS (fun q _ h => hf9 q h) hf9 (fun u t H locs ht hvm hw hB hz1 hk1 hS => ?_)
                obtain ⟨hP, hK9, hD9⟩ := hB
                rw [ht] at hP
                have hD := hD9.weaken (fun _ q _ h => hf9 q.1 h)
                refine lv_aload_n hx hb dX9_plan_182 rfl (lv_at hl 4 rfl) ?_
                refine lv_bipush (v := (8 : Int32)) hx hb dX9_plan_183 (by decide) ?_
                refine lv_bipush (v := (16 : Int32)) hx hb dX9_plan_185 (by decide) ?_
                refine lv_bipush (v := (8 : Int32)) hx hb dX9_plan_187 (by decide) ?_
                refine lv_iload hx hb dX9_plan_189 (lv_at hl 0 rfl) ?_
                obtain ⟨y61, hy61, hF⟩ := bnd_some hF
                have hf9 := wA_in hD hA9 hS
                refine va_callv (va_runV (As := [.int (8 : Int32), .int (16 : Int32), .int (8 : Int32), .int y50]) (rest := []) ⟨hx, hb, hml, hown, hts⟩ (kX9_addGroup l D ct ad Z G y60 H.size a ((8 : Int32)) ((16 : Int32)) ((8 : Int32)) y50 y61 hc hk hy61) (cwV 4 hts gX9_plan_X9_addGroup rfl rfl rfl (by decide +kernel) ⟨Nat.le_of_ble_eq_true rfl, Nat.le_of_ble_eq_true rfl⟩) ⟨fun a U g mk q => by obtain ⟨q0, q1, qP, qK, qD, qZ, qN⟩ := q; exact ⟨q0, q1, qP, va_K.moved (u := U) (U := U.calling g mk a) (Vm.Alike.refl U.vm) qK, qD, sF.moved (u := U) (U := U.calling g mk a) (Vm.Alike.refl U.vm) qZ, nF.same rfl qN⟩, va_recv hK hP (ci := 9) (q0 := a) rfl (wld_o ct ad G y60 hc hk (by decide)), fun U hU hW => ⟨rfl, by rw [hU], by rw [hU]; exact hP, va_K.moved hW.alike hK, hD.weaken (fun _ _ _ _ => trivial), by rw [hU]; exact ((hZ.kept hS.2.1).narrow hf9).moved hW.alike, hN.warm hW⟩⟩ rfl rfl hl.1 rfl (lv_room (Nat.le_of_ble_eq_true rfl)) dX9_plan_191 ⟨(Nat.zero_le _), (Nat.zero_le _)⟩) hS (fun q _ h => hf9 q h) hf9 (fun u t H locs ht hvm hw hB hz1 hk1 hS => ?_)
                obtain ⟨hP, hK9, hD9⟩ := hB
                rw [ht] at hP
                have hD := hD9.weaken (fun _ q _ h => hf9 q.1 h)
                refine lv_aload_n hx hb dX9_plan_194 rfl (lv_at hl 4 rfl) ?_
                refine lv_bipush (v := (8 : Int32)) hx hb dX9_plan_195 (by decide) ?_
                refine lv_bipush (v := (16 : Int32)) hx hb dX9_plan_197 (by decide) ?_
                refine lv_bipush (v := (8 : Int32)) hx hb dX9_plan_199 (by decide) ?_
                refine lv_iconst (v := (2 : Int32)) hx hb dX9_plan_201 (by decide) ?_
                obtain ⟨y62, hy62, hF⟩ := bnd_some hF
                have hf9 := wA_in hD hA9 hS
                refine va_callv (va_runV (As := [.int (8 : Int32), .int (16 : Int32), .int (8 : Int32), .int (2 : Int32)]) (rest := []) ⟨hx, hb, hml, hown, hts⟩ (kX9_addPart l D ct ad Z G y61 H.size a ((8 : Int32)) ((16 : Int32)) ((8 : Int32)) ((2 : Int32)) y62 hc hk hy62) (cwV 4 hts gX9_plan_X9_addPart rfl rfl rfl (by decide +kernel) ⟨Nat.le_of_ble_eq_true rfl, Nat.le_of_ble_eq_true rfl⟩) ⟨fun a U g mk q => by obtain ⟨q0, q1, qP, qK, qD, qZ, qN⟩ := q; exact ⟨q0, q1, qP, va_K.moved (u := U) (U := U.calling g mk a) (Vm.Alike.refl U.vm) qK, qD, sF.moved (u := U) (U := U.calling g mk a) (Vm.Alike.refl U.vm) qZ, nF.same rfl qN⟩, va_recv hK hP (ci := 9) (q0 := a) rfl (wld_o ct ad G y61 hc hk (by decide)), fun U hU hW => ⟨rfl, by rw [hU], by rw [hU]; exact hP, va_K.moved hW.alike hK, hD.weaken (fun _ _ _ _ => trivial), by rw [hU]; exact ((hZ.kept hS.2.1).narrow hf9).moved hW.alike, hN.warm hW⟩⟩ rfl rfl hl.1 rfl (lv_room (Nat.le_of_ble_eq_true rfl)) dX9_plan_202 ⟨(Nat.zero_le _), (Nat.zero_le _)⟩) hS (fun q _ h => hf9 q h) hf9 (fun u t H locs ht hvm hw hB hz1 hk1 hS => ?_)
                obtain ⟨hP, hK9, hD9⟩ := hB
                rw [ht] at hP
                have hD := hD9.weaken (fun _ q _ h => hf9 q.1 h)
                refine lv_goto (tgt := 250) hx hb dX9_plan_205 (by decide) ?_
                obtain rfl := Option.some.inj hF
                exact J53 _ _ _ hP hD hS (lv_sub hl [0, 1, 2, 3, 4, 5, 6] rfl)
            · rw [if_pos c52] at hF
              refine lv_aload_n hx hb dX9_plan_132 rfl (lv_at hl 4 rfl) ?_
              refine lv_iconst (v := (0 : Int32)) hx hb dX9_plan_133 (by decide) ?_
              refine lv_bipush (v := (16 : Int32)) hx hb dX9_plan_134 (by decide) ?_
              refine lv_bipush (v := (16 : Int32)) hx hb dX9_plan_136 (by decide) ?_
              refine lv_iload hx hb dX9_plan_138 (lv_at hl 1 rfl) ?_
              obtain ⟨y63, hy63, hF⟩ := bnd_some hF
              have hf9 := wA_in hD hA9 hS
              refine va_callv (va_runV (As := [.int (0 : Int32), .int (16 : Int32), .int (16 : Int32), .int y49]) (rest := []) ⟨hx, hb, hml, hown, hts⟩ (kX9_addGroup l D ct ad Z G M2 H.size a ((0 : Int32)) ((16 : Int32)) ((16 : Int32)) y49 y63 hc hk hy63) (cwV 4 hts gX9_plan_X9_addGroup rfl rfl rfl (by decide +kernel) ⟨Nat.le_of_ble_eq_true rfl, Nat.le_of_ble_eq_true rfl⟩) ⟨fun a U g mk q => by obtain ⟨q0, q1, qP, qK, qD, qZ, qN⟩ := q; exact ⟨q0, q1, qP, va_K.moved (u := U) (U := U.calling g mk a) (Vm.Alike.refl U.vm) qK, qD, sF.moved (u := U) (U := U.calling g mk a) (Vm.Alike.refl U.vm) qZ, nF.same rfl qN⟩, va_recv hK hP (ci := 9) (q0 := a) rfl (wld_o ct ad G M2 hc hk (by decide)), fun U hU hW => ⟨rfl, by rw [hU], by rw [hU]; exact hP, va_K.moved hW.alike hK, hD.weaken (fun _ _ _ _ => trivial), by rw [hU]; exact ((hZ.kept hS.2.1).narrow hf9).moved hW.alike, hN.warm hW⟩⟩ rfl rfl hl.1 rfl (lv_room (Nat.le_of_ble_eq_true rfl)) dX9_plan_140 ⟨(Nat.zero_le _), (Nat.zero_le _)⟩) hS (fun q _ h => hf9 q h) hf9 (fun u t H locs ht hvm hw hB hz1 hk1 hS => ?_)
              obtain ⟨hP, hK9, hD9⟩ := hB
              rw [ht] at hP
              have hD := hD9.weaken (fun _ q _ h => hf9 q.1 h)
              refine lv_aload_n hx hb dX9_plan_143 rfl (lv_at hl 4 rfl) ?_
              refine lv_iconst (v := (0 : Int32)) hx hb dX9_plan_144 (by decide) ?_
              refine lv_bipush (v := (16 : Int32)) hx hb dX9_plan_145 (by decide) ?_
              refine lv_bipush (v := (16 : Int32)) hx hb dX9_plan_147 (by decide) ?_
              refine lv_iconst (v := (0 : Int32)) hx hb dX9_plan_149 (by decide) ?_
              obtain ⟨y64, hy64, hF⟩ := bnd_some hF
              have hf9 := wA_in hD hA9 hS
              refine va_callv (va_runV (As := [.int (0 : Int32), .int (16 : Int32), .int (16 : Int32), .int (0 : Int32)]) (rest := []) ⟨hx, hb, hml, hown, hts⟩ (kX9_addPart l D ct ad Z G y63 H.size a ((0 : Int32)) ((16 : Int32)) ((16 : Int32)) ((0 : Int32)) y64 hc hk hy64) (cwV 4 hts gX9_plan_X9_addPart rfl rfl rfl (by decide +kernel) ⟨Nat.le_of_ble_eq_true rfl, Nat.le_of_ble_eq_true rfl⟩) ⟨fun a U g mk q => by obtain ⟨q0, q1, qP, qK, qD, qZ, qN⟩ := q; exact ⟨q0, q1, qP, va_K.moved (u := U) (U := U.calling g mk a) (Vm.Alike.refl U.vm) qK, qD, sF.moved (u := U) (U := U.calling g mk a) (Vm.Alike.refl U.vm) qZ, nF.same rfl qN⟩, va_recv hK hP (ci := 9) (q0 := a) rfl (wld_o ct ad G y63 hc hk (by decide)), fun U hU hW => ⟨rfl, by rw [hU], by rw [hU]; exact hP, va_K.moved hW.alike hK, hD.weaken (fun _ _ _ _ => trivial), by rw [hU]; exact ((hZ.kept hS.2.1).narrow hf9).moved hW.alike, hN.warm hW⟩⟩ rfl rfl hl.1 rfl (lv_room (Nat.le_of_ble_eq_true rfl)) dX9_plan_150 ⟨(Nat.zero_le _), (Nat.zero_le _)⟩) hS (fun q _ h => hf9 q h) hf9 (fun u t H locs ht hvm hw hB hz1 hk1 hS => ?_)
              obtain ⟨hP, hK9, hD9⟩ := hB
              rw [ht] at hP
              have hD := hD9.weaken (fun _ q _ h => hf9 q.1 h)
              refine lv_goto (tgt := 250) hx hb dX9_plan_153 (by decide) ?_
              obtain rfl := Option.some.inj hF
              exact J51 _ _ _ hP hD hS (lv_sub hl [0, 1, 2, 3, 4, 5, 6] rfl)
          clear hF
          have hF := hy50
          clear hy50
          refine lv_if_eq (tgt := 113) hx hb dX9_plan_105 (by decide) (fun c65 => ?_) (fun c65 => ?_)
          · rw [if_pos c65] at hF
            refine lv_iload hx hb dX9_plan_113 (lv_at hl 0 rfl) ?_
            refine lv_goto (tgt := 126) hx hb dX9_plan_115 (by decide) ?_
            obtain rfl := Option.some.inj hF
            exact J50 _ _ _ hP hD hS (lv_sub hl [0, 1, 2, 3, 4, 5] rfl)
          · rw [if_neg c65] at hF
            refine lv_iload_n hx hb dX9_plan_108 rfl (lv_at hl 5 rfl) ?_
            refine lv_iconst (v := (4 : Int32)) hx hb dX9_plan_109 (by decide) ?_
            obtain ⟨y66, hy66, hF⟩ := bnd_some hF
            have J66 : ∀ (H : Heap) (locs : List Loc) (ls : Array Slot), va_P D classes (wld ct ad G M2) H → va_D A (wld ct ad G M2) → va_S A s.heap H locs → lv_has ls 7 [(5, .int y49), (4, .int x48), (3, .int y46), (0, .ref (ad a)), (1, .int p0), (2, .int p1)] → W p l e (headSpec wsX9_plan ({ frames := 2, cells := 0, slots := 0, locals := 53 })).room s m ([.ref (ad a), .int p0, .int p1] : List Value).toArray below meth c H locs 0 0 (MQ below (va_Qv (fun (_ : Unit) => True) (fun _ t => kE D ct ad G A y t) A) ([.ref (ad a), .int p0, .int p1] : List Value).toArray s 0 0 A) (F0 m 126 ls [.int y66]) := by
              intro H locs ls hP hD hS hl
              obtain rfl := Option.some.inj hF
              exact J50 _ _ _ hP hD hS (lv_sub hl [0, 1, 2, 3, 4, 5] rfl)
            clear hF
            have hF := hy66
            clear hy66
            refine lv_icmp_ge (tgt := 118) hx hb dX9_plan_110 (by decide) (fun c67 => ?_) (fun c67 => ?_)
            · rw [if_pos c67] at hF
              refine va_gets hx hb (hZ.1 16 (by decide)).1 hS hown (hts (.fieldLink RX9 145 "VideoSuite$Work" "PAIR_USE" "[I") (by decide +kernel)) (fun _ h => h) dX9_plan_118 ?_
              refine lv_iload hx hb dX9_plan_121 (lv_at hl 1 rfl) ?_
              refine lv_iconst (v := (1 : Int32)) hx hb dX9_plan_123 (by decide) ?_
              refine lv_iadd hx hb dX9_plan_124 ?_
              obtain ⟨x68, ex68, hF⟩ := ltt_some hF
              refine lv_topi (fun zx68 ezx68 => ?_)
              obtain rfl : x68 = zx68 := ex68.trans ezx68.symm
              obtain ⟨hvc, hF⟩ := chk_some hF
              refine va_ti (v := .int ((sT 16).getD x68.toNatClampNeg 0)) hx hb (hZ.1 16 (by decide)).2 hS hvc rfl dX9_plan_125 ?_
              obtain ⟨x69, ex69, hF⟩ := ltt_some hF
              refine lv_topi (fun zx69 ezx69 => ?_)
              obtain rfl : x69 = zx69 := ex69.trans ezx69.symm
              obtain rfl := Option.some.inj hF
              exact J66 _ _ _ hP hD hS (lv_sub hl [0, 1, 2, 3, 4, 5] rfl)
            · rw [if_neg c67] at hF
              refine lv_iload hx hb dX9_plan_113 (lv_at hl 0 rfl) ?_
              refine lv_goto (tgt := 126) hx hb dX9_plan_115 (by decide) ?_
              obtain rfl := Option.some.inj hF
              exact J66 _ _ _ hP hD hS (lv_sub hl [0, 1, 2, 3, 4, 5] rfl)
        clear hF
        have hF := hy49
        clear hy49
        refine lv_if_ne (tgt := 87) hx hb dX9_plan_80 (by decide) (fun c70 => ?_) (fun c70 => ?_)
        · rw [if_neg c70] at hF
          refine lv_iload_n hx hb dX9_plan_87 rfl (lv_at hl 4 rfl) ?_
          refine lv_iconst (v := (4 : Int32)) hx hb dX9_plan_88 (by decide) ?_
          obtain ⟨y71, hy71, hF⟩ := bnd_some hF
          have J71 : ∀ (H : Heap) (locs : List Loc) (ls : Array Slot), va_P D classes (wld ct ad G M2) H → va_D A (wld ct ad G M2) → va_S A s.heap H locs → lv_has ls 7 [(4, .int x48), (3, .int y46), (0, .ref (ad a)), (1, .int p0), (2, .int p1)] → W p l e (headSpec wsX9_plan ({ frames := 2, cells := 0, slots := 0, locals := 53 })).room s m ([.ref (ad a), .int p0, .int p1] : List Value).toArray below meth c H locs 0 0 (MQ below (va_Qv (fun (_ : Unit) => True) (fun _ t => kE D ct ad G A y t) A) ([.ref (ad a), .int p0, .int p1] : List Value).toArray s 0 0 A) (F0 m 102 ls [.int y71]) := by
            intro H locs ls hP hD hS hl
            obtain rfl := Option.some.inj hF
            exact J49 _ _ _ hP hD hS (lv_sub hl [0, 1, 2, 3, 4] rfl)
          clear hF
          have hF := hy71
          clear hy71
          refine lv_icmp_ge (tgt := 96) hx hb dX9_plan_89 (by decide) (fun c72 => ?_) (fun c72 => ?_)
          · rw [if_pos c72] at hF
            refine va_gets hx hb (hZ.1 16 (by decide)).1 hS hown (hts (.fieldLink RX9 145 "VideoSuite$Work" "PAIR_USE" "[I") (by decide +kernel)) (fun _ h => h) dX9_plan_96 ?_
            refine lv_iload hx hb dX9_plan_99 (lv_at hl 0 rfl) ?_
            obtain ⟨hvc, hF⟩ := chk_some hF
            refine va_ti (v := .int ((sT 16).getD x48.toNatClampNeg 0)) hx hb (hZ.1 16 (by decide)).2 hS hvc rfl dX9_plan_101 ?_
            obtain ⟨x73, ex73, hF⟩ := ltt_some hF
            refine lv_topi (fun zx73 ezx73 => ?_)
            obtain rfl : x73 = zx73 := ex73.trans ezx73.symm
            obtain rfl := Option.some.inj hF
            exact J71 _ _ _ hP hD hS (lv_sub hl [0, 1, 2, 3, 4] rfl)
          · rw [if_neg c72] at hF
            refine lv_iload_n hx hb dX9_plan_92 rfl (lv_at hl 4 rfl) ?_
            refine lv_goto (tgt := 102) hx hb dX9_plan_93 (by decide) ?_
            obtain rfl := Option.some.inj hF
            exact J71 _ _ _ hP hD hS (lv_sub hl [0, 1, 2, 3, 4] rfl)
        · rw [if_pos c70] at hF
          refine lv_iconst (v := (1 : Int32)) hx hb dX9_plan_83 (by decide) ?_
          refine lv_goto (tgt := 102) hx hb dX9_plan_84 (by decide) ?_
          obtain rfl := Option.some.inj hF
          exact J49 _ _ _ hP hD hS (lv_sub hl [0, 1, 2, 3, 4] rfl)
      clear hF
      have hF := hy46
      clear hy46
      refine lv_if_ne (tgt := 56) hx hb dX9_plan_49 (by decide) (fun c74 => ?_) (fun c74 => ?_)
      · rw [if_neg c74] at hF
        refine lv_iload_n hx hb dX9_plan_56 rfl (lv_at hl 2 rfl) ?_
        refine lv_iconst (v := (4 : Int32)) hx hb dX9_plan_57 (by decide) ?_
        obtain ⟨y75, hy75, hF⟩ := bnd_some hF
        have J75 : ∀ (H : Heap) (locs : List Loc) (ls : Array Slot), va_P D classes (wld ct ad G M2) H → va_D A (wld ct ad G M2) → va_S A s.heap H locs → lv_has ls 7 [(0, .ref (ad a)), (1, .int p0), (2, .int p1)] → W p l e (headSpec wsX9_plan ({ frames := 2, cells := 0, slots := 0, locals := 53 })).room s m ([.ref (ad a), .int p0, .int p1] : List Value).toArray below meth c H locs 0 0 (MQ below (va_Qv (fun (_ : Unit) => True) (fun _ t => kE D ct ad G A y t) A) ([.ref (ad a), .int p0, .int p1] : List Value).toArray s 0 0 A) (F0 m 70 ls [.int y75]) := by
          intro H locs ls hP hD hS hl
          obtain rfl := Option.some.inj hF
          exact J46 _ _ _ hP hD hS (lv_sub hl [0, 1, 2] rfl)
        clear hF
        have hF := hy75
        clear hy75
        refine lv_icmp_ge (tgt := 65) hx hb dX9_plan_58 (by decide) (fun c76 => ?_) (fun c76 => ?_)
        · rw [if_pos c76] at hF
          refine lv_iconst (v := (1 : Int32)) hx hb dX9_plan_65 (by decide) ?_
          refine lv_iload_n hx hb dX9_plan_66 rfl (lv_at hl 2 rfl) ?_
          refine lv_iconst (v := (2 : Int32)) hx hb dX9_plan_67 (by decide) ?_
          refine lv_irem hx hb dX9_plan_68 (by decide) ?_
          obtain ⟨x77, ex77, hF⟩ := ltt_some hF
          refine lv_topi (fun zx77 ezx77 => ?_)
          obtain rfl : x77 = zx77 := ex77.trans ezx77.symm
          refine lv_iadd hx hb dX9_plan_69 ?_
          obtain ⟨x78, ex78, hF⟩ := ltt_some hF
          refine lv_topi (fun zx78 ezx78 => ?_)
          obtain rfl : x78 = zx78 := ex78.trans ezx78.symm
          obtain rfl := Option.some.inj hF
          exact J75 _ _ _ hP hD hS (lv_sub hl [0, 1, 2] rfl)
        · rw [if_neg c76] at hF
          refine lv_iconst (v := (0 : Int32)) hx hb dX9_plan_61 (by decide) ?_
          refine lv_goto (tgt := 70) hx hb dX9_plan_62 (by decide) ?_
          obtain rfl := Option.some.inj hF
          exact J75 _ _ _ hP hD hS (lv_sub hl [0, 1, 2] rfl)
      · rw [if_pos c74] at hF
        refine lv_iload_n hx hb dX9_plan_52 rfl (lv_at hl 2 rfl) ?_
        refine lv_goto (tgt := 70) hx hb dX9_plan_53 (by decide) ?_
        obtain rfl := Option.some.inj hF
        exact J46 _ _ _ hP hD hS (lv_sub hl [0, 1, 2] rfl)
    · rw [if_neg c45] at hF
      refine lv_goto (tgt := 28) hx hb dX9_plan_19 (by decide) ?_
      refine lv_iconst (v := (0 : Int32)) hx hb dX9_plan_28 (by decide) ?_
      refine lv_istore_n (lv' := [(3, .int (0 : Int32)), (0, .ref (ad a)), (1, .int p0), (2, .int p1)]) hx hb dX9_plan_29 rfl hl (by decide) rfl (fun ls hl => ?_)
      obtain ⟨y79, hy79, hF⟩ := bnd_some hF
      have K79 : ∀ (H : Heap) (locs : List Loc) (ls : Array Slot), va_P D classes (wld ct ad G y79.2) H → va_D A (wld ct ad G y79.2) → va_S A s.heap H locs → lv_has ls 7 [(3, .int y79.1), (0, .ref (ad a)), (1, .int p0), (2, .int p1)] → W p l e (headSpec wsX9_plan ({ frames := 2, cells := 0, slots := 0, locals := 53 })).room s m ([.ref (ad a), .int p0, .int p1] : List Value).toArray below meth c H locs 0 0 (MQ below (va_Qv (fun (_ : Unit) => True) (fun _ t => kE D ct ad G A y t) A) ([.ref (ad a), .int p0, .int p1] : List Value).toArray s 0 0 A) (F0 m 47 ls []) := by
        intro H locs ls hP hD hS hl
        obtain rfl := Option.some.inj hF
        exact W.vret hx hb hr (fun t ht hW => ⟨⟨(), rfl, trivial, ⟨by rw [ht]; exact hP, va_K.moved hW.alike hK, hD⟩⟩, hS.F ht⟩) hS.2.2 dX9_plan_47
      clear hF
      refine itr_rule (fun (s80 : Int32 × DD) => ∀ (H : Heap) (locs : List Loc) (ls : Array Slot), va_P D classes (wld ct ad G s80.2) H → va_D A (wld ct ad G s80.2) → va_S A s.heap H locs → lv_has ls 7 [(3, .int s80.1), (0, .ref (ad a)), (1, .int p0), (2, .int p1)] → W p l e (headSpec wsX9_plan ({ frames := 2, cells := 0, slots := 0, locals := 53 })).room s m ([.ref (ad a), .int p0, .int p1] : List Value).toArray below meth c H locs 0 0 (MQ below (va_Qv (fun (_ : Unit) => True) (fun _ t => kE D ct ad G A y t) A) ([.ref (ad a), .int p0, .int p1] : List Value).toArray s 0 0 A) (F0 m 30 ls [])) ?_ _ _ hy79 _ _ _ hP hD hS (lv_sub hl [0, 1, 2, 3] rfl)
      rintro s80 ⟨z82, hF, hwz82⟩ H locs ls hP hD hS hl
      try dsimp only at hF
      refine lv_iload_n hx hb dX9_plan_30 rfl (lv_at hl 0 rfl) ?_
      refine lv_iconst (v := (4 : Int32)) hx hb dX9_plan_31 (by decide) ?_
      refine lv_icmp_ge (tgt := 47) hx hb dX9_plan_32 (by decide) (fun c83 => ?_) (fun c83 => ?_)
      · rw [if_pos c83] at hF
        obtain rfl := Option.some.inj hF
        subst hwz82
        exact K79 _ _ _ hP hD hS (lv_sub hl [0, 1, 2, 3] rfl)
      · rw [if_neg c83] at hF
        refine lv_aload_n hx hb dX9_plan_35 rfl (lv_at hl 1 rfl) ?_
        refine lv_iload_n hx hb dX9_plan_36 rfl (lv_at hl 2 rfl) ?_
        refine lv_iload_n hx hb dX9_plan_37 rfl (lv_at hl 0 rfl) ?_
        obtain ⟨y84, hy84, hF⟩ := bnd_some hF
        have hf9 := wA_in hD hA9 hS
        refine va_callv (va_runV (As := [.int p0, .int s80.1]) (rest := []) ⟨hx, hb, hml, hown, hts⟩ (kX9_planQuarter l D ct ad Z G s80.2 H.size a p0 s80.1 y84 hc hk hy84) (cwV 2 hts gX9_plan_X9_planQuarter rfl rfl rfl (by decide +kernel) ⟨Nat.le_of_ble_eq_true rfl, Nat.le_of_ble_eq_true rfl⟩) ⟨fun a U g mk q => by obtain ⟨q0, q1, qP, qK, qD, qZ, qN⟩ := q; exact ⟨q0, q1, qP, va_K.moved (u := U) (U := U.calling g mk a) (Vm.Alike.refl U.vm) qK, qD, sF.moved (u := U) (U := U.calling g mk a) (Vm.Alike.refl U.vm) qZ, nF.same rfl qN⟩, va_recv hK hP (ci := 9) (q0 := a) rfl (wld_o ct ad G s80.2 hc hk (by decide)), fun U hU hW => ⟨rfl, by rw [hU], by rw [hU]; exact hP, va_K.moved hW.alike hK, hD.weaken (fun _ _ _ _ => trivial), by rw [hU]; exact ((hZ.kept hS.2.1).narrow hf9).moved hW.alike, hN.warm hW⟩⟩ rfl rfl hl.1 rfl (lv_room (Nat.le_of_ble_eq_true rfl)) dX9_plan_38 ⟨(Nat.zero_le _), (Nat.zero_le _)⟩) hS (fun q _ h => hf9 q h) hf9 (fun u t H locs ht hvm hw hB hz1 hk1 hS => ?_)
        obtain ⟨hP, hK9, hD9⟩ := hB
        rw [ht] at hP
        have hD := hD9.weaken (fun _ q _ h => hf9 q.1 h)
        obtain ⟨x85, ex85, hF⟩ := ltt_some hF
        refine lv_iinc (v := x85) (lv' := [(3, .int x85), (0, .ref (ad a)), (1, .int p0), (2, .int p1)]) hx hb dX9_plan_41 hl (k := 0) rfl (by rw [ex85]; rfl) (by decide) rfl (fun ls hl => ?_)
        refine lv_goto (tgt := 30) hx hb dX9_plan_44 (by decide) ?_
        obtain rfl := Option.some.inj hF
        exact hwz82 _ _ _ hP hD hS (lv_sub hl [0, 1, 2, 3] rfl)
