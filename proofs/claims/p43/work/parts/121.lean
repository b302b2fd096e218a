set_option maxRecDepth 20000 in
theorem gX9_guessMode_X9_pieceX : GoodIn wuX9_guessMode (va_wsS RX9 122 yX9_pieceX wuX9_pieceX) := gu_S mw_1918 mw_949 mw_171 mw_950
set_option maxRecDepth 20000 in
set_option maxRecDepth 20000 in
theorem gX9_guessMode_X9_pieceY : GoodIn wuX9_guessMode (va_wsS RX9 126 yX9_pieceY wuX9_pieceY) := gu_S mw_1919 mw_952 mw_171 mw_953
set_option maxRecDepth 20000 in
set_option maxRecDepth 20000 in
theorem gX9_guessMode_X9_pieceAt : GoodIn wuX9_guessMode (wsV RX9 111 RX9 yX9_pieceAt wuX9_pieceAt) := gu_V mw_1906 mw_1907 mw_1908 mw_171 mw_1909
set_option maxRecDepth 20000 in
set_option maxRecDepth 20000 in
theorem gX9_guessMode_X9_modeAt : GoodIn wuX9_guessMode (wsV RX9 129 RX9 yX9_modeAt wuX9_modeAt) := gu_V mw_2188 mw_2190 mw_96 mw_171 mw_2191
theorem dX9_guessMode_0 : decode cX9_guessMode 0 = .ok (.aload_n 0, 1) := by decide +kernel
theorem dX9_guessMode_1 : decode cX9_guessMode 1 = .ok (.aload_n 0, 1) := by decide +kernel
theorem dX9_guessMode_2 : decode cX9_guessMode 2 = .ok (.iload_n 1, 1) := by decide +kernel
theorem dX9_guessMode_3 : decode cX9_guessMode 3 = .ok (.iload_n 2, 1) := by decide +kernel
theorem dX9_guessMode_4 : decode cX9_guessMode 4 = .ok (.invokestatic 122, 3) := by decide +kernel
theorem dX9_guessMode_7 : decode cX9_guessMode 7 = .ok (.iconst 1, 1) := by decide +kernel
theorem dX9_guessMode_8 : decode cX9_guessMode 8 = .ok (.isub, 1) := by decide +kernel
theorem dX9_guessMode_9 : decode cX9_guessMode 9 = .ok (.iload_n 2, 1) := by decide +kernel
theorem dX9_guessMode_10 : decode cX9_guessMode 10 = .ok (.invokestatic 126, 3) := by decide +kernel
theorem dX9_guessMode_13 : decode cX9_guessMode 13 = .ok (.bipush 16, 2) := by decide +kernel
theorem dX9_guessMode_15 : decode cX9_guessMode 15 = .ok (.invokevirtual 111, 3) := by decide +kernel
theorem dX9_guessMode_18 : decode cX9_guessMode 18 = .ok (.invokevirtual 129, 3) := by decide +kernel
theorem dX9_guessMode_21 : decode cX9_guessMode 21 = .ok (.istore_n 3, 1) := by decide +kernel
theorem dX9_guessMode_22 : decode cX9_guessMode 22 = .ok (.aload_n 0, 1) := by decide +kernel
theorem dX9_guessMode_23 : decode cX9_guessMode 23 = .ok (.aload_n 0, 1) := by decide +kernel
theorem dX9_guessMode_24 : decode cX9_guessMode 24 = .ok (.iload_n 1, 1) := by decide +kernel
theorem dX9_guessMode_25 : decode cX9_guessMode 25 = .ok (.iload_n 2, 1) := by decide +kernel
theorem dX9_guessMode_26 : decode cX9_guessMode 26 = .ok (.invokestatic 122, 3) := by decide +kernel
theorem dX9_guessMode_29 : decode cX9_guessMode 29 = .ok (.iload_n 2, 1) := by decide +kernel
theorem dX9_guessMode_30 : decode cX9_guessMode 30 = .ok (.invokestatic 126, 3) := by decide +kernel
theorem dX9_guessMode_33 : decode cX9_guessMode 33 = .ok (.iconst 1, 1) := by decide +kernel
theorem dX9_guessMode_34 : decode cX9_guessMode 34 = .ok (.isub, 1) := by decide +kernel
theorem dX9_guessMode_35 : decode cX9_guessMode 35 = .ok (.bipush 16, 2) := by decide +kernel
theorem dX9_guessMode_37 : decode cX9_guessMode 37 = .ok (.invokevirtual 111, 3) := by decide +kernel
theorem dX9_guessMode_40 : decode cX9_guessMode 40 = .ok (.invokevirtual 129, 3) := by decide +kernel
theorem dX9_guessMode_43 : decode cX9_guessMode 43 = .ok (.istore 4, 2) := by decide +kernel
theorem dX9_guessMode_45 : decode cX9_guessMode 45 = .ok (.iload_n 3, 1) := by decide +kernel
theorem dX9_guessMode_46 : decode cX9_guessMode 46 = .ok (.ifCond .lt 8, 3) := by decide +kernel
theorem dX9_guessMode_49 : decode cX9_guessMode 49 = .ok (.iload 4, 2) := by decide +kernel
theorem dX9_guessMode_51 : decode cX9_guessMode 51 = .ok (.ifCond .ge 7, 3) := by decide +kernel
theorem dX9_guessMode_54 : decode cX9_guessMode 54 = .ok (.iconst 2, 1) := by decide +kernel
theorem dX9_guessMode_55 : decode cX9_guessMode 55 = .ok (.goto 15, 3) := by decide +kernel
theorem dX9_guessMode_58 : decode cX9_guessMode 58 = .ok (.iload_n 3, 1) := by decide +kernel
theorem dX9_guessMode_59 : decode cX9_guessMode 59 = .ok (.iload 4, 2) := by decide +kernel
theorem dX9_guessMode_61 : decode cX9_guessMode 61 = .ok (.if_icmp .ge 7, 3) := by decide +kernel
theorem dX9_guessMode_64 : decode cX9_guessMode 64 = .ok (.iload_n 3, 1) := by decide +kernel
theorem dX9_guessMode_65 : decode cX9_guessMode 65 = .ok (.goto 5, 3) := by decide +kernel
theorem dX9_guessMode_68 : decode cX9_guessMode 68 = .ok (.iload 4, 2) := by decide +kernel
theorem dX9_guessMode_70 : decode cX9_guessMode 70 = .ok (.ireturn, 1) := by decide +kernel
def FX9_guessMode (G : GG) (M : DD) (a : Nat) (p0 : Int32) (p1 : Int32) : Option (DD × Int32) :=
  bnd (FX9_pieceX G M p1) fun y1 =>
  ltt ((y1.2 - ((1 : Int32)))) fun x2 =>
  bnd (FX9_pieceY G y1.1 p1) fun y3 =>
  bnd (FX9_pieceAt G y3.1 a p0 x2 y3.2 ((16 : Int32))) fun y4 =>
  bnd (FX9_modeAt G y4.1 a y4.2) fun y5 =>
  bnd (FX9_pieceX G y5.1 p1) fun y6 =>
  bnd (FX9_pieceY G y6.1 p1) fun y7 =>
  ltt ((y7.2 - ((1 : Int32)))) fun x8 =>
  bnd (FX9_pieceAt G y7.1 a p0 y6.2 x8 ((16 : Int32))) fun y9 =>
  bnd (FX9_modeAt G y9.1 a y9.2) fun y10 =>
  bnd (if y5.2 < ((0 : Int32)) then (some ((2 : Int32))) else
  (bnd (if ((0 : Int32)) ≤ y10.2 then (bnd (if y10.2 ≤ y5.2 then (some (y10.2)) else
  (some (y5.2))) fun (y15 : Int32) =>
  some (y15)) else
  (some ((2 : Int32)))) fun (y13 : Int32) =>
  some (y13))) fun (y11 : Int32) =>
  some (y10.1, y11)
set_option maxHeartbeats 4000000 in
set_option maxRecDepth 100000 in
theorem kX9_guessMode (l : Launch) (D : va_G) (ct : CT) (ad : Nat → Nat) (Z : Nat → Nat) (G : GG) (M : DD) (sz : Nat) (a : Nat) (p0 : Int32) (p1 : Int32) (y : DD × Int32) (hc : a < G.1) (hk : G.2.1 a = 9) (hF : FX9_guessMode G M a p0 p1 = some y) : Met l yX9_guessMode wuX9_guessMode ({ frames := 1, cells := 0, slots := 0, locals := 28 }) (va_Pc [.ref (ad a), .int p0, .int p1] (kB D ct ad Z G M sz)) (va_Qi (fun (q : Int32) (_ : Unit) => q = y.2) (fun _ t => kE D ct ad G (wA ad G sz) y.1 t) (wA ad G sz)) 0 0 (wA ad G sz) := by
  refine Met.ofW (cc := cX9_guessMode) (maxL := 5) (ret := (some .int)) (by decide) rfl ?_
  intro p e s m args below meth c s₁ B hml hv
  obtain ⟨rfl, hsz, hP, hK, hD0, hZ, hN⟩ := hv
  have hx := B.exec
  have hb := B.bytes
  have hr := B.returns
  have hts := atoms_spec (ws := wuX9_guessMode) B.pre
  have hown : s.vm.findClass RX9 = some m.cls := findClass_of_methodNamed B.named
  have hlocks := B.notSynchronized
  subst hsz
  have hD := wD_self (sz := s.heap.size) hD0
  have hA9 : ∀ q, s.heap.size ≤ q → wA ad G s.heap.size q := fun q h => Or.inr h
  generalize hAe : wA ad G s.heap.size = A at hD hA9 hZ ⊢
  have hS : va_S A s.heap s.heap [] := va_S.rf
  have hl := lv_entry ([.ref (ad a), .int p0, .int p1]) (n := 5) (Nat.le_of_ble_eq_true rfl)
  rw [lg_entry_eq]
  generalize (lg_sl ([.ref (ad a), .int p0, .int p1]) ++ List.replicate (5 - (lg_sl ([.ref (ad a), .int p0, .int p1])).length) Slot.unset).toArray = ls at hl ⊢
  have hl : lv_has ls 5 [(0, .ref (ad a)), (1, .int p0), (2, .int p1)] := hl
  unfold FX9_guessMode at hF
  refine lv_aload_n hx hb dX9_guessMode_0 rfl (lv_at hl 0 rfl) ?_
  refine lv_aload_n hx hb dX9_guessMode_1 rfl (lv_at hl 0 rfl) ?_
  refine lv_iload_n hx hb dX9_guessMode_2 rfl (lv_at hl 1 rfl) ?_
  refine lv_iload_n hx hb dX9_guessMode_3 rfl (lv_at hl 2 rfl) ?_
  obtain ⟨y1, hy1, hF⟩ := bnd_some hF
  have hf9 := wA_in hD hA9 hS
  refine va_calli (va_runS (As := [.int p1]) (rest := [.int p0, .ref (ad a), .ref (ad a)]) ⟨hx, hb, hml, hown, hts⟩ (kX9_pieceX l D ct ad Z G M s.heap.size p1 y1 hy1) (va_cwS 1 hts gX9_guessMode_X9_pieceX rfl rfl rfl (by decide +kernel) ⟨Nat.le_of_ble_eq_true rfl, Nat.le_of_ble_eq_true rfl⟩) ⟨fun a U g mk q => by obtain ⟨q0, q1, qP, qK, qD, qZ, qN⟩ := q; exact ⟨q0, q1, qP, va_K.moved (u := U) (U := U.calling g mk a) (Vm.Alike.refl U.vm) qK, qD, sF.moved (u := U) (U := U.calling g mk a) (Vm.Alike.refl U.vm) qZ, nF.same rfl qN⟩, fun U hU hW => ⟨rfl, by rw [hU], by rw [hU]; exact hP, va_K.moved hW.alike hK, hD.weaken (fun _ _ _ _ => trivial), by rw [hU]; exact ((hZ.kept hS.2.1).narrow hf9).moved hW.alike, hN.warm hW⟩⟩ rfl rfl hl.1 rfl (lv_room (Nat.le_of_ble_eq_true rfl)) dX9_guessMode_4 ⟨(Nat.zero_le _), (Nat.zero_le _)⟩) hS (fun q _ h => hf9 q h) hf9 (fun r u t H locs ht hvm hw hB hz1 hk1 hS => ?_)
  obtain ⟨hP, hK9, hD9⟩ := hB
  rw [ht] at hP
  try dsimp only at hw
  subst hw
  have hD := hD9.weaken (fun _ q _ h => hf9 q.1 h)
  refine lv_iconst (v := (1 : Int32)) hx hb dX9_guessMode_7 (by decide) ?_
  refine lv_isub hx hb dX9_guessMode_8 ?_
  obtain ⟨x2, ex2, hF⟩ := ltt_some hF
  refine lv_topi (fun zx2 ezx2 => ?_)
  obtain rfl : x2 = zx2 := ex2.trans ezx2.symm
  refine lv_iload_n hx hb dX9_guessMode_9 rfl (lv_at hl 2 rfl) ?_
  obtain ⟨y3, hy3, hF⟩ := bnd_some hF
  have hf9 := wA_in hD hA9 hS
  refine va_calli (va_runS (As := [.int p1]) (rest := [.int x2, .int p0, .ref (ad a), .ref (ad a)]) ⟨hx, hb, hml, hown, hts⟩ (kX9_pieceY l D ct ad Z G y1.1 H.size p1 y3 hy3) (va_cwS 1 hts gX9_guessMode_X9_pieceY rfl rfl rfl (by decide +kernel) ⟨Nat.le_of_ble_eq_true rfl, Nat.le_of_ble_eq_true rfl⟩) ⟨fun a U g mk q => by obtain ⟨q0, q1, qP, qK, qD, qZ, qN⟩ := q; exact ⟨q0, q1, qP, va_K.moved (u := U) (U := U.calling g mk a) (Vm.Alike.refl U.vm) qK, qD, sF.moved (u := U) (U := U.calling g mk a) (Vm.Alike.refl U.vm) qZ, nF.same rfl qN⟩, fun U hU hW => ⟨rfl, by rw [hU], by rw [hU]; exact hP, va_K.moved hW.alike hK, hD.weaken (fun _ _ _ _ => trivial), by rw [hU]; exact ((hZ.kept hS.2.1).narrow hf9).moved hW.alike, hN.warm hW⟩⟩ rfl rfl hl.1 rfl (lv_room (Nat.le_of_ble_eq_true rfl)) dX9_guessMode_10 ⟨(Nat.zero_le _), (Nat.zero_le _)⟩) hS (fun q _ h => hf9 q h) hf9 (fun r u t H locs ht hvm hw hB hz1 hk1 hS => ?_)
  obtain ⟨hP, hK9, hD9⟩ := hB
  rw [ht] at hP
  try dsimp only at hw
  subst hw
  have hD := hD9.weaken (fun _ q _ h => hf9 q.1 h)
  refine lv_bipush (v := (16 : Int32)) hx hb dX9_guessMode_13 (by decide) ?_
  obtain ⟨y4, hy4, hF⟩ := bnd_some hF
  have hf9 := wA_in hD hA9 hS
  refine va_calli (va_runV (As := [.int p0, .int x2, .int y3.2, .int (16 : Int32)]) (rest := [.ref (ad a)]) ⟨hx, hb, hml, hown, hts⟩ (kX9_pieceAt l D ct ad Z G y3.1 H.size a p0 x2 y3.2 ((16 : Int32)) y4 hc hk hy4) (cwV 4 hts gX9_guessMode_X9_pieceAt rfl rfl rfl (by decide +kernel) ⟨Nat.le_of_ble_eq_true rfl, Nat.le_of_ble_eq_true rfl⟩) ⟨fun a U g mk q => by obtain ⟨q0, q1, qP, qK, qD, qZ, qN⟩ := q; exact ⟨q0, q1, qP, va_K.moved (u := U) (U := U.calling g mk a) (Vm.Alike.refl U.vm) qK, qD, sF.moved (u := U) (U := U.calling g mk a) (Vm.Alike.refl U.vm) qZ, nF.same rfl qN⟩, va_recv hK hP (ci := 9) (q0 := a) rfl (wld_o ct ad G y3.1 hc hk (by decide)), fun U hU hW => ⟨rfl, by rw [hU], by rw [hU]; exact hP, va_K.moved hW.alike hK, hD.weaken (fun _ _ _ _ => trivial), by rw [hU]; exact ((hZ.kept hS.2.1).narrow hf9).moved hW.alike, hN.warm hW⟩⟩ rfl rfl hl.1 rfl (lv_room (Nat.le_of_ble_eq_true rfl)) dX9_guessMode_15 ⟨(Nat.zero_le _), (Nat.zero_le _)⟩) hS (fun q _ h => hf9 q h) hf9 (fun r u t H locs ht hvm hw hB hz1 hk1 hS => ?_)
  obtain ⟨hP, hK9, hD9⟩ := hB
  rw [ht] at hP
  try dsimp only at hw
  subst hw
  have hD := hD9.weaken (fun _ q _ h => hf9 q.1 h)
  obtain ⟨y5, hy5, hF⟩ := bnd_some hF
  have hf9 := wA_in hD hA9 hS
  refine va_calli (va_runV (As := [.int y4.2]) (rest := []) ⟨hx, hb, hml, hown, hts⟩ (kX9_modeAt l D ct ad Z G y4.1 H.size a y4.2 y5 hc hk hy5) (cwV 1 hts gX9_guessMode_X9_modeAt rfl rfl rfl (by decide +kernel) ⟨Nat.le_of_ble_eq_true rfl, Nat.le_of_ble_eq_true rfl⟩) ⟨fun a U g mk q => by obtain ⟨q0, q1, qP, qK, qD, qZ, qN⟩ := q; exact ⟨q0, q1, qP, va_K.moved (u := U) (U := U.calling g mk a) (Vm.Alike.refl U.vm) qK, qD, sF.moved (u := U) (U := U.calling g mk a) (Vm.Alike.refl U.vm) qZ, nF.same rfl qN⟩, va_recv hK hP (ci := 9) (q0 := a) rfl (wld_o ct ad G y4.1 hc hk (by decide)), fun U hU hW => ⟨rfl, by rw [hU], by rw [hU]; exact hP, va_K.moved hW.alike hK, hD.weaken (fun _ _ _ _ => trivial), by rw [hU]; exact ((hZ.kept hS.2.1).narrow hf9).moved hW.alike, hN.warm hW⟩⟩ rfl rfl hl.1 rfl (lv_room (Nat.le_of_ble_eq_true rfl)) dX9_guessMode_18 ⟨(Nat.zero_le _), (Nat.zero_le _)⟩) hS (fun q _ h => hf9 q h) hf9 (fun r u t H locs ht hvm hw hB hz1 hk1 hS => ?_)
  obtain ⟨hP, hK9, hD9⟩ := hB
  rw [ht] at hP
  try dsimp only at hw
  subst hw
  have hD := hD9.weaken (fun _ q _ h => hf9 q.1 h)
  refine lv_istore_n (lv' := [(3, .int y5.2), (0, .ref (ad a)), (1, .int p0), (2, .int p1)]) hx hb dX9_guessMode_21 rfl hl (by decide) rfl (fun ls hl => ?_)
  refine lv_aload_n hx hb dX9_guessMode_22 rfl (lv_at hl 1 rfl) ?_
  refine lv_aload_n hx hb dX9_guessMode_23 rfl (lv_at hl 1 rfl) ?_
  refine lv_iload_n hx hb dX9_guessMode_24 rfl (lv_at hl 2 rfl) ?_
  refine lv_iload_n hx hb dX9_guessMode_25 rfl (lv_at hl 3 rfl) ?_
  obtain ⟨y6, hy6, hF⟩ := bnd_some hF
  have hf9 := wA_in hD hA9 hS
  refine va_calli (va_runS (As := [.int p1]) (rest := [.int p0, .ref (ad a), .ref (ad a)]) ⟨hx, hb, hml, hown, hts⟩ (kX9_pieceX l D ct ad Z G y5.1 H.size p1 y6 hy6) (va_cwS 1 hts gX9_guessMode_X9_pieceX rfl rfl rfl (by decide +kernel) ⟨Nat.le_of_ble_eq_true rfl, Nat.le_of_ble_eq_true rfl⟩) ⟨fun a U g mk q => by obtain ⟨q0, q1, qP, qK, qD, qZ, qN⟩ := q; exact ⟨q0, q1, qP, va_K.moved (u := U) (U := U.calling g mk a) (Vm.Alike.refl U.vm) qK, qD, sF.moved (u := U) (U := U.calling g mk a) (Vm.Alike.refl U.vm) qZ, nF.same rfl qN⟩, fun U hU hW => ⟨rfl, by rw [hU], by rw [hU]; exact hP, va_K.moved hW.alike hK, hD.weaken (fun _ _ _ _ => trivial), by rw [hU]; exact ((hZ.kept hS.2.1).narrow hf9).moved hW.alike, hN.warm hW⟩⟩ rfl rfl hl.1 rfl (lv_room (Nat.le_of_ble_eq_true rfl)) dX9_guessMode_26 ⟨(Nat.zero_le _), (Nat.zero_le _)⟩) hS (fun q _ h => hf9 q h) hf9 (fun r u t H locs ht hvm hw hB hz1 hk1 hS => ?_)
  obtain ⟨hP, hK9, hD9⟩ := hB
  rw [ht] at hP
  try dsimp only at hw
  subst hw
  have hD := hD9.weaken (fun _ q _ h => hf9 q.1 h)
  refine lv_iload_n hx hb dX9_guessMode_29 rfl (lv_at hl 3 rfl) ?_
  obtain ⟨y7, hy7, hF⟩ := bnd_some hF
  have hf9 := wA_in hD hA9 hS
  refine va_calli (va_runS (As := [.int p1]) (rest := [.int y6.2, .int p0, .ref (ad a), .ref (ad a)]) ⟨hx, hb, hml, hown, hts⟩ (kX9_pieceY l D ct ad Z G y6.1 H.size p1 y7 hy7) (va_cwS 1 hts gX9_guessMode_X9_pieceY rfl rfl rfl (by decide +kernel) ⟨Nat.le_of_ble_eq_true rfl, Nat.le_of_ble_eq_true rfl⟩) ⟨fun a U g mk q => by obtain ⟨q0, q1, qP, qK, qD, qZ, qN⟩ := q; exact ⟨q0, q1, qP, va_K.moved (u := U) (U := U.calling g mk a) (Vm.Alike.refl U.vm) qK, qD, sF.moved (u := U) (U := U.calling g mk a) (Vm.Alike.refl U.vm) qZ, nF.same rfl qN⟩, fun U hU hW => ⟨rfl, by rw [hU], by rw [hU]; exact hP, va_K.moved hW.alike hK, hD.weaken (fun _ _ _ _ => trivial), by rw [hU]; exact ((hZ.kept hS.2.1).narrow hf9).moved hW.alike, hN.warm hW⟩⟩ rfl rfl hl.1 rfl (lv_room (Nat.le_of_ble_eq_true rfl)) dX9_guessMode_30 ⟨(Nat.zero_le _), (Nat.zero_le _)⟩) hS (fun q _ h => hf9 q h) hf9 (fun r u t H locs ht hvm hw hB hz1 hk1 hS => ?_)
  obtain ⟨hP, hK9, hD9⟩ := hB
  rw [ht] at hP
  try dsimp only at hw
  subst hw
  have hD := hD9.weaken (fun _ q _ h => hf9 q.1 h)
  refine lv_iconst (v := (1 : Int32)) hx hb dX9_guessMode_33 (by decide) ?_
  refine lv_isub hx hb dX9_guessMode_34 ?_
  obtain ⟨x8, ex8, hF⟩ := ltt_some hF
  refine lv_topi (fun zx8 ezx8 => ?_)
  obtain rfl : x8 = zx8 := ex8.trans ezx8.symm
  refine lv_bipush (v := (16 : Int32)) hx hb dX9_guessMode_35 (by decide) ?_
  obtain ⟨y9, hy9, hF⟩ := bnd_some hF
  have hf9 := wA_in hD hA9 hS
  refine va_calli (va_runV (As := [.int p0, .int y6.2, .int x8, .int (16 : Int32)]) (rest := [.ref (ad a)]) ⟨hx, hb, hml, hown, hts⟩ (kX9_pieceAt l D ct ad Z G y7.1 H.size a p0 y6.2 x8 ((16 : Int32)) y9 hc hk hy9) (cwV 4 hts gX9_guessMode_X9_pieceAt rfl rfl rfl (by decide +kernel) ⟨Nat.le_of_ble_eq_true rfl, Nat.le_of_ble_eq_true rfl⟩) ⟨fun a U g mk q => by obtain ⟨q0, q1, qP, qK, qD, qZ, qN⟩ := q; exact ⟨q0, q1, qP, va_K.moved (u := U) (U := U.calling g mk a) (Vm.Alike.refl U.vm) qK, qD, sF.moved (u := U) (U := U.calling g mk a) (Vm.Alike.refl U.vm) qZ, nF.same rfl qN⟩, va_recv hK hP (ci := 9) (q0 := a) rfl (wld_o ct ad G y7.1 hc hk (by decide)), fun U hU hW => ⟨rfl, by rw [hU], by rw [hU]; exact hP, va_K.moved hW.alike hK, hD.weaken (fun _ _ _ _ => trivial), by rw [hU]; exact ((hZ.kept hS.2.1).narrow hf9).moved hW.alike, hN.warm hW⟩⟩ rfl rfl hl.1 rfl (lv_room (Nat.le_of_ble_eq_true rfl)) dX9_guessMode_37 ⟨(Nat.zero_le _), (Nat.zero_le _)⟩) hS (fun q _ h => hf9 q h) hf9 (fun r u t H locs ht hvm hw hB hz1 hk1 hS => ?_)
  obtain ⟨hP, hK9, hD9⟩ := hB
  rw [ht] at hP
  try dsimp only at hw
  subst hw
  have hD := hD9.weaken (fun _ q _ h => hf9 q.1 h)
  obtain ⟨y10, hy10, hF⟩ := bnd_some hF
  have hf9 := wA_in hD hA9 hS
  refine va_calli (va_runV (As := [.int y9.2]) (rest := []) ⟨hx, hb, hml, hown, hts⟩ (kX9_modeAt l D ct ad Z G y9.1 H.size a y9.2 y10 hc hk hy10) (cwV 1 hts gX9_guessMode_X9_modeAt rfl rfl rfl (by decide +kernel) ⟨Nat.le_of_ble_eq_true rfl, Nat.le_of_ble_eq_true rfl⟩) ⟨fun a U g mk q => by obtain ⟨q0, q1, qP, qK, qD, qZ, qN⟩ := q; exact ⟨q0, q1, qP, va_K.moved (u := U) (U := U.calling g mk a) (Vm.Alike.refl U.vm) qK, qD, sF.moved (u := U) (U := U.calling g mk a) (Vm.Alike.refl U.vm) qZ, nF.same rfl qN⟩, va_recv hK hP (ci := 9) (q0 := a) rfl (wld_o ct ad G y9.1 hc hk (by decide)), fun U hU hW => ⟨rfl, by rw [hU], by rw [hU]; exact hP, va_K.moved hW.alike hK, hD.weaken (fun _ _ _ _ => trivial), by rw [hU]; exact ((hZ.kept hS.2.1).narrow hf9).moved hW.alike, hN.warm hW⟩⟩ rfl rfl hl.1 rfl (lv_room (Nat.le_of_ble_eq_true rfl)) dX9_guessMode_40 ⟨(Nat.zero_le _), (Nat.zero_le _)⟩) hS (fun q _ h => hf9 q h) hf9 (fun r u t H locs ht hvm hw hB hz1 hk1 hS => ?_)
  obtain ⟨hP, hK9, hD9⟩ := hB
  rw [ht] at hP
  try dsimp only at hw
  subst hw
  have hD := hD9.weaken (fun _ q _ h => hf9 q.1 h)
  refine lv_istore (lv' := [(4, .int y10.2), (3, .int y5.2), (0, .ref (ad a)), (1, .int p0), (2, .int p1)]) hx hb dX9_guessMode_43 hl (by decide) rfl (fun ls hl => ?_)
  refine lv_iload_n hx hb dX9_guessMode_45 rfl (lv_at hl 1 rfl) ?_
  obtain ⟨y11, hy11, hF⟩ := bnd_some hF
  have J11 : ∀ (H : Heap) (locs : List Loc) (ls : Array Slot), va_P D classes (wld ct ad G y10.1) H → va_D A (wld ct ad G y10.1) → va_S A s.heap H locs → lv_has ls 5 [(4, .int y10.2), (3, .int y5.2), (0, .ref (ad a)), (1, .int p0), (2, .int p1)] → W p l e (headSpec wuX9_guessMode ({ frames := 1, cells := 0, slots := 0, locals := 28 })).room s m ([.ref (ad a), .int p0, .int p1] : List Value).toArray below meth c H locs 0 0 (MQ below (va_Qi (fun (q : Int32) (_ : Unit) => q = y.2) (fun _ t => kE D ct ad G A y.1 t) A) ([.ref (ad a), .int p0, .int p1] : List Value).toArray s 0 0 A) (F0 m 70 ls [.int y11]) := by
    intro H locs ls hP hD hS hl
    obtain rfl := Option.some.inj hF
    exact W.iret (v := y11) hx hb hr (fun t ht hW => ⟨⟨_, (), rfl, rfl, ⟨by rw [ht]; exact hP, va_K.moved hW.alike hK, hD⟩⟩, hS.F ht⟩) hS.2.2 dX9_guessMode_70
  clear hF
  have hF := hy11
  clear hy11
  refine lv_if_lt (tgt := 54) hx hb dX9_guessMode_46 (by decide) (fun c12 => ?_) (fun c12 => ?_)
  · rw [if_pos c12] at hF
    refine lv_iconst (v := (2 : Int32)) hx hb dX9_guessMode_54 (by decide) ?_
    refine lv_goto (tgt := 70) hx hb dX9_guessMode_55 (by decide) ?_
    obtain rfl := Option.some.inj hF
    exact J11 _ _ _ hP hD hS (lv_sub hl [0, 1, 2, 3, 4] rfl)
  · rw [if_neg c12] at hF
    refine lv_iload hx hb dX9_guessMode_49 (lv_at hl 0 rfl) ?_
    obtain ⟨y13, hy13, hF⟩ := bnd_some hF
    have J13 : ∀ (H : Heap) (locs : List Loc) (ls : Array Slot), va_P D classes (wld ct ad G y10.1) H → va_D A (wld ct ad G y10.1) → va_S A s.heap H locs → lv_has ls 5 [(4, .int y10.2), (3, .int y5.2), (0, .ref (ad a)), (1, .int p0), (2, .int p1)] → W p l e (headSpec wuX9_guessMode ({ frames := 1, cells := 0, slots := 0, locals := 28 })).room s m ([.ref (ad a), .int p0, .int p1] : List Value).toArray below meth c H locs 0 0 (MQ below (va_Qi (fun (q : Int32) (_ : Unit) => q = y.2) (fun _ t => kE D ct ad G A y.1 t) A) ([.ref (ad a), .int p0, .int p1] : List Value).toArray s 0 0 A) (F0 m 70 ls [.int y13]) := by
      intro H locs ls hP hD hS hl
      obtain rfl := Option.some.inj hF
      exact J11 _ _ _ hP hD hS (lv_sub hl [0, 1, 2, 3, 4] rfl)
    clear hF
    have hF := hy13
    clear hy13
    refine lv_if_ge (tgt := 58) hx hb dX9_guessMode_51 (by decide) (fun c14 => ?_) (fun c14 => ?_)
    · rw [if_pos c14] at hF
      refine lv_iload_n hx hb dX9_guessMode_58 rfl (lv_at hl 1 rfl) ?_
      refine lv_iload hx hb dX9_guessMode_59 (lv_at hl 0 rfl) ?_
      obtain ⟨y15, hy15, hF⟩ := bnd_some hF
      have J15 : ∀ (H : Heap) (locs : List Loc) (ls : Array Slot), va_P D classes (wld ct ad G y10.1) H → va_D A (wld ct ad G y10.1) → va_S A s.heap H locs → lv_has ls 5 [(4, .int y10.2), (3, .int y5.2), (0, .ref (ad a)), (1, .int p0), (2, .int p1)] → W p l e (headSpec wuX9_guessMode ({ frames := 1, cells := 0, slots := 0, locals := 28 })).room s m ([.ref (ad a), .int p0, .int p1] : List Value).toArray below meth c H locs 0 0 (MQ below (va_Qi (fun (q : Int32) (_ : Unit) => q = y.2) (fun _ t => kE D ct ad G A y.1 t) A) ([.ref (ad a), .int p0, .int p1] : List Value).toArray s 0 0 A) (F0 m 70 ls [.int y15]) := by
        intro H locs ls hP hD hS hl
        obtain rfl := Option.some.inj hF
        exact J13 _ _ _ hP hD hS (lv_sub hl [0, 1, 2, 3, 4] rfl)
      clear hF
      have hF := hy15
      clear hy15
      refine lv_icmp_ge (tgt := 68) hx hb dX9_guessMode_61 (by decide) (fun c16 => ?_) (fun c16 => ?_)
      · rw [if_pos c16] at hF
        refine lv_iload hx hb dX9_guessMode_68 (lv_at hl 0 rfl) ?_
        obtain rfl := Option.some.inj hF
        exact J15 _ _ _ hP hD hS (lv_sub hl [0, 1, 2, 3, 4] rfl)
      · rw [if_neg c16] at hF
        refine lv_iload_n hx hb dX9_guessMode_64 rfl (lv_at hl 1 rfl) ?_
        refine lv_goto (tgt := 70) hx hb dX9_guessMode_65 (by decide) ?_
        obtain rfl := Option.some.inj hF
        exact J15 _ _ _ hP hD hS (lv_sub hl [0, 1, 2, 3, 4] rfl)
    · rw [if_neg c14] at hF
      refine lv_iconst (v := (2 : Int32)) hx hb dX9_guessMode_54 (by decide) ?_
      refine lv_goto (tgt := 70) hx hb dX9_guessMode_55 (by decide) ?_
      obtain rfl := Option.some.inj hF
      exact J13 _ _ _ hP hD hS (lv_sub hl [0, 1, 2, 3, 4] rfl)
set_option maxRecDepth 20000 in
theorem gX9_guessSkipped_X9_pieceAt : GoodIn wuX9_guessSkipped (wsV RX9 111 RX9 yX9_pieceAt wuX9_pieceAt) := gu_V mw_1906 mw_1907 mw_1908 mw_171 mw_1909
set_option maxRecDepth 20000 in
set_option maxRecDepth 20000 in
theorem gX9_guessSkipped_X9_isAtRest : GoodIn wuX9_guessSkipped (wsV RX9 179 RX9 yX9_isAtRest wuX9_isAtRest) := gu_V mw_1939 mw_1941 mw_62 mw_171 mw_1942
set_option maxRecDepth 20000 in
set_option maxRecDepth 20000 in
theorem gX9_guessSkipped_X9_guess : GoodIn wuX9_guessSkipped (wsV RX9 182 RX9 yX9_guess wuX9_guess) := gu_V mw_1914 mw_1915 mw_1916 mw_171 mw_1917
theorem dX9_guessSkipped_0 : decode cX9_guessSkipped 0 = .ok (.aload_n 0, 1) := by decide +kernel
theorem dX9_guessSkipped_1 : decode cX9_guessSkipped 1 = .ok (.iload_n 1, 1) := by decide +kernel
theorem dX9_guessSkipped_2 : decode cX9_guessSkipped 2 = .ok (.iconst (-1), 1) := by decide +kernel
theorem dX9_guessSkipped_3 : decode cX9_guessSkipped 3 = .ok (.iconst 0, 1) := by decide +kernel
theorem dX9_guessSkipped_4 : decode cX9_guessSkipped 4 = .ok (.iconst 0, 1) := by decide +kernel
theorem dX9_guessSkipped_5 : decode cX9_guessSkipped 5 = .ok (.invokevirtual 111, 3) := by decide +kernel
theorem dX9_guessSkipped_8 : decode cX9_guessSkipped 8 = .ok (.istore_n 2, 1) := by decide +kernel
theorem dX9_guessSkipped_9 : decode cX9_guessSkipped 9 = .ok (.aload_n 0, 1) := by decide +kernel
theorem dX9_guessSkipped_10 : decode cX9_guessSkipped 10 = .ok (.iload_n 1, 1) := by decide +kernel
theorem dX9_guessSkipped_11 : decode cX9_guessSkipped 11 = .ok (.iconst 0, 1) := by decide +kernel
theorem dX9_guessSkipped_12 : decode cX9_guessSkipped 12 = .ok (.iconst (-1), 1) := by decide +kernel
theorem dX9_guessSkipped_13 : decode cX9_guessSkipped 13 = .ok (.iconst 0, 1) := by decide +kernel
theorem dX9_guessSkipped_14 : decode cX9_guessSkipped 14 = .ok (.invokevirtual 111, 3) := by decide +kernel
theorem dX9_guessSkipped_17 : decode cX9_guessSkipped 17 = .ok (.istore_n 3, 1) := by decide +kernel
theorem dX9_guessSkipped_18 : decode cX9_guessSkipped 18 = .ok (.aload_n 0, 1) := by decide +kernel
theorem dX9_guessSkipped_19 : decode cX9_guessSkipped 19 = .ok (.iconst 0, 1) := by decide +kernel
theorem dX9_guessSkipped_20 : decode cX9_guessSkipped 20 = .ok (.putfield 173, 3) := by decide +kernel
theorem dX9_guessSkipped_23 : decode cX9_guessSkipped 23 = .ok (.aload_n 0, 1) := by decide +kernel
theorem dX9_guessSkipped_24 : decode cX9_guessSkipped 24 = .ok (.iconst 0, 1) := by decide +kernel
theorem dX9_guessSkipped_25 : decode cX9_guessSkipped 25 = .ok (.putfield 176, 3) := by decide +kernel
theorem dX9_guessSkipped_28 : decode cX9_guessSkipped 28 = .ok (.iload_n 2, 1) := by decide +kernel
theorem dX9_guessSkipped_29 : decode cX9_guessSkipped 29 = .ok (.ifCond .lt 34, 3) := by decide +kernel
theorem dX9_guessSkipped_32 : decode cX9_guessSkipped 32 = .ok (.iload_n 3, 1) := by decide +kernel
theorem dX9_guessSkipped_33 : decode cX9_guessSkipped 33 = .ok (.ifCond .lt 30, 3) := by decide +kernel
theorem dX9_guessSkipped_36 : decode cX9_guessSkipped 36 = .ok (.aload_n 0, 1) := by decide +kernel
theorem dX9_guessSkipped_37 : decode cX9_guessSkipped 37 = .ok (.iload_n 2, 1) := by decide +kernel
theorem dX9_guessSkipped_38 : decode cX9_guessSkipped 38 = .ok (.invokevirtual 179, 3) := by decide +kernel
theorem dX9_guessSkipped_41 : decode cX9_guessSkipped 41 = .ok (.ifCond .ne 22, 3) := by decide +kernel
theorem dX9_guessSkipped_44 : decode cX9_guessSkipped 44 = .ok (.aload_n 0, 1) := by decide +kernel
theorem dX9_guessSkipped_45 : decode cX9_guessSkipped 45 = .ok (.iload_n 3, 1) := by decide +kernel
theorem dX9_guessSkipped_46 : decode cX9_guessSkipped 46 = .ok (.invokevirtual 179, 3) := by decide +kernel
theorem dX9_guessSkipped_49 : decode cX9_guessSkipped 49 = .ok (.ifCond .ne 14, 3) := by decide +kernel
theorem dX9_guessSkipped_52 : decode cX9_guessSkipped 52 = .ok (.aload_n 0, 1) := by decide +kernel
theorem dX9_guessSkipped_53 : decode cX9_guessSkipped 53 = .ok (.iload_n 1, 1) := by decide +kernel
theorem dX9_guessSkipped_54 : decode cX9_guessSkipped 54 = .ok (.iconst 0, 1) := by decide +kernel
theorem dX9_guessSkipped_55 : decode cX9_guessSkipped 55 = .ok (.iconst 0, 1) := by decide +kernel
theorem dX9_guessSkipped_56 : decode cX9_guessSkipped 56 = .ok (.iconst 0, 1) := by decide +kernel
theorem dX9_guessSkipped_57 : decode cX9_guessSkipped 57 = .ok (.bipush 16, 2) := by decide +kernel
theorem dX9_guessSkipped_59 : decode cX9_guessSkipped 59 = .ok (.iconst 0, 1) := by decide +kernel
theorem dX9_guessSkipped_60 : decode cX9_guessSkipped 60 = .ok (.invokevirtual 182, 3) := by decide +kernel
theorem dX9_guessSkipped_63 : decode cX9_guessSkipped 63 = .ok (.return_, 1) := by decide +kernel
def FX9_guessSkipped (G : GG) (M : DD) (a : Nat) (p0 : Int32) : Option (DD) :=
  bnd (FX9_pieceAt G M a p0 ((-1 : Int32)) ((0 : Int32)) ((0 : Int32))) fun y1 =>
  bnd (FX9_pieceAt G y1.1 a p0 ((0 : Int32)) ((-1 : Int32)) ((0 : Int32))) fun y2 =>
  ltt (uI y2.1 a 18 ((0 : Int32))) fun M3 =>
  ltt (uI M3 a 19 ((0 : Int32))) fun M4 =>
  bnd (if y1.2 < ((0 : Int32)) then (some (M4)) else
  (bnd (if y2.2 < ((0 : Int32)) then (some (M4)) else
  (bnd (FX9_isAtRest G M4 a y1.2) fun y9 =>
  bnd (if y9.2 = ((0 : Int32)) then (bnd (FX9_isAtRest G y9.1 a y2.2) fun y12 =>
  bnd (if y12.2 = ((0 : Int32)) then (bnd (FX9_guess G y12.1 a p0 ((0 : Int32)) ((0 : Int32)) ((0 : Int32)) ((16 : Int32)) ((0 : Int32))) fun y15 =>
  some (y15)) else
  (some (y12.1))) fun (y13 : DD) =>
  some (y13)) else
  (some (y9.1))) fun (y10 : DD) =>
  some (y10))) fun (y7 : DD) =>
  some (y7))) fun (y5 : DD) =>
  some y5
set_option maxHeartbeats 4000000 in
set_option maxRecDepth 100000 in
theorem kX9_guessSkipped (l : Launch) (D : va_G) (ct : CT) (ad : Nat → Nat) (Z : Nat → Nat) (G : GG) (M : DD) (sz : Nat) (a : Nat) (p0 : Int32) (y : DD) (hc : a < G.1) (hk : G.2.1 a = 9) (hF : FX9_guessSkipped G M a p0 = some y) : Met l yX9_guessSkipped wuX9_guessSkipped ({ frames := 2, cells := 0, slots := 0, locals := 69 }) (va_Pc [.ref (ad a), .int p0] (kB D ct ad Z G M sz)) (va_Qv (fun (_ : Unit) => True) (fun _ t => kE D ct ad G (wA ad G sz) y t) (wA ad G sz)) 0 0 (wA ad G sz) := by
  refine Met.ofW (cc := cX9_guessSkipped) (maxL := 4) (ret := none) (by decide) rfl ?_
  intro p e s m args below meth c s₁ B hml hv
  obtain ⟨rfl, hsz, hP, hK, hD0, hZ, hN⟩ := hv
  have hx := B.exec
  have hb := B.bytes
  have hr := B.returns
  have hts := atoms_spec (ws := wuX9_guessSkipped) B.pre
  have hown : s.vm.findClass RX9 = some m.cls := findClass_of_methodNamed B.named
  have hlocks := B.notSynchronized
  subst hsz
  have hD := wD_self (sz := s.heap.size) hD0
  have hA9 : ∀ q, s.heap.size ≤ q → wA ad G s.heap.size q := fun q h => Or.inr h
  generalize hAe : wA ad G s.heap.size = A at hD hA9 hZ ⊢
  have hS : va_S A s.heap s.heap [] := va_S.rf
  have hl := lv_entry ([.ref (ad a), .int p0]) (n := 4) (Nat.le_of_ble_eq_true rfl)
  rw [lg_entry_eq]
  generalize (lg_sl ([.ref (ad a), .int p0]) ++ List.replicate (4 - (lg_sl ([.ref (ad a), .int p0])).length) Slot.unset).toArray = ls at hl ⊢
  have hl : lv_has ls 4 [(0, .ref (ad a)), (1, .int p0)] := hl
  unfold FX9_guessSkipped at hF
  refine lv_aload_n hx hb dX9_guessSkipped_0 rfl (lv_at hl 0 rfl) ?_
  refine lv_iload_n hx hb dX9_guessSkipped_1 rfl (lv_at hl 1 rfl) ?_
  refine lv_iconst (v := (-1 : Int32)) hx hb dX9_guessSkipped_2 (by decide) ?_
  refine lv_iconst (v := (0 : Int32)) hx hb dX9_guessSkipped_3 (by decide) ?_
  refine lv_iconst (v := (0 : Int32)) hx hb dX9_guessSkipped_4 (by decide) ?_
  obtain ⟨y1, hy1, hF⟩ := bnd_some hF
  have hf9 := wA_in hD hA9 hS
  refine va_calli (va_runV (As := [.int p0, .int (-1 : Int32), .int (0 : Int32), .int (0 : Int32)]) (rest := []) ⟨hx, hb, hml, hown, hts⟩ (kX9_pieceAt l D ct ad Z G M s.heap.size a p0 ((-1 : Int32)) ((0 : Int32)) ((0 : Int32)) y1 hc hk hy1) (cwV 4 hts gX9_guessSkipped_X9_pieceAt rfl rfl rfl (by decide +kernel) ⟨Nat.le_of_ble_eq_true rfl, Nat.le_of_ble_eq_true rfl⟩) ⟨fun a U g mk q => by obtain ⟨q0, q1, qP, qK, qD, qZ, qN⟩ := q; exact ⟨q0, q1, qP, va_K.moved (u := U) (U := U.calling g mk a) (Vm.Alike.refl U.vm) qK, qD, sF.moved (u := U) (U := U.calling g mk a) (Vm.Alike.refl U.vm) qZ, nF.same rfl qN⟩, va_recv hK hP (ci := 9) (q0 := a) rfl (wld_o ct ad G M hc hk (by decide)), fun U hU hW => ⟨rfl, by rw [hU], by rw [hU]; exact hP, va_K.moved hW.alike hK, hD.weaken (fun _ _ _ _ => trivial), by rw [hU]; exact ((hZ.kept hS.2.1).narrow hf9).moved hW.alike, hN.warm hW⟩⟩ rfl rfl hl.1 rfl (lv_room (Nat.le_of_ble_eq_true rfl)) dX9_guessSkipped_5 ⟨(Nat.zero_le _), (Nat.zero_le _)⟩) hS (fun q _ h => hf9 q h) hf9 (fun r u t H locs ht hvm hw hB hz1 hk1 hS => ?_)
  obtain ⟨hP, hK9, hD9⟩ := hB
  rw [ht] at hP
  try dsimp only at hw
  subst hw
  have hD := hD9.weaken (fun _ q _ h => hf9 q.1 h)
  refine lv_istore_n (lv' := [(2, .int y1.2), (0, .ref (ad a)), (1, .int p0)]) hx hb dX9_guessSkipped_8 rfl hl (by decide) rfl (fun ls hl => ?_)
  refine lv_aload_n hx hb dX9_guessSkipped_9 rfl (lv_at hl 1 rfl) ?_
  refine lv_iload_n hx hb dX9_guessSkipped_10 rfl (lv_at hl 2 rfl) ?_
  refine lv_iconst (v := (0 : Int32)) hx hb dX9_guessSkipped_11 (by decide) ?_
  refine lv_iconst (v := (-1 : Int32)) hx hb dX9_guessSkipped_12 (by decide) ?_
  refine lv_iconst (v := (0 : Int32)) hx hb dX9_guessSkipped_13 (by decide) ?_
  obtain ⟨y2, hy2, hF⟩ := bnd_some hF
  have hf9 := wA_in hD hA9 hS
  refine va_calli (va_runV (As := [.int p0, .int (0 : Int32), .int (-1 : Int32), .int (0 : Int32)]) (rest := []) ⟨hx, hb, hml, hown, hts⟩ (kX9_pieceAt l D ct ad Z G y1.1 H.size a p0 ((0 : Int32)) ((-1 : Int32)) ((0 : Int32)) y2 hc hk hy2) (cwV 4 hts gX9_guessSkipped_X9_pieceAt rfl rfl rfl (by decide +kernel) ⟨Nat.le_of_ble_eq_true rfl, Nat.le_of_ble_eq_true rfl⟩) ⟨fun a U g mk q => by obtain ⟨q0, q1, qP, qK, qD, qZ, qN⟩ := q; exact ⟨q0, q1, qP, va_K.moved (u := U) (U := U.calling g mk a) (Vm.Alike.refl U.vm) qK, qD, sF.moved (u := U) (U := U.calling g mk a) (Vm.Alike.refl U.vm) qZ, nF.same rfl qN⟩, va_recv hK hP (ci := 9) (q0 := a) rfl (wld_o ct ad G y1.1 hc hk (by decide)), fun U hU hW => ⟨rfl, by rw [hU], by rw [hU]; exact hP, va_K.moved hW.alike hK, hD.weaken (fun _ _ _ _ => trivial), by rw [hU]; exact ((hZ.kept hS.2.1).narrow hf9).moved hW.alike, hN.warm hW⟩⟩ rfl rfl hl.1 rfl (lv_room (Nat.le_of_ble_eq_true rfl)) dX9_guessSkipped_14 ⟨(Nat.zero_le _), (Nat.zero_le _)⟩) hS (fun q _ h => hf9 q h) hf9 (fun r u t H locs ht hvm hw hB hz1 hk1 hS => ?_)
  obtain ⟨hP, hK9, hD9⟩ := hB
  rw [ht] at hP
  try dsimp only at hw
  subst hw
  have hD := hD9.weaken (fun _ q _ h => hf9 q.1 h)
  refine lv_istore_n (lv' := [(3, .int y2.2), (2, .int y1.2), (0, .ref (ad a)), (1, .int p0)]) hx hb dX9_guessSkipped_17 rfl hl (by decide) rfl (fun ls hl => ?_)
  refine lv_aload_n hx hb dX9_guessSkipped_18 rfl (lv_at hl 2 rfl) ?_
  refine lv_iconst (v := (0 : Int32)) hx hb dX9_guessSkipped_19 (by decide) ?_
  refine va_put (D := D) (ci := 9) (v := .int (0 : Int32)) (ty := .int) (C := RX9) (T := TX9) (N := 20) hx hb hts (mus hf_X9) tyX9 tyX9_ok nmX9 hown hK hP hD hS a (wld_o ct ad G y2.1 hc hk (by decide)) rfl 18 (by decide) (hts (.fieldLink RX9 173 "VideoSuite$Work" "guessX" "I") (mu mw_481)) (fun _ h9 => h9) rfl (by decide +kernel) rfl rfl (Nat.le_of_ble_eq_true rfl) dX9_guessSkipped_20 (fun H locs hP hD hS => ?_)
  obtain ⟨M3, eM3, hF⟩ := ltt_some hF
  rw [set_oI ct ad G y2.1 hc hk (by decide) (by rfl), ← eM3] at hP hD
  refine lv_aload_n hx hb dX9_guessSkipped_23 rfl (lv_at hl 2 rfl) ?_
  refine lv_iconst (v := (0 : Int32)) hx hb dX9_guessSkipped_24 (by decide) ?_
  refine va_put (D := D) (ci := 9) (v := .int (0 : Int32)) (ty := .int) (C := RX9) (T := TX9) (N := 20) hx hb hts (mus hf_X9) tyX9 tyX9_ok nmX9 hown hK hP hD hS a (wld_o ct ad G M3 hc hk (by decide)) rfl 19 (by decide) (hts (.fieldLink RX9 176 "VideoSuite$Work" "guessY" "I") (mu mw_484)) (fun _ h9 => h9) rfl (by decide +kernel) rfl rfl (Nat.le_of_ble_eq_true rfl) dX9_guessSkipped_25 (fun H locs hP hD hS => ?_)
  obtain ⟨M4, eM4, hF⟩ := ltt_some hF
  rw [set_oI ct ad G M3 hc hk (by decide) (by rfl), ← eM4] at hP hD
  refine lv_iload_n hx hb dX9_guessSkipped_28 rfl (lv_at hl 1 rfl) ?_
  obtain ⟨y5, hy5, hF⟩ := bnd_some hF
  have J5 : ∀ (H : Heap) (locs : List Loc) (ls : Array Slot), va_P D classes (wld ct ad G y5) H → va_D A (wld ct ad G y5) → va_S A s.heap H locs → lv_has ls 4 [(3, .int y2.2), (2, .int y1.2), (0, .ref (ad a)), (1, .int p0)] → W p l e (headSpec wuX9_guessSkipped ({ frames := 2, cells := 0, slots := 0, locals := 69 })).room s m ([.ref (ad a), .int p0] : List Value).toArray below meth c H locs 0 0 (MQ below (va_Qv (fun (_ : Unit) => True) (fun _ t => kE D ct ad G A y t) A) ([.ref (ad a), .int p0] : List Value).toArray s 0 0 A) (F0 m 63 ls []) := by
    intro H locs ls hP hD hS hl
    obtain rfl := Option.some.inj hF
    exact W.vret hx hb hr (fun t ht hW => ⟨⟨(), rfl, trivial, ⟨by rw [ht]; exact hP, va_K.moved hW.alike hK, hD⟩⟩, hS.F ht⟩) hS.2.2 dX9_guessSkipped_63
  clear hF
  have hF := hy5
  clear hy5
  refine lv_if_lt (tgt := 63) hx hb dX9_guessSkipped_29 (by decide) (fun c6 => ?_) (fun c6 => ?_)
  · rw [if_pos c6] at hF
    obtain rfl := Option.some.inj hF
    exact J5 _ _ _ hP hD hS (lv_sub hl [0, 1, 2, 3] rfl)
  · rw [if_neg c6] at hF
    refine lv_iload_n hx hb dX9_guessSkipped_32 rfl (lv_at hl 0 rfl) ?_
    obtain ⟨y7, hy7, hF⟩ := bnd_some hF
    have J7 : ∀ (H : Heap) (locs : List Loc) (ls : Array Slot), va_P D classes (wld ct ad G y7) H → va_D A (wld ct ad G y7) → va_S A s.heap H locs → lv_has ls 4 [(3, .int y2.2), (2, .int y1.2), (0, .ref (ad a)), (1, .int p0)] → W p l e (headSpec wuX9_guessSkipped ({ frames := 2, cells := 0, slots := 0, locals := 69 })).room s m ([.ref (ad a), .int p0] : List Value).toArray below meth c H locs 0 0 (MQ below (va_Qv (fun (_ : Unit) => True) (fun _ t => kE D ct ad G A y t) A) ([.ref (ad a), .int p0] : List Value).toArray s 0 0 A) (F0 m 63 ls []) := by
      intro H locs ls hP hD hS hl
      obtain rfl := Option.some.inj hF
      exact J5 _ _ _ hP hD hS (lv_sub hl [0, 1, 2, 3] rfl)
    clear hF
    have hF := hy7
    clear hy7
    refine lv_if_lt (tgt := 63) hx hb dX9_guessSkipped_33 (by decide) (fun c8 => ?_) (fun c8 => ?_)
    · rw [if_pos c8] at hF
      obtain rfl := Option.some.inj hF
      exact J7 _ _ _ hP hD hS (lv_sub hl [0, 1, 2, 3] rfl)
    · rw [if_neg c8] at hF
      refine lv_aload_n hx hb dX9_guessSkipped_36 rfl (lv_at hl 2 rfl) ?_
      refine lv_iload_n hx hb dX9_guessSkipped_37 rfl (lv_at hl 1 rfl) ?_
      obtain ⟨y9, hy9, hF⟩ := bnd_some hF
      have hf9 := wA_in hD hA9 hS
      refine va_calli (va_runV (As := [.int y1.2]) (rest := []) ⟨hx, hb, hml, hown, hts⟩ (kX9_isAtRest l D ct ad Z G M4 H.size a y1.2 y9 hc hk hy9) (cwV 1 hts gX9_guessSkipped_X9_isAtRest rfl rfl rfl (by decide +kernel) ⟨Nat.le_of_ble_eq_true rfl, Nat.le_of_ble_eq_true rfl⟩) ⟨fun a U g mk q => by obtain ⟨q0, q1, qP, qK, qD, qZ, qN⟩ := q; exact ⟨q0, q1, qP, va_K.moved (u := U) (U := U.calling g mk a) (Vm.Alike.refl U.vm) qK, qD, sF.moved (u := U) (U := U.calling g mk a) (Vm.Alike.refl U.vm) qZ, nF.same rfl qN⟩, va_recv hK hP (ci := 9) (q0 := a) rfl (wld_o ct ad G M4 hc hk (by decide)), fun U hU hW => ⟨rfl, by rw [hU], by rw [hU]; exact hP, va_K.moved hW.alike hK, hD.weaken (fun _ _ _ _ => trivial), by rw [hU]; exact ((hZ.kept hS.2.1).narrow hf9).moved hW.alike, hN.warm hW⟩⟩ rfl rfl hl.1 rfl (lv_room (Nat.le_of_ble_eq_true rfl)) dX9_guessSkipped_38 ⟨(Nat.zero_le _), (Nat.zero_le _)⟩) hS (fun q _ h => hf9 q h) hf9 (fun r u t H locs ht hvm hw hB hz1 hk1 hS => ?_)
      obtain ⟨hP, hK9, hD9⟩ := hB
      rw [ht] at hP
      try dsimp only at hw
      subst hw
      have hD := hD9.weaken (fun _ q _ h => hf9 q.1 h)
      obtain ⟨y10, hy10, hF⟩ := bnd_some hF
      have J10 : ∀ (H : Heap) (locs : List Loc) (ls : Array Slot), va_P D classes (wld ct ad G y10) H → va_D A (wld ct ad G y10) → va_S A s.heap H locs → lv_has ls 4 [(3, .int y2.2), (2, .int y1.2), (0, .ref (ad a)), (1, .int p0)] → W p l e (headSpec wuX9_guessSkipped ({ frames := 2, cells := 0, slots := 0, locals := 69 })).room s m ([.ref (ad a), .int p0] : List Value).toArray below meth c H locs 0 0 (MQ below (va_Qv (fun (_ : Unit) => True) (fun _ t => kE D ct ad G A y t) A) ([.ref (ad a), .int p0] : List Value).toArray s 0 0 A) (F0 m 63 ls []) := by
        intro H locs ls hP hD hS hl
        obtain rfl := Option.some.inj hF
        exact J7 _ _ _ hP hD hS (lv_sub hl [0, 1, 2, 3] rfl)
      clear hF
      have hF := hy10
      clear hy10
      refine lv_if_ne (tgt := 63) hx hb dX9_guessSkipped_41 (by decide) (fun c11 => ?_) (fun c11 => ?_)
      · rw [if_neg c11] at hF
        obtain rfl := Option.some.inj hF
        exact J10 _ _ _ hP hD hS (lv_sub hl [0, 1, 2, 3] rfl)
      · rw [if_pos c11] at hF
        refine lv_aload_n hx hb dX9_guessSkipped_44 rfl (lv_at hl 2 rfl) ?_
        refine lv_iload_n hx hb dX9_guessSkipped_45 rfl (lv_at hl 0 rfl) ?_
        obtain ⟨y12, hy12, hF⟩ := bnd_some hF
        have hf9 := wA_in hD hA9 hS
        refine va_calli (va_runV (As := [.int y2.2]) (rest := []) ⟨hx, hb, hml, hown, hts⟩ (kX9_isAtRest l D ct ad Z G y9.1 H.size a y2.2 y12 hc hk hy12) (cwV 1 hts gX9_guessSkipped_X9_isAtRest rfl rfl rfl (by decide +kernel) ⟨Nat.le_of_ble_eq_true rfl, Nat.le_of_ble_eq_true rfl⟩) ⟨fun a U g mk q => by obtain ⟨q0, q1, qP, qK, qD, qZ, qN⟩ := q; exact ⟨q0, q1, qP, va_K.moved (u := U) (U := U.calling g mk a) (Vm.Alike.refl U.vm) qK, qD, sF.moved (u := U) (U := U.calling g mk a) (Vm.Alike.refl U.vm) qZ, nF.same rfl qN⟩, va_recv hK hP (ci := 9) (q0 := a) rfl (wld_o ct ad G y9.1 hc hk (by decide)), fun U hU hW => ⟨rfl, by rw [hU], by rw [hU]; exact hP, va_K.moved hW.alike hK, hD.weaken (fun _ _ _ _ => trivial), by rw [hU]; exact ((hZ.kept hS.2.1).narrow hf9).moved hW.alike, hN.warm hW⟩⟩ rfl rfl hl.1 rfl (lv_room (Nat.le_of_ble_eq_true rfl)) dX9_guessSkipped_46 ⟨(Nat.zero_le _), (Nat.zero_le _)⟩) hS (fun q _ h => hf9 q h) hf9 (fun r u t H locs ht hvm hw hB hz1 hk1 hS => ?_)
        obtain ⟨hP, hK9, hD9⟩ := hB
        rw [ht] at hP
        try dsimp only at hw
        subst hw
        have hD := hD9.weaken (fun _ q _ h => hf9 q.1 h)
        obtain ⟨y13, hy13, hF⟩ := bnd_some hF
        have J13 : ∀ (H : Heap) (locs : List Loc) (ls : Array Slot), va_P D classes (wld ct ad G y13) H → va_D A (wld ct ad G y13) → va_S A s.heap H locs → lv_has ls 4 [(3, .int y2.2), (2, .int y1.2), (0, .ref (ad a)), (1, .int p0)] → W p l e (headSpec wuX9_guessSkipped ({ frames := 2, cells := 0, slots := 0, locals := 69 })).room s m ([.ref (ad a), .int p0] : List Value).toArray below meth c H locs 0 0 (MQ below (va_Qv (fun (_ : Unit) => True) (fun _ t => kE D ct ad G A y t) A) ([.ref (ad a), .int p0] : List Value).toArray s 0 0 A) (F0 m 63 ls []) := by
          intro H locs ls hP hD hS hl
          obtain rfl := Option.some.inj hF
          exact J10 _ _ _ hP hD hS (lv_sub hl [0, 1, 2, 3] rfl)
        clear hF
        have hF := hy13
        clear hy13
        refine lv_if_ne (tgt := 63) hx hb dX9_guessSkipped_49 (by decide) (fun c14 => ?_) (fun c14 => ?_)
        · rw [if_neg c14] at hF
          obtain rfl := Option.some.inj hF
          exact J13 _ _ _ hP hD hS (lv_sub hl [0, 1, 2, 3] rfl)
        · rw [if_pos c14] at hF
          refine lv_aload_n hx hb dX9_guessSkipped_52 rfl (lv_at hl 2 rfl) ?_
          refine lv_iload_n hx hb dX9_guessSkipped_53 rfl (lv_at hl 3 rfl) ?_
          refine lv_iconst (v := (0 : Int32)) hx hb dX9_guessSkipped_54 (by decide) ?_
          refine lv_iconst (v := (0 : Int32)) hx hb dX9_guessSkipped_55 (by decide) ?_
          refine lv_iconst (v := (0 : Int32)) hx hb dX9_guessSkipped_56 (by decide) ?_
          refine lv_bipush (v := (16 : Int32)) hx hb dX9_guessSkipped_57 (by decide) ?_
          refine lv_iconst (v := (0 : Int32)) hx hb dX9_guessSkipped_59 (by decide) ?_
          obtain ⟨y15, hy15, hF⟩ := bnd_some hF
          have hf9 := wA_in hD hA9 hS
          refine va_callv (va_runV (As := [.int p0, .int (0 : Int32), .int (0 : Int32), .int (0 : Int32), .int (16 : Int32), .int (0 : Int32)]) (rest := []) ⟨hx, hb, hml, hown, hts⟩ (kX9_guess l D ct ad Z G y12.1 H.size a p0 ((0 : Int32)) ((0 : Int32)) ((0 : Int32)) ((16 : Int32)) ((0 : Int32)) y15 hc hk hy15) (cwV 6 hts gX9_guessSkipped_X9_guess rfl rfl rfl (by decide +kernel) ⟨Nat.le_of_ble_eq_true rfl, Nat.le_of_ble_eq_true rfl⟩) ⟨fun a U g mk q => by obtain ⟨q0, q1, qP, qK, qD, qZ, qN⟩ := q; exact ⟨q0, q1, qP, va_K.moved (u := U) (U := U.calling g mk a) (Vm.Alike.refl U.vm) qK, qD, sF.moved (u := U) (U := U.calling g mk a) (Vm.Alike.refl U.vm) qZ, nF.same rfl qN⟩, va_recv hK hP (ci := 9) (q0 := a) rfl (wld_o ct ad G y12.1 hc hk (by decide)), fun U hU hW => ⟨rfl, by rw [hU], by rw [hU]; exact hP, va_K.moved hW.alike hK, hD.weaken (fun _ _ _ _ => trivial), by rw [hU]; exact ((hZ.kept hS.2.1).narrow hf9).moved hW.alike, hN.warm hW⟩⟩ rfl rfl hl.1 rfl (lv_room (Nat.le_of_ble_eq_true rfl)) dX9_guessSkipped_60 ⟨(Nat.zero_le _), (Nat.zero_le _)⟩) hS (fun q _ h => hf9 q h) hf9 (fun u t H locs ht hvm hw hB hz1 hk1 hS => ?_)
          obtain ⟨hP, hK9, hD9⟩ := hB
          rw [ht] at hP
          have hD := hD9.weaken (fun _ q _ h => hf9 q.1 h)
          obtain rfl := Option.some.inj hF
          exact J13 _ _ _ hP hD hS (lv_sub hl [0, 1, 2, 3] rfl)
set_option maxRecDepth 20000 in
theorem gX9_leastReference_X9_pieceAt : GoodIn wuX9_leastReference (wsV RX9 111 RX9 yX9_pieceAt wuX9_pieceAt) := gu_V mw_1906 mw_1907 mw_1908 mw_171 mw_1909
set_option maxRecDepth 20000 in
set_option maxRecDepth 20000 in
theorem gX9_leastReference_X9_referenceAt : GoodIn wuX9_leastReference (wsV RX9 164 RX9 yX9_referenceAt wuX9_referenceAt) := gu_V mw_1910 mw_1912 mw_59 mw_171 mw_1913
theorem dX9_leastReference_0 : decode cX9_leastReference 0 = .ok (.aload_n 0, 1) := by decide +kernel
theorem dX9_leastReference_1 : decode cX9_leastReference 1 = .ok (.iload_n 1, 1) := by decide +kernel
theorem dX9_leastReference_2 : decode cX9_leastReference 2 = .ok (.bipush 16, 2) := by decide +kernel
theorem dX9_leastReference_4 : decode cX9_leastReference 4 = .ok (.iconst (-1), 1) := by decide +kernel
theorem dX9_leastReference_5 : decode cX9_leastReference 5 = .ok (.iconst 0, 1) := by decide +kernel
theorem dX9_leastReference_6 : decode cX9_leastReference 6 = .ok (.invokevirtual 111, 3) := by decide +kernel
theorem dX9_leastReference_9 : decode cX9_leastReference 9 = .ok (.istore_n 3, 1) := by decide +kernel
theorem dX9_leastReference_10 : decode cX9_leastReference 10 = .ok (.iload_n 3, 1) := by decide +kernel
theorem dX9_leastReference_11 : decode cX9_leastReference 11 = .ok (.ifCond .ge 14, 3) := by decide +kernel
theorem dX9_leastReference_14 : decode cX9_leastReference 14 = .ok (.aload_n 0, 1) := by decide +kernel
theorem dX9_leastReference_15 : decode cX9_leastReference 15 = .ok (.iload_n 1, 1) := by decide +kernel
theorem dX9_leastReference_16 : decode cX9_leastReference 16 = .ok (.iconst (-1), 1) := by decide +kernel
theorem dX9_leastReference_17 : decode cX9_leastReference 17 = .ok (.iconst (-1), 1) := by decide +kernel
theorem dX9_leastReference_18 : decode cX9_leastReference 18 = .ok (.iconst 0, 1) := by decide +kernel
theorem dX9_leastReference_19 : decode cX9_leastReference 19 = .ok (.invokevirtual 111, 3) := by decide +kernel
theorem dX9_leastReference_22 : decode cX9_leastReference 22 = .ok (.goto 4, 3) := by decide +kernel
theorem dX9_leastReference_25 : decode cX9_leastReference 25 = .ok (.iload_n 3, 1) := by decide +kernel
theorem dX9_leastReference_26 : decode cX9_leastReference 26 = .ok (.istore_n 3, 1) := by decide +kernel
theorem dX9_leastReference_27 : decode cX9_leastReference 27 = .ok (.aload_n 0, 1) := by decide +kernel
theorem dX9_leastReference_28 : decode cX9_leastReference 28 = .ok (.iload_n 2, 1) := by decide +kernel
theorem dX9_leastReference_29 : decode cX9_leastReference 29 = .ok (.aload_n 0, 1) := by decide +kernel
theorem dX9_leastReference_30 : decode cX9_leastReference 30 = .ok (.iload_n 1, 1) := by decide +kernel
theorem dX9_leastReference_31 : decode cX9_leastReference 31 = .ok (.iconst (-1), 1) := by decide +kernel
theorem dX9_leastReference_32 : decode cX9_leastReference 32 = .ok (.iconst 0, 1) := by decide +kernel
theorem dX9_leastReference_33 : decode cX9_leastReference 33 = .ok (.iconst 0, 1) := by decide +kernel
theorem dX9_leastReference_34 : decode cX9_leastReference 34 = .ok (.invokevirtual 111, 3) := by decide +kernel
theorem dX9_leastReference_37 : decode cX9_leastReference 37 = .ok (.invokevirtual 164, 3) := by decide +kernel
theorem dX9_leastReference_40 : decode cX9_leastReference 40 = .ok (.istore 4, 2) := by decide +kernel
theorem dX9_leastReference_42 : decode cX9_leastReference 42 = .ok (.aload_n 0, 1) := by decide +kernel
theorem dX9_leastReference_43 : decode cX9_leastReference 43 = .ok (.iload_n 2, 1) := by decide +kernel
theorem dX9_leastReference_44 : decode cX9_leastReference 44 = .ok (.aload_n 0, 1) := by decide +kernel
theorem dX9_leastReference_45 : decode cX9_leastReference 45 = .ok (.iload_n 1, 1) := by decide +kernel
theorem dX9_leastReference_46 : decode cX9_leastReference 46 = .ok (.iconst 0, 1) := by decide +kernel
theorem dX9_leastReference_47 : decode cX9_leastReference 47 = .ok (.iconst (-1), 1) := by decide +kernel
theorem dX9_leastReference_48 : decode cX9_leastReference 48 = .ok (.iconst 0, 1) := by decide +kernel
theorem dX9_leastReference_49 : decode cX9_leastReference 49 = .ok (.invokevirtual 111, 3) := by decide +kernel
theorem dX9_leastReference_52 : decode cX9_leastReference 52 = .ok (.invokevirtual 164, 3) := by decide +kernel
theorem dX9_leastReference_55 : decode cX9_leastReference 55 = .ok (.istore 5, 2) := by decide +kernel
theorem dX9_leastReference_57 : decode cX9_leastReference 57 = .ok (.aload_n 0, 1) := by decide +kernel
theorem dX9_leastReference_58 : decode cX9_leastReference 58 = .ok (.iload_n 2, 1) := by decide +kernel
theorem dX9_leastReference_59 : decode cX9_leastReference 59 = .ok (.iload_n 3, 1) := by decide +kernel
theorem dX9_leastReference_60 : decode cX9_leastReference 60 = .ok (.invokevirtual 164, 3) := by decide +kernel
theorem dX9_leastReference_63 : decode cX9_leastReference 63 = .ok (.istore 6, 2) := by decide +kernel
theorem dX9_leastReference_65 : decode cX9_leastReference 65 = .ok (.iload 4, 2) := by decide +kernel
theorem dX9_leastReference_67 : decode cX9_leastReference 67 = .ok (.ifCond .lt 15, 3) := by decide +kernel
theorem dX9_leastReference_70 : decode cX9_leastReference 70 = .ok (.iload 5, 2) := by decide +kernel
theorem dX9_leastReference_72 : decode cX9_leastReference 72 = .ok (.ifCond .lt 15, 3) := by decide +kernel
theorem dX9_leastReference_75 : decode cX9_leastReference 75 = .ok (.iload 5, 2) := by decide +kernel
theorem dX9_leastReference_77 : decode cX9_leastReference 77 = .ok (.iload 4, 2) := by decide +kernel
theorem dX9_leastReference_79 : decode cX9_leastReference 79 = .ok (.if_icmp .ge 8, 3) := by decide +kernel
theorem dX9_leastReference_82 : decode cX9_leastReference 82 = .ok (.iload 5, 2) := by decide +kernel
theorem dX9_leastReference_84 : decode cX9_leastReference 84 = .ok (.goto 5, 3) := by decide +kernel
theorem dX9_leastReference_87 : decode cX9_leastReference 87 = .ok (.iload 4, 2) := by decide +kernel
theorem dX9_leastReference_89 : decode cX9_leastReference 89 = .ok (.istore 7, 2) := by decide +kernel
theorem dX9_leastReference_91 : decode cX9_leastReference 91 = .ok (.iload 7, 2) := by decide +kernel
theorem dX9_leastReference_93 : decode cX9_leastReference 93 = .ok (.ifCond .lt 15, 3) := by decide +kernel
theorem dX9_leastReference_96 : decode cX9_leastReference 96 = .ok (.iload 6, 2) := by decide +kernel
theorem dX9_leastReference_98 : decode cX9_leastReference 98 = .ok (.ifCond .lt 15, 3) := by decide +kernel
theorem dX9_leastReference_101 : decode cX9_leastReference 101 = .ok (.iload 6, 2) := by decide +kernel
theorem dX9_leastReference_103 : decode cX9_leastReference 103 = .ok (.iload 7, 2) := by decide +kernel
theorem dX9_leastReference_105 : decode cX9_leastReference 105 = .ok (.if_icmp .ge 8, 3) := by decide +kernel
theorem dX9_leastReference_108 : decode cX9_leastReference 108 = .ok (.iload 6, 2) := by decide +kernel
theorem dX9_leastReference_110 : decode cX9_leastReference 110 = .ok (.goto 5, 3) := by decide +kernel
theorem dX9_leastReference_113 : decode cX9_leastReference 113 = .ok (.iload 7, 2) := by decide +kernel
theorem dX9_leastReference_115 : decode cX9_leastReference 115 = .ok (.ireturn, 1) := by decide +kernel
def FX9_leastReference (G : GG) (M : DD) (a : Nat) (p0 : Int32) (p1 : Int32) : Option (DD × Int32) :=
  bnd (FX9_pieceAt G M a p0 ((16 : Int32)) ((-1 : Int32)) ((0 : Int32))) fun y1 =>
  bnd (if ((0 : Int32)) ≤ y1.2 then (some (y1.2, y1.1)) else
  (bnd (FX9_pieceAt G y1.1 a p0 ((-1 : Int32)) ((-1 : Int32)) ((0 : Int32))) fun y21 =>
  some (y21.2, y21.1))) fun (y2 : Int32 × DD) =>
  bnd (FX9_pieceAt G y2.2 a p0 ((-1 : Int32)) ((0 : Int32)) ((0 : Int32))) fun y3 =>
  bnd (FX9_referenceAt G y3.1 a p1 y3.2) fun y4 =>
  bnd (FX9_pieceAt G y4.1 a p0 ((0 : Int32)) ((-1 : Int32)) ((0 : Int32))) fun y5 =>
  bnd (FX9_referenceAt G y5.1 a p1 y5.2) fun y6 =>
  bnd (FX9_referenceAt G y6.1 a p1 y2.1) fun y7 =>
  bnd (if y4.2 < ((0 : Int32)) then (some (y6.2)) else
  (bnd (if y6.2 < ((0 : Int32)) then (some (y4.2)) else
  (bnd (if y4.2 ≤ y6.2 then (some (y4.2)) else
  (some (y6.2))) fun (y18 : Int32) =>
  some (y18))) fun (y16 : Int32) =>
  some (y16))) fun (y8 : Int32) =>
  bnd (if y8 < ((0 : Int32)) then (some (y7.2)) else
  (bnd (if y7.2 < ((0 : Int32)) then (some (y8)) else
  (bnd (if y8 ≤ y7.2 then (some (y8)) else
  (some (y7.2))) fun (y13 : Int32) =>
  some (y13))) fun (y11 : Int32) =>
  some (y11))) fun (y9 : Int32) =>
  some (y7.1, y9)
set_option maxHeartbeats 4000000 in
set_option maxRecDepth 100000 in
theorem kX9_leastReference (l : Launch) (D : va_G) (ct : CT) (ad : Nat → Nat) (Z : Nat → Nat) (G : GG) (M : DD) (sz : Nat) (a : Nat) (p0 : Int32) (p1 : Int32) (y : DD × Int32) (hc : a < G.1) (hk : G.2.1 a = 9) (hF : FX9_leastReference G M a p0 p1 = some y) : Met l yX9_leastReference wuX9_leastReference ({ frames := 1, cells := 0, slots := 0, locals := 28 }) (va_Pc [.ref (ad a), .int p0, .int p1] (kB D ct ad Z G M sz)) (va_Qi (fun (q : Int32) (_ : Unit) => q = y.2) (fun _ t => kE D ct ad G (wA ad G sz) y.1 t) (wA ad G sz)) 0 0 (wA ad G sz) := by
  refine Met.ofW (cc := cX9_leastReference) (maxL := 8) (ret := (some .int)) (by decide) rfl ?_
  intro p e s m args below meth c s₁ B hml hv
  obtain ⟨rfl, hsz, hP, hK, hD0, hZ, hN⟩ := hv
  have hx := B.exec
  have hb := B.bytes
  have hr := B.returns
  have hts := atoms_spec (ws := wuX9_leastReference) B.pre
  have hown : s.vm.findClass RX9 = some m.cls := findClass_of_methodNamed B.named
  have hlocks := B.notSynchronized
  subst hsz
  have hD := wD_self (sz := s.heap.size) hD0
  have hA9 : ∀ q, s.heap.size ≤ q → wA ad G s.heap.size q := fun q h => Or.inr h
  generalize hAe : wA ad G s.heap.size = A at hD hA9 hZ ⊢
  have hS : va_S A s.heap s.heap [] := va_S.rf
  have hl := lv_entry ([.ref (ad a), .int p0, .int p1]) (n := 8) (Nat.le_of_ble_eq_true rfl)
  rw [lg_entry_eq]
  generalize (lg_sl ([.ref (ad a), .int p0, .int p1]) ++ List.replicate (8 - (lg_sl ([.ref (ad a), .int p0, .int p1])).length) Slot.unset).toArray = ls at hl ⊢
  have hl : lv_has ls 8 [(0, .ref (ad a)), (1, .int p0), (2, .int p1)] := hl
  unfold FX9_leastReference at hF
  refine lv_aload_n hx hb dX9_leastReference_0 rfl (lv_at hl 0 rfl) ?_
  refine lv_iload_n hx hb dX9_leastReference_1 rfl (lv_at hl 1 rfl) ?_
  refine lv_bipush (v := (16 : Int32)) hx hb dX9_leastReference_2 (by decide) ?_
  refine lv_iconst (v := (-1 : Int32)) hx hb dX9_leastReference_4 (by decide) ?_
  refine lv_iconst (v := (0 : Int32)) hx hb dX9_leastReference_5 (by decide) ?_
  obtain ⟨y1, hy1, hF⟩ := bnd_some hF
  have hf9 := wA_in hD hA9 hS
  refine va_calli (va_runV (As := [.int p0, .int (16 : Int32), .int (-1 : Int32), .int (0 : Int32)]) (rest := []) ⟨hx, hb, hml, hown, hts⟩ (kX9_pieceAt l D ct ad Z G M s.heap.size a p0 ((16 : Int32)) ((-1 : Int32)) ((0 : Int32)) y1 hc hk hy1) (cwV 4 hts gX9_leastReference_X9_pieceAt rfl rfl rfl (by decide +kernel) ⟨Nat.le_of_ble_eq_true rfl, Nat.le_of_ble_eq_true rfl⟩) ⟨fun a U g mk q => by obtain ⟨q0, q1, qP, qK, qD, qZ, qN⟩ := q; exact ⟨q0, q1, qP, va_K.moved (u := U) (U := U.calling g mk a) (Vm.Alike.refl U.vm) qK, qD, sF.moved (u := U) (U := U.calling g mk a) (Vm.Alike.refl U.vm) qZ, nF.same rfl qN⟩, va_recv hK hP (ci := 9) (q0 := a) rfl (wld_o ct ad G M hc hk (by decide)), fun U hU hW => ⟨rfl, by rw [hU], by rw [hU]; exact hP, va_K.moved hW.alike hK, hD.weaken (fun _ _ _ _ => trivial), by rw [hU]; exact ((hZ.kept hS.2.1).narrow hf9).moved hW.alike, hN.warm hW⟩⟩ rfl rfl hl.1 rfl (lv_room (Nat.le_of_ble_eq_true rfl)) dX9_leastReference_6 ⟨(Nat.zero_le _), (Nat.zero_le _)⟩) hS (fun q _ h => hf9 q h) hf9 (fun r u t H locs ht hvm hw hB hz1 hk1 hS => ?_)
  obtain ⟨hP, hK9, hD9⟩ := hB
  rw [ht] at hP
  try dsimp only at hw
  subst hw
  have hD := hD9.weaken (fun _ q _ h => hf9 q.1 h)
  refine lv_istore_n (lv' := [(3, .int y1.2), (0, .ref (ad a)), (1, .int p0), (2, .int p1)]) hx hb dX9_leastReference_9 rfl hl (by decide) rfl (fun ls hl => ?_)
  refine lv_iload_n hx hb dX9_leastReference_10 rfl (lv_at hl 0 rfl) ?_
  obtain ⟨y2, hy2, hF⟩ := bnd_some hF
  have J2 : ∀ (H : Heap) (locs : List Loc) (ls : Array Slot), va_P D classes (wld ct ad G y2.2) H → va_D A (wld ct ad G y2.2) → va_S A s.heap H locs → lv_has ls 8 [(3, .int y1.2), (0, .ref (ad a)), (1, .int p0), (2, .int p1)] → W p l e (headSpec wuX9_leastReference ({ frames := 1, cells := 0, slots := 0, locals := 28 })).room s m ([.ref (ad a), .int p0, .int p1] : List Value).toArray below meth c H locs 0 0 (MQ below (va_Qi (fun (q : Int32) (_ : Unit) => q = y.2) (fun _ t => kE D ct ad G A y.1 t) A) ([.ref (ad a), .int p0, .int p1] : List Value).toArray s 0 0 A) (F0 m 26 ls [.int y2.1]) := by
    intro H locs ls hP hD hS hl
    refine lv_istore_n (lv' := [(3, .int y2.1), (0, .ref (ad a)), (1, .int p0), (2, .int p1)]) hx hb dX9_leastReference_26 rfl hl (by decide) rfl (fun ls hl => ?_)
    refine lv_aload_n hx hb dX9_leastReference_27 rfl (lv_at hl 1 rfl) ?_
    refine lv_iload_n hx hb dX9_leastReference_28 rfl (lv_at hl 3 rfl) ?_
    refine lv_aload_n hx hb dX9_leastReference_29 rfl (lv_at hl 1 rfl) ?_
    refine lv_iload_n hx hb dX9_leastReference_30 rfl (lv_at hl 2 rfl) ?_
    refine lv_iconst (v := (-1 : Int32)) hx hb dX9_leastReference_31 (by decide) ?_
    refine lv_iconst (v := (0 : Int32)) hx hb dX9_leastReference_32 (by decide) ?_
    refine lv_iconst (v := (0 : Int32)) hx hb dX9_leastReference_33 (by decide) ?_
    obtain ⟨y3, hy3, hF⟩ := bnd_some hF
    have hf9 := wA_in hD hA9 hS
    refine va_calli (va_runV (As := [.int p0, .int (-1 : Int32), .int (0 : Int32), .int (0 : Int32)]) (rest := [.int p1, .ref (ad a)]) ⟨hx, hb, hml, hown, hts⟩ (kX9_pieceAt l D ct ad Z G y2.2 H.size a p0 ((-1 : Int32)) ((0 : Int32)) ((0 : Int32)) y3 hc hk hy3) (cwV 4 hts gX9_leastReference_X9_pieceAt rfl rfl rfl (by decide +kernel) ⟨Nat.le_of_ble_eq_true rfl, Nat.le_of_ble_eq_true rfl⟩) ⟨fun a U g mk q => by obtain ⟨q0, q1, qP, qK, qD, qZ, qN⟩ := q; exact ⟨q0, q1, qP, va_K.moved (u := U) (U := U.calling g mk a) (Vm.Alike.refl U.vm) qK, qD, sF.moved (u := U) (U := U.calling g mk a) (Vm.Alike.refl U.vm) qZ, nF.same rfl qN⟩, va_recv hK hP (ci := 9) (q0 := a) rfl (wld_o ct ad G y2.2 hc hk (by decide)), fun U hU hW => ⟨rfl, by rw [hU], by rw [hU]; exact hP, va_K.moved hW.alike hK, hD.weaken (fun _ _ _ _ => trivial), by rw [hU]; exact ((hZ.kept hS.2.1).narrow hf9).moved hW.alike, hN.warm hW⟩⟩ rfl rfl hl.1 rfl (lv_room (Nat.le_of_ble_eq_true rfl)) dX9_leastReference_34 ⟨(Nat.zero_le _), (Nat.zero_le _)⟩) hS (fun q _ h => hf9 q h) hf9 (fun r u t H locs ht hvm hw hB hz1 hk1 hS => ?_)
    obtain ⟨hP, hK9, hD9⟩ := hB
    rw [ht] at hP
    try dsimp only at hw
    subst hw
    have hD := hD9.weaken (fun _ q _ h => hf9 q.1 h)
    obtain ⟨y4, hy4, hF⟩ := bnd_some hF
    have hf9 := wA_in hD hA9 hS
    refine va_calli (va_runV (As := [.int p1, .int y3.2]) (rest := []) ⟨hx, hb, hml, hown, hts⟩ (kX9_referenceAt l D ct ad Z G y3.1 H.size a p1 y3.2 y4 hc hk hy4) (cwV 2 hts gX9_leastReference_X9_referenceAt rfl rfl rfl (by decide +kernel) ⟨Nat.le_of_ble_eq_true rfl, Nat.le_of_ble_eq_true rfl⟩) ⟨fun a U g mk q => by obtain ⟨q0, q1, qP, qK, qD, qZ, qN⟩ := q; exact ⟨q0, q1, qP, va_K.moved (u := U) (U := U.calling g mk a) (Vm.Alike.refl U.vm) qK, qD, sF.moved (u := U) (U := U.calling g mk a) (Vm.Alike.refl U.vm) qZ, nF.same rfl qN⟩, va_recv hK hP (ci := 9) (q0 := a) rfl (wld_o ct ad G y3.1 hc hk (by decide)), fun U hU hW => ⟨rfl, by rw [hU], by rw [hU]; exact hP, va_K.moved hW.alike hK, hD.weaken (fun _ _ _ _ => trivial), by rw [hU]; exact ((hZ.kept hS.2.1).narrow hf9).moved hW.alike, hN.warm hW⟩⟩ rfl rfl hl.1 rfl (lv_room (Nat.le_of_ble_eq_true rfl)) dX9_leastReference_37 ⟨(Nat.zero_le _), (Nat.zero_le _)⟩) hS (fun q _ h => hf9 q h) hf9 (fun r u t H locs ht hvm hw hB hz1 hk1 hS => ?_)
    obtain ⟨hP, hK9, hD9⟩ := hB
    rw [ht] at hP
    try dsimp only at hw
    subst hw
    have hD := hD9.weaken (fun _ q _ h => hf9 q.1 h)
    refine lv_istore (lv' := [(4, .int y4.2), (3, .int y2.1), (0, .ref (ad a)), (1, .int p0), (2, .int p1)]) hx hb dX9_leastReference_40 hl (by decide) rfl (fun ls hl => ?_)
    refine lv_aload_n hx hb dX9_leastReference_42 rfl (lv_at hl 2 rfl) ?_
    refine lv_iload_n hx hb dX9_leastReference_43 rfl (lv_at hl 4 rfl) ?_
    refine lv_aload_n hx hb dX9_leastReference_44 rfl (lv_at hl 2 rfl) ?_
    refine lv_iload_n hx hb dX9_leastReference_45 rfl (lv_at hl 3 rfl) ?_
    refine lv_iconst (v := (0 : Int32)) hx hb dX9_leastReference_46 (by decide) ?_
    refine lv_iconst (v := (-1 : Int32)) hx hb dX9_leastReference_47 (by decide) ?_
    refine lv_iconst (v := (0 : Int32)) hx hb dX9_leastReference_48 (by decide) ?_
    obtain ⟨y5, hy5, hF⟩ := bnd_some hF
    have hf9 := wA_in hD hA9 hS
    refine va_calli (va_runV (As := [.int p0, .int (0 : Int32), .int (-1 : Int32), .int (0 : Int32)]) (rest := [.int p1, .ref (ad a)]) ⟨hx, hb, hml, hown, hts⟩ (kX9_pieceAt l D ct ad Z G y4.1 H.size a p0 ((0 : Int32)) ((-1 : Int32)) ((0 : Int32)) y5 hc hk hy5) (cwV 4 hts gX9_leastReference_X9_pieceAt rfl rfl rfl (by decide +kernel) ⟨Nat.le_of_ble_eq_true rfl, Nat.le_of_ble_eq_true rfl⟩) ⟨fun a U g mk q => by obtain ⟨q0, q1, qP, qK, qD, qZ, qN⟩ := q; exact ⟨q0, q1, qP, va_K.moved (u := U) (U := U.calling g mk a) (Vm.Alike.refl U.vm) qK, qD, sF.moved (u := U) (U := U.calling g mk a) (Vm.Alike.refl U.vm) qZ, nF.same rfl qN⟩, va_recv hK hP (ci := 9) (q0 := a) rfl (wld_o ct ad G y4.1 hc hk (by decide)), fun U hU hW => ⟨rfl, by rw [hU], by rw [hU]; exact hP, va_K.moved hW.alike hK, hD.weaken (fun _ _ _ _ => trivial), by rw [hU]; exact ((hZ.kept hS.2.1).narrow hf9).moved hW.alike, hN.warm hW⟩⟩ rfl rfl hl.1 rfl (lv_room (Nat.le_of_ble_eq_true rfl)) dX9_leastReference_49 ⟨(Nat.zero_le _), (Nat.zero_le _)⟩) hS (fun q _ h => hf9 q h) hf9 (fun r u t H locs ht hvm hw hB hz1 hk1 hS => ?_)
    obtain ⟨hP, hK9, hD9⟩ := hB
    rw [ht] at hP
    try dsimp only at hw
    subst hw
    have hD := hD9.weaken (fun _ q _ h => hf9 q.1 h)
    obtain ⟨y6, hy6, hF⟩ := bnd_some hF
    have hf9 := wA_in hD hA9 hS
    refine va_calli (va_runV (As := [.int p1, .int y5.2]) (rest := []) ⟨hx, hb, hml, hown, hts⟩ (kX9_referenceAt l D ct ad Z G y5.1 H.size a p1 y5.2 y6 hc hk hy6) (cwV 2 hts gX9_leastReference_X9_referenceAt rfl rfl rfl (by decide +kernel) ⟨Nat.le_of_ble_eq_true rfl, Nat.le_of_ble_eq_true rfl⟩) ⟨fun a U g mk q => by obtain ⟨q0, q1, qP, qK, qD, qZ, qN⟩ := q; exact ⟨q0, q1, qP, va_K.moved (u := U) (U := U.calling g mk a) (Vm.Alike.refl U.vm) qK, qD, sF.moved (u := U) (U := U.calling g mk a) (Vm.Alike.refl U.vm) qZ, nF.same rfl qN⟩, va_recv hK hP (ci := 9) (q0 := a) rfl (wld_o ct ad G y5.1 hc hk (by decide)), fun U hU hW => ⟨rfl, by rw [hU], by rw [hU]; exact hP, va_K.moved hW.alike hK, hD.weaken (fun _ _ _ _ => trivial), by rw [hU]; exact ((hZ.kept hS.2.1).narrow hf9).moved hW.alike, hN.warm hW⟩⟩ rfl rfl hl.1 rfl (lv_room (Nat.le_of_ble_eq_true rfl)) dX9_leastReference_52 ⟨(Nat.zero_le _), (Nat.zero_le _)⟩) hS (fun q _ h => hf9 q h) hf9 (fun r u t H locs ht hvm hw hB hz1 hk1 hS => ?_)
    obtain ⟨hP, hK9, hD9⟩ := hB
    rw [ht] at hP
    try dsimp only at hw
    subst hw
    have hD := hD9.weaken (fun _ q _ h => hf9 q.1 h)
    refine lv_istore (lv' := [(5, .int y6.2), (4, .int y4.2), (3, .int y2.1), (0, .ref (ad a)), (1, .int p0), (2, .int p1)]) hx hb dX9_leastReference_55 hl (by decide) rfl (fun ls hl => ?_)
    refine lv_aload_n hx hb dX9_leastReference_57 rfl (lv_at hl 3 rfl) ?_
    refine lv_iload_n hx hb dX9_leastReference_58 rfl (lv_at hl 5 rfl) ?_
    refine lv_iload_n hx hb dX9_leastReference_59 rfl (lv_at hl 2 rfl) ?_
    obtain ⟨y7, hy7, hF⟩ := bnd_some hF
    have hf9 := wA_in hD hA9 hS
    refine va_calli (va_runV (As := [.int p1, .int y2.1]) (rest := []) ⟨hx, hb, hml, hown, hts⟩ (kX9_referenceAt l D ct ad Z G y6.1 H.size a p1 y2.1 y7 hc hk hy7) (cwV 2 hts gX9_leastReference_X9_referenceAt rfl rfl rfl (by decide +kernel) ⟨Nat.le_of_ble_eq_true rfl, Nat.le_of_ble_eq_true rfl⟩) ⟨fun a U g mk q => by obtain ⟨q0, q1, qP, qK, qD, qZ, qN⟩ := q; exact ⟨q0, q1, qP, va_K.moved (u := U) (U := U.calling g mk a) (Vm.Alike.refl U.vm) qK, qD, sF.moved (u := U) (U := U.calling g mk a) (Vm.Alike.refl U.vm) qZ, nF.same rfl qN⟩, va_recv hK hP (ci := 9) (q0 := a) rfl (wld_o ct ad G y6.1 hc hk (by decide)), fun U hU hW => ⟨rfl, by rw [hU], by rw [hU]; exact hP, va_K.moved hW.alike hK, hD.weaken (fun _ _ _ _ => trivial), by rw [hU]; exact ((hZ.kept hS.2.1).narrow hf9).moved hW.alike, hN.warm hW⟩⟩ rfl rfl hl.1 rfl (lv_room (Nat.le_of_ble_eq_true rfl)) dX9_leastReference_60 ⟨(Nat.zero_le _), (Nat.zero_le _)⟩) hS (fun q _ h => hf9 q h) hf9 (fun r u t H locs ht hvm hw hB hz1 hk1 hS => ?_)
    obtain ⟨hP, hK9, hD9⟩ := hB
    rw [ht] at hP
    try dsimp only at hw
    subst hw
    have hD := hD9.weaken (fun _ q _ h => hf9 q.1 h)
    refine lv_istore (lv' := [(6, .int y7.2), (5, .int y6.2), (4, .int y4.2), (3, .int y2.1), (0, .ref (ad a)), (1, .int p0), (2, .int p1)]) hx hb dX9_leastReference_63 hl (by decide) rfl (fun ls hl => ?_)
    refine lv_iload hx hb dX9_leastReference_65 (lv_at hl 2 rfl) ?_
    obtain ⟨y8, hy8, hF⟩ := bnd_some hF
    have J8 : ∀ (H : Heap) (locs : List Loc) (ls : Array Slot), va_P D classes (wld ct ad G y7.1) H → va_D A (wld ct ad G y7.1) → va_S A s.heap H locs → lv_has ls 8 [(6, .int y7.2), (5, .int y6.2), (4, .int y4.2), (3, .int y2.1), (0, .ref (ad a)), (1, .int p0), (2, .int p1)] → W p l e (headSpec wuX9_leastReference ({ frames := 1, cells := 0, slots := 0, locals := 28 })).room s m ([.ref (ad a), .int p0, .int p1] : List Value).toArray below meth c H locs 0 0 (MQ below (va_Qi (fun (q : Int32) (_ : Unit) => q = y.2) (fun _ t => kE D ct ad G A y.1 t) A) ([.ref (ad a), .int p0, .int p1] : List Value).toArray s 0 0 A) (F0 m 89 ls [.int y8]) := by
      intro H locs ls hP hD hS hl
      refine lv_istore (lv' := [(7, .int y8), (6, .int y7.2), (5, .int y6.2), (4, .int y4.2), (3, .int y2.1), (0, .ref (ad a)), (1, .int p0), (2, .int p1)]) hx hb dX9_leastReference_89 hl (by decide) rfl (fun ls hl => ?_)
      refine lv_iload hx hb dX9_leastReference_91 (lv_at hl 0 rfl) ?_
      obtain ⟨y9, hy9, hF⟩ := bnd_some hF
      have J9 : ∀ (H : Heap) (locs : List Loc) (ls : Array Slot), va_P D classes (wld ct ad G y7.1) H → va_D A (wld ct ad G y7.1) → va_S A s.heap H locs → lv_has ls 8 [(7, .int y8), (6, .int y7.2), (5, .int y6.2), (4, .int y4.2), (3, .int y2.1), (0, .ref (ad a)), (1, .int p0), (2, .int p1)] → W p l e (headSpec wuX9_leastReference ({ frames := 1, cells := 0, slots := 0, locals := 28 })).room s m ([.ref (ad a), .int p0, .int p1] : List Value).toArray below meth c H locs 0 0 (MQ below (va_Qi (fun (q : Int32) (_ : Unit) => q = y.2) (fun _ t => kE D ct ad G A y.1 t) A) ([.ref (ad a), .int p0, .int p1] : List Value).toArray s 0 0 A) (F0 m 115 ls [.int y9]) := by
        intro H locs ls hP hD hS hl
        obtain rfl := Option.some.inj hF
        exact W.iret (v := y9) hx hb hr (fun t ht hW => ⟨⟨_, (), rfl, rfl, ⟨by rw [ht]; exact hP, va_K.moved hW.alike hK, hD⟩⟩, hS.F ht⟩) hS.2.2 dX9_leastReference_115
      clear hF
      have hF := hy9
      clear hy9
      refine lv_if_lt (tgt := 108) hx hb dX9_leastReference_93 (by decide) (fun c10 => ?_) (fun c10 => ?_)
      · rw [if_pos c10] at hF
        refine lv_iload hx hb dX9_leastReference_108 (lv_at hl 1 rfl) ?_
        refine lv_goto (tgt := 115) hx hb dX9_leastReference_110 (by decide) ?_
        obtain rfl := Option.some.inj hF
        exact J9 _ _ _ hP hD hS (lv_sub hl [0, 1, 2, 3, 4, 5, 6, 7] rfl)
      · rw [if_neg c10] at hF
        refine lv_iload hx hb dX9_leastReference_96 (lv_at hl 1 rfl) ?_
        obtain ⟨y11, hy11, hF⟩ := bnd_some hF
        have J11 : ∀ (H : Heap) (locs : List Loc) (ls : Array Slot), va_P D classes (wld ct ad G y7.1) H → va_D A (wld ct ad G y7.1) → va_S A s.heap H locs → lv_has ls 8 [(7, .int y8), (6, .int y7.2), (5, .int y6.2), (4, .int y4.2), (3, .int y2.1), (0, .ref (ad a)), (1, .int p0), (2, .int p1)] → W p l e (headSpec wuX9_leastReference ({ frames := 1, cells := 0, slots := 0, locals := 28 })).room s m ([.ref (ad a), .int p0, .int p1] : List Value).toArray below meth c H locs 0 0 (MQ below (va_Qi (fun (q : Int32) (_ : Unit) => q = y.2) (fun _ t => kE D ct ad G A y.1 t) A) ([.ref (ad a), .int p0, .int p1] : List Value).toArray s 0 0 A) (F0 m 115 ls [.int y11]) := by
          intro H locs ls hP hD hS hl
          obtain rfl := Option.some.inj hF
          exact J9 _ _ _ hP hD hS (lv_sub hl [0, 1, 2, 3, 4, 5, 6, 7] rfl)
        clear hF
        have hF := hy11
        clear hy11
        refine lv_if_lt (tgt := 113) hx hb dX9_leastReference_98 (by decide) (fun c12 => ?_) (fun c12 => ?_)
        · rw [if_pos c12] at hF
          refine lv_iload hx hb dX9_leastReference_113 (lv_at hl 0 rfl) ?_
          obtain rfl := Option.some.inj hF
          exact J11 _ _ _ hP hD hS (lv_sub hl [0, 1, 2, 3, 4, 5, 6, 7] rfl)
        · rw [if_neg c12] at hF
          refine lv_iload hx hb dX9_leastReference_101 (lv_at hl 1 rfl) ?_
          refine lv_iload hx hb dX9_leastReference_103 (lv_at hl 0 rfl) ?_
          obtain ⟨y13, hy13, hF⟩ := bnd_some hF
          have J13 : ∀ (H : Heap) (locs : List Loc) (ls : Array Slot), va_P D classes (wld ct ad G y7.1) H → va_D A (wld ct ad G y7.1) → va_S A s.heap H locs → lv_has ls 8 [(7, .int y8), (6, .int y7.2), (5, .int y6.2), (4, .int y4.2), (3, .int y2.1), (0, .ref (ad a)), (1, .int p0), (2, .int p1)] → W p l e (headSpec wuX9_leastReference ({ frames := 1, cells := 0, slots := 0, locals := 28 })).room s m ([.ref (ad a), .int p0, .int p1] : List Value).toArray below meth c H locs 0 0 (MQ below (va_Qi (fun (q : Int32) (_ : Unit) => q = y.2) (fun _ t => kE D ct ad G A y.1 t) A) ([.ref (ad a), .int p0, .int p1] : List Value).toArray s 0 0 A) (F0 m 115 ls [.int y13]) := by
            intro H locs ls hP hD hS hl
            obtain rfl := Option.some.inj hF
            exact J11 _ _ _ hP hD hS (lv_sub hl [0, 1, 2, 3, 4, 5, 6, 7] rfl)
          clear hF
          have hF := hy13
          clear hy13
          refine lv_icmp_ge (tgt := 113) hx hb dX9_leastReference_105 (by decide) (fun c14 => ?_) (fun c14 => ?_)
          · rw [if_pos c14] at hF
            refine lv_iload hx hb dX9_leastReference_113 (lv_at hl 0 rfl) ?_
            obtain rfl := Option.some.inj hF
            exact J13 _ _ _ hP hD hS (lv_sub hl [0, 1, 2, 3, 4, 5, 6, 7] rfl)
          · rw [if_neg c14] at hF
            refine lv_iload hx hb dX9_leastReference_108 (lv_at hl 1 rfl) ?_
            refine lv_goto (tgt := 115) hx hb dX9_leastReference_110 (by decide) ?_
            obtain rfl := Option.some.inj hF
            exact J13 _ _ _ hP hD hS (lv_sub hl [0, 1, 2, 3, 4, 5, 6, 7] rfl)
    clear hF
    have hF := hy8
    clear hy8
    refine lv_if_lt (tgt := 82) hx hb dX9_leastReference_67 (by decide) (fun c15 => ?_) (fun c15 => ?_)
    · rw [if_pos c15] at hF
      refine lv_iload hx hb dX9_leastReference_82 (lv_at hl 1 rfl) ?_
      refine lv_goto (tgt := 89) hx hb dX9_leastReference_84 (by decide) ?_
      obtain rfl := Option.some.inj hF
      exact J8 _ _ _ hP hD hS (lv_sub hl [0, 1, 2, 3, 4, 5, 6] rfl)
    · rw [if_neg c15] at hF
      refine lv_iload hx hb dX9_leastReference_70 (lv_at hl 1 rfl) ?_
      obtain ⟨y16, hy16, hF⟩ := bnd_some hF
      have J16 : ∀ (H : Heap) (locs : List Loc) (ls : Array Slot), va_P D classes (wld ct ad G y7.1) H → va_D A (wld ct ad G y7.1) → va_S A s.heap H locs → lv_has ls 8 [(6, .int y7.2), (5, .int y6.2), (4, .int y4.2), (3, .int y2.1), (0, .ref (ad a)), (1, .int p0), (2, .int p1)] → W p l e (headSpec wuX9_leastReference ({ frames := 1, cells := 0, slots := 0, locals := 28 })).room s m ([.ref (ad a), .int p0, .int p1] : List Value).toArray below meth c H locs 0 0 (MQ below (va_Qi (fun (q : Int32) (_ : Unit) => q = y.2) (fun _ t => kE D ct ad G A y.1 t) A) ([.ref (ad a), .int p0, .int p1] : List Value).toArray s 0 0 A) (F0 m 89 ls [.int y16]) := by
        intro H locs ls hP hD hS hl
        obtain rfl := Option.some.inj hF
        exact J8 _ _ _ hP hD hS (lv_sub hl [0, 1, 2, 3, 4, 5, 6] rfl)
      clear hF
      have hF := hy16
      clear hy16
      refine lv_if_lt (tgt := 87) hx hb dX9_leastReference_72 (by decide) (fun c17 => ?_) (fun c17 => ?_)
      · rw [if_pos c17] at hF
        refine lv_iload hx hb dX9_leastReference_87 (lv_at hl 2 rfl) ?_
        obtain rfl := Option.some.inj hF
        exact J16 _ _ _ hP hD hS (lv_sub hl [0, 1, 2, 3, 4, 5, 6] rfl)
      · rw [if_neg c17] at hF
        refine lv_iload hx hb dX9_leastReference_75 (lv_at hl 1 rfl) ?_
        refine lv_iload hx hb dX9_leastReference_77 (lv_at hl 2 rfl) ?_
        obtain ⟨y18, hy18, hF⟩ := bnd_some hF
        have J18 : ∀ (H : Heap) (locs : List Loc) (ls : Array Slot), va_P D classes (wld ct ad G y7.1) H → va_D A (wld ct ad G y7.1) → va_S A s.heap H locs → lv_has ls 8 [(6, .int y7.2), (5, .int y6.2), (4, .int y4.2), (3, .int y2.1), (0, .ref (ad a)), (1, .int p0), (2, .int p1)] → W p l e (headSpec wuX9_leastReference ({ frames := 1, cells := 0, slots := 0, locals := 28 })).room s m ([.ref (ad a), .int p0, .int p1] : List Value).toArray below meth c H locs 0 0 (MQ below (va_Qi (fun (q : Int32) (_ : Unit) => q = y.2) (fun _ t => kE D ct ad G A y.1 t) A) ([.ref (ad a), .int p0, .int p1] : List Value).toArray s 0 0 A) (F0 m 89 ls [.int y18]) := by
          intro H locs ls hP hD hS hl
          obtain rfl := Option.some.inj hF
          exact J16 _ _ _ hP hD hS (lv_sub hl [0, 1, 2, 3, 4, 5, 6] rfl)
        clear hF
        have hF := hy18
        clear hy18
        refine lv_icmp_ge (tgt := 87) hx hb dX9_leastReference_79 (by decide) (fun c19 => ?_) (fun c19 => ?_)
        · rw [if_pos c19] at hF
          refine lv_iload hx hb dX9_leastReference_87 (lv_at hl 2 rfl) ?_
          obtain rfl := Option.some.inj hF
          exact J18 _ _ _ hP hD hS (lv_sub hl [0, 1, 2, 3, 4, 5, 6] rfl)
        · rw [if_neg c19] at hF
          refine lv_iload hx hb dX9_leastReference_82 (lv_at hl 1 rfl) ?_
          refine lv_goto (tgt := 89) hx hb dX9_leastReference_84 (by decide) ?_
          obtain rfl := Option.some.inj hF
          exact J18 _ _ _ hP hD hS (lv_sub hl [0, 1, 2, 3, 4, 5, 6] rfl)
  clear hF
  have hF := hy2
  clear hy2
  refine lv_if_ge (tgt := 25) hx hb dX9_leastReference_11 (by decide) (fun c20 => ?_) (fun c20 => ?_)
  · rw [if_pos c20] at hF
    refine lv_iload_n hx hb dX9_leastReference_25 rfl (lv_at hl 0 rfl) ?_
    obtain rfl := Option.some.inj hF
    exact J2 _ _ _ hP hD hS (lv_sub hl [0, 1, 2, 3] rfl)
  · rw [if_neg c20] at hF
    refine lv_aload_n hx hb dX9_leastReference_14 rfl (lv_at hl 1 rfl) ?_
    refine lv_iload_n hx hb dX9_leastReference_15 rfl (lv_at hl 2 rfl) ?_
    refine lv_iconst (v := (-1 : Int32)) hx hb dX9_leastReference_16 (by decide) ?_
    refine lv_iconst (v := (-1 : Int32)) hx hb dX9_leastReference_17 (by decide) ?_
    refine lv_iconst (v := (0 : Int32)) hx hb dX9_leastReference_18 (by decide) ?_
    obtain ⟨y21, hy21, hF⟩ := bnd_some hF
    have hf9 := wA_in hD hA9 hS
    refine va_calli (va_runV (As := [.int p0, .int (-1 : Int32), .int (-1 : Int32), .int (0 : Int32)]) (rest := []) ⟨hx, hb, hml, hown, hts⟩ (kX9_pieceAt l D ct ad Z G y1.1 H.size a p0 ((-1 : Int32)) ((-1 : Int32)) ((0 : Int32)) y21 hc hk hy21) (cwV 4 hts gX9_leastReference_X9_pieceAt rfl rfl rfl (by decide +kernel) ⟨Nat.le_of_ble_eq_true rfl, Nat.le_of_ble_eq_true rfl⟩) ⟨fun a U g mk q => by obtain ⟨q0, q1, qP, qK, qD, qZ, qN⟩ := q; exact ⟨q0, q1, qP, va_K.moved (u := U) (U := U.calling g mk a) (Vm.Alike.refl U.vm) qK, qD, sF.moved (u := U) (U := U.calling g mk a) (Vm.Alike.refl U.vm) qZ, nF.same rfl qN⟩, va_recv hK hP (ci := 9) (q0 := a) rfl (wld_o ct ad G y1.1 hc hk (by decide)), fun U hU hW => ⟨rfl, by rw [hU], by rw [hU]; exact hP, va_K.moved hW.alike hK, hD.weaken (fun _ _ _ _ => trivial), by rw [hU]; exact ((hZ.kept hS.2.1).narrow hf9).moved hW.alike, hN.warm hW⟩⟩ rfl rfl hl.1 rfl (lv_room (Nat.le_of_ble_eq_true rfl)) dX9_leastReference_19 ⟨(Nat.zero_le _), (Nat.zero_le _)⟩) hS (fun q _ h => hf9 q h) hf9 (fun r u t H locs ht hvm hw hB hz1 hk1 hS => ?_)
    obtain ⟨hP, hK9, hD9⟩ := hB
    rw [ht] at hP
    try dsimp only at hw
    subst hw
    have hD := hD9.weaken (fun _ q _ h => hf9 q.1 h)
    refine lv_goto (tgt := 26) hx hb dX9_leastReference_22 (by decide) ?_
    obtain rfl := Option.some.inj hF
    exact J2 _ _ _ hP hD hS (lv_sub hl [0, 1, 2, 3] rfl)
set_option maxRecDepth 20000 in
theorem gX9_plan_X9_addGroup : GoodIn wuX9_plan (wsV RX9 148 RX9 yX9_addGroup wuX9_addGroup) := gu_V mw_1955 mw_1957 mw_64 mw_171 mw_1958
set_option maxRecDepth 20000 in
set_option maxRecDepth 20000 in
theorem gX9_plan_X9_addPart : GoodIn wuX9_plan (wsV RX9 152 RX9 yX9_addPart wuX9_addPart) := gu_V mw_1959 mw_1961 mw_65 mw_171 mw_1962
set_option maxRecDepth 20000 in
theorem gX9_plan_X9_planQuarter : GoodIn wuX9_plan (wsV RX9 141 RX9 yX9_planQuarter wuX9_planQuarter) := gu_V mw_1947 mw_1949 mw_63 mw_171 mw_1950
set_option maxRecDepth 20000 in
theorem dX9_plan_0 : decode cX9_plan 0 = .ok (.aload_n 0, 1) := by decide +kernel
theorem dX9_plan_1 : decode cX9_plan 1 = .ok (.iconst 0, 1) := by decide +kernel
theorem dX9_plan_2 : decode cX9_plan 2 = .ok (.putfield 135, 3) := by decide +kernel
theorem dX9_plan_5 : decode cX9_plan 5 = .ok (.aload_n 0, 1) := by decide +kernel
theorem dX9_plan_6 : decode cX9_plan 6 = .ok (.iconst 0, 1) := by decide +kernel
theorem dX9_plan_7 : decode cX9_plan 7 = .ok (.putfield 138, 3) := by decide +kernel
theorem dX9_plan_10 : decode cX9_plan 10 = .ok (.iload_n 1, 1) := by decide +kernel
theorem dX9_plan_11 : decode cX9_plan 11 = .ok (.ifCond .ne 11, 3) := by decide +kernel
theorem dX9_plan_14 : decode cX9_plan 14 = .ok (.iload_n 2, 1) := by decide +kernel
theorem dX9_plan_15 : decode cX9_plan 15 = .ok (.iconst 2, 1) := by decide +kernel
theorem dX9_plan_16 : decode cX9_plan 16 = .ok (.if_icmp .le 32, 3) := by decide +kernel
theorem dX9_plan_19 : decode cX9_plan 19 = .ok (.goto 9, 3) := by decide +kernel
theorem dX9_plan_22 : decode cX9_plan 22 = .ok (.iload_n 2, 1) := by decide +kernel
theorem dX9_plan_23 : decode cX9_plan 23 = .ok (.bipush 22, 2) := by decide +kernel
theorem dX9_plan_25 : decode cX9_plan 25 = .ok (.if_icmp .ne 23, 3) := by decide +kernel
theorem dX9_plan_28 : decode cX9_plan 28 = .ok (.iconst 0, 1) := by decide +kernel
theorem dX9_plan_29 : decode cX9_plan 29 = .ok (.istore_n 3, 1) := by decide +kernel
theorem dX9_plan_30 : decode cX9_plan 30 = .ok (.iload_n 3, 1) := by decide +kernel
theorem dX9_plan_31 : decode cX9_plan 31 = .ok (.iconst 4, 1) := by decide +kernel
theorem dX9_plan_32 : decode cX9_plan 32 = .ok (.if_icmp .ge 15, 3) := by decide +kernel
theorem dX9_plan_35 : decode cX9_plan 35 = .ok (.aload_n 0, 1) := by decide +kernel
theorem dX9_plan_36 : decode cX9_plan 36 = .ok (.iload_n 1, 1) := by decide +kernel
theorem dX9_plan_37 : decode cX9_plan 37 = .ok (.iload_n 3, 1) := by decide +kernel
theorem dX9_plan_38 : decode cX9_plan 38 = .ok (.invokevirtual 141, 3) := by decide +kernel
theorem dX9_plan_41 : decode cX9_plan 41 = .ok (.iinc 3 1, 3) := by decide +kernel
theorem dX9_plan_44 : decode cX9_plan 44 = .ok (.goto (-14), 3) := by decide +kernel
theorem dX9_plan_47 : decode cX9_plan 47 = .ok (.return_, 1) := by decide +kernel
theorem dX9_plan_48 : decode cX9_plan 48 = .ok (.iload_n 1, 1) := by decide +kernel
theorem dX9_plan_49 : decode cX9_plan 49 = .ok (.ifCond .ne 7, 3) := by decide +kernel
theorem dX9_plan_52 : decode cX9_plan 52 = .ok (.iload_n 2, 1) := by decide +kernel
theorem dX9_plan_53 : decode cX9_plan 53 = .ok (.goto 17, 3) := by decide +kernel
theorem dX9_plan_56 : decode cX9_plan 56 = .ok (.iload_n 2, 1) := by decide +kernel
theorem dX9_plan_57 : decode cX9_plan 57 = .ok (.iconst 4, 1) := by decide +kernel
theorem dX9_plan_58 : decode cX9_plan 58 = .ok (.if_icmp .ge 7, 3) := by decide +kernel
theorem dX9_plan_61 : decode cX9_plan 61 = .ok (.iconst 0, 1) := by decide +kernel
theorem dX9_plan_62 : decode cX9_plan 62 = .ok (.goto 8, 3) := by decide +kernel
theorem dX9_plan_65 : decode cX9_plan 65 = .ok (.iconst 1, 1) := by decide +kernel
theorem dX9_plan_66 : decode cX9_plan 66 = .ok (.iload_n 2, 1) := by decide +kernel
theorem dX9_plan_67 : decode cX9_plan 67 = .ok (.iconst 2, 1) := by decide +kernel
theorem dX9_plan_68 : decode cX9_plan 68 = .ok (.irem, 1) := by decide +kernel
theorem dX9_plan_69 : decode cX9_plan 69 = .ok (.iadd, 1) := by decide +kernel
theorem dX9_plan_70 : decode cX9_plan 70 = .ok (.istore_n 3, 1) := by decide +kernel
theorem dX9_plan_71 : decode cX9_plan 71 = .ok (.iload_n 2, 1) := by decide +kernel
theorem dX9_plan_72 : decode cX9_plan 72 = .ok (.iconst 4, 1) := by decide +kernel
theorem dX9_plan_73 : decode cX9_plan 73 = .ok (.isub, 1) := by decide +kernel
theorem dX9_plan_74 : decode cX9_plan 74 = .ok (.bipush (-2), 2) := by decide +kernel
theorem dX9_plan_76 : decode cX9_plan 76 = .ok (.iand, 1) := by decide +kernel
theorem dX9_plan_77 : decode cX9_plan 77 = .ok (.istore 4, 2) := by decide +kernel
theorem dX9_plan_79 : decode cX9_plan 79 = .ok (.iload_n 1, 1) := by decide +kernel
theorem dX9_plan_80 : decode cX9_plan 80 = .ok (.ifCond .ne 7, 3) := by decide +kernel
theorem dX9_plan_83 : decode cX9_plan 83 = .ok (.iconst 1, 1) := by decide +kernel
theorem dX9_plan_84 : decode cX9_plan 84 = .ok (.goto 18, 3) := by decide +kernel
theorem dX9_plan_87 : decode cX9_plan 87 = .ok (.iload_n 2, 1) := by decide +kernel
theorem dX9_plan_88 : decode cX9_plan 88 = .ok (.iconst 4, 1) := by decide +kernel
theorem dX9_plan_89 : decode cX9_plan 89 = .ok (.if_icmp .ge 7, 3) := by decide +kernel
theorem dX9_plan_92 : decode cX9_plan 92 = .ok (.iload_n 2, 1) := by decide +kernel
theorem dX9_plan_93 : decode cX9_plan 93 = .ok (.goto 9, 3) := by decide +kernel
theorem dX9_plan_96 : decode cX9_plan 96 = .ok (.getstatic 145, 3) := by decide +kernel
theorem dX9_plan_99 : decode cX9_plan 99 = .ok (.iload 4, 2) := by decide +kernel
theorem dX9_plan_101 : decode cX9_plan 101 = .ok (.iaload, 1) := by decide +kernel
theorem dX9_plan_102 : decode cX9_plan 102 = .ok (.istore 5, 2) := by decide +kernel
theorem dX9_plan_104 : decode cX9_plan 104 = .ok (.iload_n 1, 1) := by decide +kernel
theorem dX9_plan_105 : decode cX9_plan 105 = .ok (.ifCond .eq 8, 3) := by decide +kernel
theorem dX9_plan_108 : decode cX9_plan 108 = .ok (.iload_n 2, 1) := by decide +kernel
theorem dX9_plan_109 : decode cX9_plan 109 = .ok (.iconst 4, 1) := by decide +kernel
theorem dX9_plan_110 : decode cX9_plan 110 = .ok (.if_icmp .ge 8, 3) := by decide +kernel
theorem dX9_plan_113 : decode cX9_plan 113 = .ok (.iload 5, 2) := by decide +kernel
theorem dX9_plan_115 : decode cX9_plan 115 = .ok (.goto 11, 3) := by decide +kernel
theorem dX9_plan_118 : decode cX9_plan 118 = .ok (.getstatic 145, 3) := by decide +kernel
theorem dX9_plan_121 : decode cX9_plan 121 = .ok (.iload 4, 2) := by decide +kernel
theorem dX9_plan_123 : decode cX9_plan 123 = .ok (.iconst 1, 1) := by decide +kernel
theorem dX9_plan_124 : decode cX9_plan 124 = .ok (.iadd, 1) := by decide +kernel
theorem dX9_plan_125 : decode cX9_plan 125 = .ok (.iaload, 1) := by decide +kernel
theorem dX9_plan_126 : decode cX9_plan 126 = .ok (.istore 6, 2) := by decide +kernel
theorem dX9_plan_128 : decode cX9_plan 128 = .ok (.iload_n 3, 1) := by decide +kernel
theorem dX9_plan_129 : decode cX9_plan 129 = .ok (.ifCond .ne 27, 3) := by decide +kernel
theorem dX9_plan_132 : decode cX9_plan 132 = .ok (.aload_n 0, 1) := by decide +kernel
theorem dX9_plan_133 : decode cX9_plan 133 = .ok (.iconst 0, 1) := by decide +kernel
theorem dX9_plan_134 : decode cX9_plan 134 = .ok (.bipush 16, 2) := by decide +kernel
theorem dX9_plan_136 : decode cX9_plan 136 = .ok (.bipush 16, 2) := by decide +kernel
theorem dX9_plan_138 : decode cX9_plan 138 = .ok (.iload 5, 2) := by decide +kernel
theorem dX9_plan_140 : decode cX9_plan 140 = .ok (.invokevirtual 148, 3) := by decide +kernel
theorem dX9_plan_143 : decode cX9_plan 143 = .ok (.aload_n 0, 1) := by decide +kernel
theorem dX9_plan_144 : decode cX9_plan 144 = .ok (.iconst 0, 1) := by decide +kernel
theorem dX9_plan_145 : decode cX9_plan 145 = .ok (.bipush 16, 2) := by decide +kernel
theorem dX9_plan_147 : decode cX9_plan 147 = .ok (.bipush 16, 2) := by decide +kernel
theorem dX9_plan_149 : decode cX9_plan 149 = .ok (.iconst 0, 1) := by decide +kernel
theorem dX9_plan_150 : decode cX9_plan 150 = .ok (.invokevirtual 152, 3) := by decide +kernel
theorem dX9_plan_153 : decode cX9_plan 153 = .ok (.goto 97, 3) := by decide +kernel
theorem dX9_plan_156 : decode cX9_plan 156 = .ok (.iload_n 3, 1) := by decide +kernel
theorem dX9_plan_157 : decode cX9_plan 157 = .ok (.iconst 1, 1) := by decide +kernel
theorem dX9_plan_158 : decode cX9_plan 158 = .ok (.if_icmp .ne 50, 3) := by decide +kernel
theorem dX9_plan_161 : decode cX9_plan 161 = .ok (.aload_n 0, 1) := by decide +kernel
theorem dX9_plan_162 : decode cX9_plan 162 = .ok (.iconst 0, 1) := by decide +kernel
theorem dX9_plan_163 : decode cX9_plan 163 = .ok (.bipush 16, 2) := by decide +kernel
theorem dX9_plan_165 : decode cX9_plan 165 = .ok (.bipush 8, 2) := by decide +kernel
theorem dX9_plan_167 : decode cX9_plan 167 = .ok (.iload 5, 2) := by decide +kernel
theorem dX9_plan_169 : decode cX9_plan 169 = .ok (.invokevirtual 148, 3) := by decide +kernel
theorem dX9_plan_172 : decode cX9_plan 172 = .ok (.aload_n 0, 1) := by decide +kernel
theorem dX9_plan_173 : decode cX9_plan 173 = .ok (.iconst 0, 1) := by decide +kernel
theorem dX9_plan_174 : decode cX9_plan 174 = .ok (.bipush 16, 2) := by decide +kernel
theorem dX9_plan_176 : decode cX9_plan 176 = .ok (.bipush 8, 2) := by decide +kernel
theorem dX9_plan_178 : decode cX9_plan 178 = .ok (.iconst 1, 1) := by decide +kernel
theorem dX9_plan_179 : decode cX9_plan 179 = .ok (.invokevirtual 152, 3) := by decide +kernel
theorem dX9_plan_182 : decode cX9_plan 182 = .ok (.aload_n 0, 1) := by decide +kernel
theorem dX9_plan_183 : decode cX9_plan 183 = .ok (.bipush 8, 2) := by decide +kernel
theorem dX9_plan_185 : decode cX9_plan 185 = .ok (.bipush 16, 2) := by decide +kernel
theorem dX9_plan_187 : decode cX9_plan 187 = .ok (.bipush 8, 2) := by decide +kernel
theorem dX9_plan_189 : decode cX9_plan 189 = .ok (.iload 6, 2) := by decide +kernel
theorem dX9_plan_191 : decode cX9_plan 191 = .ok (.invokevirtual 148, 3) := by decide +kernel
theorem dX9_plan_194 : decode cX9_plan 194 = .ok (.aload_n 0, 1) := by decide +kernel
theorem dX9_plan_195 : decode cX9_plan 195 = .ok (.bipush 8, 2) := by decide +kernel
theorem dX9_plan_197 : decode cX9_plan 197 = .ok (.bipush 16, 2) := by decide +kernel
theorem dX9_plan_199 : decode cX9_plan 199 = .ok (.bipush 8, 2) := by decide +kernel
theorem dX9_plan_201 : decode cX9_plan 201 = .ok (.iconst 2, 1) := by decide +kernel
theorem dX9_plan_202 : decode cX9_plan 202 = .ok (.invokevirtual 152, 3) := by decide +kernel
theorem dX9_plan_205 : decode cX9_plan 205 = .ok (.goto 45, 3) := by decide +kernel
theorem dX9_plan_208 : decode cX9_plan 208 = .ok (.aload_n 0, 1) := by decide +kernel
theorem dX9_plan_209 : decode cX9_plan 209 = .ok (.iconst 0, 1) := by decide +kernel
theorem dX9_plan_210 : decode cX9_plan 210 = .ok (.bipush 8, 2) := by decide +kernel
theorem dX9_plan_212 : decode cX9_plan 212 = .ok (.bipush 16, 2) := by decide +kernel
theorem dX9_plan_214 : decode cX9_plan 214 = .ok (.iload 5, 2) := by decide +kernel
theorem dX9_plan_216 : decode cX9_plan 216 = .ok (.invokevirtual 148, 3) := by decide +kernel
theorem dX9_plan_219 : decode cX9_plan 219 = .ok (.aload_n 0, 1) := by decide +kernel
theorem dX9_plan_220 : decode cX9_plan 220 = .ok (.iconst 0, 1) := by decide +kernel
theorem dX9_plan_221 : decode cX9_plan 221 = .ok (.bipush 8, 2) := by decide +kernel
theorem dX9_plan_223 : decode cX9_plan 223 = .ok (.bipush 16, 2) := by decide +kernel
theorem dX9_plan_225 : decode cX9_plan 225 = .ok (.iconst 3, 1) := by decide +kernel
theorem dX9_plan_226 : decode cX9_plan 226 = .ok (.invokevirtual 152, 3) := by decide +kernel
theorem dX9_plan_229 : decode cX9_plan 229 = .ok (.aload_n 0, 1) := by decide +kernel
theorem dX9_plan_230 : decode cX9_plan 230 = .ok (.iconst 4, 1) := by decide +kernel
theorem dX9_plan_231 : decode cX9_plan 231 = .ok (.bipush 8, 2) := by decide +kernel
theorem dX9_plan_233 : decode cX9_plan 233 = .ok (.bipush 16, 2) := by decide +kernel
theorem dX9_plan_235 : decode cX9_plan 235 = .ok (.iload 6, 2) := by decide +kernel
theorem dX9_plan_237 : decode cX9_plan 237 = .ok (.invokevirtual 148, 3) := by decide +kernel
theorem dX9_plan_240 : decode cX9_plan 240 = .ok (.aload_n 0, 1) := by decide +kernel
theorem dX9_plan_241 : decode cX9_plan 241 = .ok (.iconst 4, 1) := by decide +kernel
theorem dX9_plan_242 : decode cX9_plan 242 = .ok (.bipush 8, 2) := by decide +kernel
theorem dX9_plan_244 : decode cX9_plan 244 = .ok (.bipush 16, 2) := by decide +kernel
theorem dX9_plan_246 : decode cX9_plan 246 = .ok (.iconst 4, 1) := by decide +kernel
theorem dX9_plan_247 : decode cX9_plan 247 = .ok (.invokevirtual 152, 3) := by decide +kernel
theorem dX9_plan_250 : decode cX9_plan 250 = .ok (.return_, 1) := by decide +kernel
def FX9_plan (G : GG) (M : DD) (a : Nat) (p0 : Int32) (p1 : Int32) : Option (DD) :=
  ltt (uI M a 14 ((0 : Int32))) fun M1 =>
  ltt (uI M1 a 16 ((0 : Int32))) fun M2 =>
  if p0 = ((0 : Int32)) then (if p1 ≤ ((2 : Int32)) then (bnd (if p0 = ((0 : Int32)) then (some (p1)) else
  (bnd (if ((4 : Int32)) ≤ p1 then (ltt (p1 - p1 / ((2 : Int32)) * ((2 : Int32))) fun x77 =>
  ltt ((((1 : Int32)) + x77)) fun x78 =>
  some (x78)) else
  (some ((0 : Int32)))) fun (y75 : Int32) =>
  some (y75))) fun (y46 : Int32) =>
  ltt ((p1 - ((4 : Int32)))) fun x47 =>
  ltt ((x47 &&& ((-2 : Int32)))) fun x48 =>
  bnd (if p0 = ((0 : Int32)) then (some ((1 : Int32))) else
  (bnd (if ((4 : Int32)) ≤ p1 then (chk (¬ (x48 < 0 ∨ 18 ≤ x48.toNatClampNeg)) <|
  ltt ((sT 16).getD x48.toNatClampNeg 0) fun x73 =>
  some (x73)) else
  (some (p1))) fun (y71 : Int32) =>
  some (y71))) fun (y49 : Int32) =>
  bnd (if p0 = ((0 : Int32)) then (some (y49)) else
  (bnd (if ((4 : Int32)) ≤ p1 then (ltt ((x48 + ((1 : Int32)))) fun x68 =>
  chk (¬ (x68 < 0 ∨ 18 ≤ x68.toNatClampNeg)) <|
  ltt ((sT 16).getD x68.toNatClampNeg 0) fun x69 =>
  some (x69)) else
  (some (y49))) fun (y66 : Int32) =>
  some (y66))) fun (y50 : Int32) =>
  bnd (if y46 = ((0 : Int32)) then (bnd (FX9_addGroup G M2 a ((0 : Int32)) ((16 : Int32)) ((16 : Int32)) y49) fun y63 =>
  bnd (FX9_addPart G y63 a ((0 : Int32)) ((16 : Int32)) ((16 : Int32)) ((0 : Int32))) fun y64 =>
  some (y64)) else
  (bnd (if y46 = ((1 : Int32)) then (bnd (FX9_addGroup G M2 a ((0 : Int32)) ((16 : Int32)) ((8 : Int32)) y49) fun y59 =>
  bnd (FX9_addPart G y59 a ((0 : Int32)) ((16 : Int32)) ((8 : Int32)) ((1 : Int32))) fun y60 =>
  bnd (FX9_addGroup G y60 a ((8 : Int32)) ((16 : Int32)) ((8 : Int32)) y50) fun y61 =>
  bnd (FX9_addPart G y61 a ((8 : Int32)) ((16 : Int32)) ((8 : Int32)) ((2 : Int32))) fun y62 =>
  some (y62)) else
  (bnd (FX9_addGroup G M2 a ((0 : Int32)) ((8 : Int32)) ((16 : Int32)) y49) fun y55 =>
  bnd (FX9_addPart G y55 a ((0 : Int32)) ((8 : Int32)) ((16 : Int32)) ((3 : Int32))) fun y56 =>
  bnd (FX9_addGroup G y56 a ((4 : Int32)) ((8 : Int32)) ((16 : Int32)) y50) fun y57 =>
  bnd (FX9_addPart G y57 a ((4 : Int32)) ((8 : Int32)) ((16 : Int32)) ((4 : Int32))) fun y58 =>
  some (y58))) fun (y53 : DD) =>
  some (y53))) fun (y51 : DD) =>
  some y51) else
  (bnd (itr (fun (s80 : Int32 × DD) => ((if ((4 : Int32)) ≤ s80.1 then (some (.inr (s80.1, s80.2))) else
  (bnd (FX9_planQuarter G s80.2 a p0 s80.1) fun y84 =>
  ltt (s80.1 + (1 : Int32)) fun x85 =>
  some (.inl (x85, y84)))) : Option ((Int32 × DD) ⊕ (Int32 × DD)))) 1000000 ((0 : Int32), M2)) fun (y79 : Int32 × DD) =>
  some y79.2)) else
  (if p1 = ((22 : Int32)) then (bnd (itr (fun (s39 : Int32 × DD) => ((if ((4 : Int32)) ≤ s39.1 then (some (.inr (s39.1, s39.2))) else
  (bnd (FX9_planQuarter G s39.2 a p0 s39.1) fun y43 =>
  ltt (s39.1 + (1 : Int32)) fun x44 =>
  some (.inl (x44, y43)))) : Option ((Int32 × DD) ⊕ (Int32 × DD)))) 1000000 ((0 : Int32), M2)) fun (y38 : Int32 × DD) =>
  some y38.2) else
  (bnd (if p0 = ((0 : Int32)) then (some (p1)) else
  (bnd (if ((4 : Int32)) ≤ p1 then (ltt (p1 - p1 / ((2 : Int32)) * ((2 : Int32))) fun x36 =>
  ltt ((((1 : Int32)) + x36)) fun x37 =>
  some (x37)) else
  (some ((0 : Int32)))) fun (y34 : Int32) =>
  some (y34))) fun (y5 : Int32) =>
  ltt ((p1 - ((4 : Int32)))) fun x6 =>
  ltt ((x6 &&& ((-2 : Int32)))) fun x7 =>
  bnd (if p0 = ((0 : Int32)) then (some ((1 : Int32))) else
  (bnd (if ((4 : Int32)) ≤ p1 then (chk (¬ (x7 < 0 ∨ 18 ≤ x7.toNatClampNeg)) <|
  ltt ((sT 16).getD x7.toNatClampNeg 0) fun x32 =>
  some (x32)) else
  (some (p1))) fun (y30 : Int32) =>
  some (y30))) fun (y8 : Int32) =>
  bnd (if p0 = ((0 : Int32)) then (some (y8)) else
  (bnd (if ((4 : Int32)) ≤ p1 then (ltt ((x7 + ((1 : Int32)))) fun x27 =>
  chk (¬ (x27 < 0 ∨ 18 ≤ x27.toNatClampNeg)) <|
  ltt ((sT 16).getD x27.toNatClampNeg 0) fun x28 =>
  some (x28)) else
  (some (y8))) fun (y25 : Int32) =>
  some (y25))) fun (y9 : Int32) =>
  bnd (if y5 = ((0 : Int32)) then (bnd (FX9_addGroup G M2 a ((0 : Int32)) ((16 : Int32)) ((16 : Int32)) y8) fun y22 =>
  bnd (FX9_addPart G y22 a ((0 : Int32)) ((16 : Int32)) ((16 : Int32)) ((0 : Int32))) fun y23 =>
  some (y23)) else
  (bnd (if y5 = ((1 : Int32)) then (bnd (FX9_addGroup G M2 a ((0 : Int32)) ((16 : Int32)) ((8 : Int32)) y8) fun y18 =>
  bnd (FX9_addPart G y18 a ((0 : Int32)) ((16 : Int32)) ((8 : Int32)) ((1 : Int32))) fun y19 =>
  bnd (FX9_addGroup G y19 a ((8 : Int32)) ((16 : Int32)) ((8 : Int32)) y9) fun y20 =>
  bnd (FX9_addPart G y20 a ((8 : Int32)) ((16 : Int32)) ((8 : Int32)) ((2 : Int32))) fun y21 =>
  some (y21)) else
  (bnd (FX9_addGroup G M2 a ((0 : Int32)) ((8 : Int32)) ((16 : Int32)) y8) fun y14 =>
  bnd (FX9_addPart G y14 a ((0 : Int32)) ((8 : Int32)) ((16 : Int32)) ((3 : Int32))) fun y15 =>
  bnd (FX9_addGroup G y15 a ((4 : Int32)) ((8 : Int32)) ((16 : Int32)) y9) fun y16 =>
  bnd (FX9_addPart G y16 a ((4 : Int32)) ((8 : Int32)) ((16 : Int32)) ((4 : Int32))) fun y17 =>
  some (y17))) fun (y12 : DD) =>
  some (y12))) fun (y10 : DD) =>
  some y10))
set_option maxHeartbeats 4000000 in
set_option maxRecDepth 100000 in
theorem kX9_plan (l : Launch) (D : va_G) (ct : CT) (ad : Nat → Nat) (Z : Nat → Nat) (G : GG) (M : DD) (sz : Nat) (a : Nat) (p0 : Int32) (p1 : Int32) (y : DD) (hc : a < G.1) (hk : G.2.1 a = 9) (hF : FX9_plan G M a p0 p1 = some y) : Met l yX9_plan wuX9_plan ({ frames := 2, cells := 0, slots := 0, locals := 53 }) (va_Pc [.ref (ad a), .int p0, .int p1] (kB D ct ad Z G M sz)) (va_Qv (fun (_ : Unit) => True) (fun _ t => kE D ct ad G (wA ad G sz) y t) (wA ad G sz)) 0 0 (wA ad G sz) := by
  refine Met.ofW (cc := cX9_plan) (maxL := 7) (ret := none) (by decide) rfl ?_
  intro p e s m args below meth c s₁ B hml hv
  obtain ⟨rfl, hsz, hP, hK, hD0, hZ, hN⟩ := hv
  have hx := B.exec
  have hb := B.bytes
  have hr := B.returns
  have hts := atoms_spec (ws := wuX9_plan) B.pre
  have hown : s.vm.findClass RX9 = some m.cls := findClass_of_methodNamed B.named
  have hlocks := B.notSynchronized
  subst hsz
  have hD := wD_self (sz := s.heap.size) hD0
  have hA9 : ∀ q, s.heap.size ≤ q → wA ad G s.heap.size q := fun q h => Or.inr h
  generalize hAe : wA ad G s.heap.size = A at hD hA9 hZ ⊢
  have hS : va_S A s.heap s.heap [] := va_S.rf
  have hl := lv_entry ([.ref (ad a), .int p0, .int p1]) (n := 7) (Nat.le_of_ble_eq_true rfl)
  rw [lg_entry_eq]
  generalize (lg_sl ([.ref (ad a), .int p0, .int p1]) ++ List.replicate (7 - (lg_sl ([.ref (ad a), .int p0, .int p1])).length) Slot.unset).toArray = ls at hl ⊢
  have hl : lv_has ls 7 [(0, .ref (ad a)), (1, .int p0), (2, .int p1)] := hl
  unfold FX9_plan at hF
  refine lv_aload_n hx hb dX9_plan_0 rfl (lv_at hl 0 rfl) ?_
  refine lv_iconst (v := (0 : Int32)) hx hb dX9_plan_1 (by decide) ?_
  refine va_put (D := D) (ci := 9) (v := .int (0 : Int32)) (ty := .int) (C := RX9) (T := TX9) (N := 20) hx hb hts (mus hf_X9) tyX9 tyX9_ok nmX9 hown hK hP hD hS a (wld_o ct ad G M hc hk (by decide)) rfl 14 (by decide) (hts (.fieldLink RX9 135 "VideoSuite$Work" "parts" "I") (mu mw_469)) (fun _ h9 => h9) rfl (by decide +kernel) rfl rfl (Nat.le_of_ble_eq_true rfl) dX9_plan_2 (fun H locs hP hD hS => ?_)
  obtain ⟨M1, eM1, hF⟩ := ltt_some hF
  rw [set_oI ct ad G M hc hk (by decide) (by rfl), ← eM1] at hP hD
  refine lv_aload_n hx hb dX9_plan_5 rfl (lv_at hl 0 rfl) ?_
  refine lv_iconst (v := (0 : Int32)) hx hb dX9_plan_6 (by decide) ?_
  refine va_put (D := D) (ci := 9) (v := .int (0 : Int32)) (ty := .int) (C := RX9) (T := TX9) (N := 20) hx hb hts (mus hf_X9) tyX9 tyX9_ok nmX9 hown hK hP hD hS a (wld_o ct ad G M1 hc hk (by decide)) rfl 16 (by decide) (hts (.fieldLink RX9 138 "VideoSuite$Work" "groups" "I") (mu mw_475)) (fun _ h9 => h9) rfl (by decide +kernel) rfl rfl (Nat.le_of_ble_eq_true rfl) dX9_plan_7 (fun H locs hP hD hS => ?_)
  obtain ⟨M2, eM2, hF⟩ := ltt_some hF
  rw [set_oI ct ad G M1 hc hk (by decide) (by rfl), ← eM2] at hP hD
  refine lv_iload_n hx hb dX9_plan_10 rfl (lv_at hl 1 rfl) ?_
  refine lv_if_ne (tgt := 22) hx hb dX9_plan_11 (by decide) (fun c3 => ?_) (fun c3 => ?_)
  · rw [if_neg c3] at hF
    refine lv_iload_n hx hb dX9_plan_22 rfl (lv_at hl 2 rfl) ?_
    refine lv_bipush (v := (22 : Int32)) hx hb dX9_plan_23 (by decide) ?_
    refine lv_icmp_ne (tgt := 48) hx hb dX9_plan_25 (by decide) (fun c4 => ?_) (fun c4 => ?_)
    · rw [if_neg c4] at hF
      refine lv_iload_n hx hb dX9_plan_48 rfl (lv_at hl 1 rfl) ?_
      obtain ⟨y5, hy5, hF⟩ := bnd_some hF
      have J5 : ∀ (H : Heap) (locs : List Loc) (ls : Array Slot), va_P D classes (wld ct ad G M2) H → va_D A (wld ct ad G M2) → va_S A s.heap H locs → lv_has ls 7 [(0, .ref (ad a)), (1, .int p0), (2, .int p1)] → W p l e (headSpec wuX9_plan ({ frames := 2, cells := 0, slots := 0, locals := 53 })).room s m ([.ref (ad a), .int p0, .int p1] : List Value).toArray below meth c H locs 0 0 (MQ below (va_Qv (fun (_ : Unit) => True) (fun _ t => kE D ct ad G A y t) A) ([.ref (ad a), .int p0, .int p1] : List Value).toArray s 0 0 A) (F0 m 70 ls [.int y5]) := by
        intro H locs ls hP hD hS hl
        refine lv_istore_n (lv' := [(3, .int y5), (0, .ref (ad a)), (1, .int p0), (2, .int p1)]) hx hb dX9_plan_70 rfl hl (by decide) rfl (fun ls hl => ?_)
        refine lv_iload_n hx hb dX9_plan_71 rfl (lv_at hl 3 rfl) ?_
        refine lv_iconst (v := (4 : Int32)) hx hb dX9_plan_72 (by decide) ?_
        refine lv_isub hx hb dX9_plan_73 ?_
        obtain ⟨x6, ex6, hF⟩ := ltt_some hF
        refine lv_topi (fun zx6 ezx6 => ?_)
        obtain rfl : x6 = zx6 := ex6.trans ezx6.symm
        refine lv_bipush (v := (-2 : Int32)) hx hb dX9_plan_74 (by decide) ?_
        refine lv_iand hx hb dX9_plan_76 ?_
        obtain ⟨x7, ex7, hF⟩ := ltt_some hF
        refine lv_topi (fun zx7 ezx7 => ?_)
        obtain rfl : x7 = zx7 := ex7.trans ezx7.symm
        refine lv_istore (lv' := [(4, .int x7), (3, .int y5), (0, .ref (ad a)), (1, .int p0), (2, .int p1)]) hx hb dX9_plan_77 hl (by decide) rfl (fun ls hl => ?_)
        refine lv_iload_n hx hb dX9_plan_79 rfl (lv_at hl 3 rfl) ?_
        obtain ⟨y8, hy8, hF⟩ := bnd_some hF
        have J8 : ∀ (H : Heap) (locs : List Loc) (ls : Array Slot), va_P D classes (wld ct ad G M2) H → va_D A (wld ct ad G M2) → va_S A s.heap H locs → lv_has ls 7 [(4, .int x7), (3, .int y5), (0, .ref (ad a)), (1, .int p0), (2, .int p1)] → W p l e (headSpec wuX9_plan ({ frames := 2, cells := 0, slots := 0, locals := 53 })).room s m ([.ref (ad a), .int p0, .int p1] : List Value).toArray below meth c H locs 0 0 (MQ below (va_Qv (fun (_ : Unit) => True) (fun _ t => kE D ct ad G A y t) A) ([.ref (ad a), .int p0, .int p1] : List Value).toArray s 0 0 A) (F0 m 102 ls [.int y8]) := by
          intro H locs ls hP hD hS hl
          refine lv_istore (lv' := [(5, .int y8), (4, .int x7), (3, .int y5), (0, .ref (ad a)), (1, .int p0), (2, .int p1)]) hx hb dX9_plan_102 hl (by decide) rfl (fun ls hl => ?_)
          refine lv_iload_n hx hb dX9_plan_104 rfl (lv_at hl 4 rfl) ?_
          obtain ⟨y9, hy9, hF⟩ := bnd_some hF
          have J9 : ∀ (H : Heap) (locs : List Loc) (ls : Array Slot), va_P D classes (wld ct ad G M2) H → va_D A (wld ct ad G M2) → va_S A s.heap H locs → lv_has ls 7 [(5, .int y8), (4, .int x7), (3, .int y5), (0, .ref (ad a)), (1, .int p0), (2, .int p1)] → W p l e (headSpec wuX9_plan ({ frames := 2, cells := 0, slots := 0, locals := 53 })).room s m ([.ref (ad a), .int p0, .int p1] : List Value).toArray below meth c H locs 0 0 (MQ below (va_Qv (fun (_ : Unit) => True) (fun _ t => kE D ct ad G A y t) A) ([.ref (ad a), .int p0, .int p1] : List Value).toArray s 0 0 A) (F0 m 126 ls [.int y9]) := by
            intro H locs ls hP hD hS hl
            refine lv_istore (lv' := [(6, .int y9), (5, .int y8), (4, .int x7), (3, .int y5), (0, .ref (ad a)), (1, .int p0), (2, .int p1)]) hx hb dX9_plan_126 hl (by decide) rfl (fun ls hl => ?_)
            refine lv_iload_n hx hb dX9_plan_128 rfl (lv_at hl 3 rfl) ?_
            obtain ⟨y10, hy10, hF⟩ := bnd_some hF
            have J10 : ∀ (H : Heap) (locs : List Loc) (ls : Array Slot), va_P D classes (wld ct ad G y10) H → va_D A (wld ct ad G y10) → va_S A s.heap H locs → lv_has ls 7 [(6, .int y9), (5, .int y8), (4, .int x7), (3, .int y5), (0, .ref (ad a)), (1, .int p0), (2, .int p1)] → W p l e (headSpec wuX9_plan ({ frames := 2, cells := 0, slots := 0, locals := 53 })).room s m ([.ref (ad a), .int p0, .int p1] : List Value).toArray below meth c H locs 0 0 (MQ below (va_Qv (fun (_ : Unit) => True) (fun _ t => kE D ct ad G A y t) A) ([.ref (ad a), .int p0, .int p1] : List Value).toArray s 0 0 A) (F0 m 250 ls []) := by
              intro H locs ls hP hD hS hl
              obtain rfl := Option.some.inj hF
              exact W.vret hx hb hr (fun t ht hW => ⟨⟨(), rfl, trivial, ⟨by rw [ht]; exact hP, va_K.moved hW.alike hK, hD⟩⟩, hS.F ht⟩) hS.2.2 dX9_plan_250
            clear hF
            have hF := hy10
            clear hy10
            refine lv_if_ne (tgt := 156) hx hb dX9_plan_129 (by decide) (fun c11 => ?_) (fun c11 => ?_)
            · rw [if_neg c11] at hF
              refine lv_iload_n hx hb dX9_plan_156 rfl (lv_at hl 3 rfl) ?_
              refine lv_iconst (v := (1 : Int32)) hx hb dX9_plan_157 (by decide) ?_
              obtain ⟨y12, hy12, hF⟩ := bnd_some hF
              have J12 : ∀ (H : Heap) (locs : List Loc) (ls : Array Slot), va_P D classes (wld ct ad G y12) H → va_D A (wld ct ad G y12) → va_S A s.heap H locs → lv_has ls 7 [(6, .int y9), (5, .int y8), (4, .int x7), (3, .int y5), (0, .ref (ad a)), (1, .int p0), (2, .int p1)] → W p l e (headSpec wuX9_plan ({ frames := 2, cells := 0, slots := 0, locals := 53 })).room s m ([.ref (ad a), .int p0, .int p1] : List Value).toArray below meth c H locs 0 0 (MQ below (va_Qv (fun (_ : Unit) => True) (fun _ t => kE D ct ad G A y t) A) ([.ref (ad a), .int p0, .int p1] : List Value).toArray s 0 0 A) (F0 m 250 ls []) := by
                intro H locs ls hP hD hS hl
                obtain rfl := Option.some.inj hF
                exact J10 _ _ _ hP hD hS (lv_sub hl [0, 1, 2, 3, 4, 5, 6] rfl)
              clear hF
              have hF := hy12
              clear hy12
              refine lv_icmp_ne (tgt := 208) hx hb dX9_plan_158 (by decide) (fun c13 => ?_) (fun c13 => ?_)
              · rw [if_neg c13] at hF
                refine lv_aload_n hx hb dX9_plan_208 rfl (lv_at hl 4 rfl) ?_
                refine lv_iconst (v := (0 : Int32)) hx hb dX9_plan_209 (by decide) ?_
                refine lv_bipush (v := (8 : Int32)) hx hb dX9_plan_210 (by decide) ?_
                refine lv_bipush (v := (16 : Int32)) hx hb dX9_plan_212 (by decide) ?_
                refine lv_iload hx hb dX9_plan_214 (lv_at hl 1 rfl) ?_
                obtain ⟨y14, hy14, hF⟩ := bnd_some hF
                have hf9 := wA_in hD hA9 hS
                refine va_callv (va_runV (As := [.int (0 : Int32), .int (8 : Int32), .int (16 : Int32), .int y8]) (rest := []) ⟨hx, hb, hml, hown, hts⟩ (kX9_addGroup l D ct ad Z G M2 H.size a ((0 : Int32)) ((8 : Int32)) ((16 : Int32)) y8 y14 hc hk hy14) (cwV 4 hts gX9_plan_X9_addGroup rfl rfl rfl (by decide +kernel) ⟨Nat.le_of_ble_eq_true rfl, Nat.le_of_ble_eq_true rfl⟩) ⟨fun a U g mk q => by obtain ⟨q0, q1, qP, qK, qD, qZ, qN⟩ := q; exact ⟨q0, q1, qP, va_K.moved (u := U) (U := U.calling g mk a) (Vm.Alike.refl U.vm) qK, qD, sF.moved (u := U) (U := U.calling g mk a) (Vm.Alike.refl U.vm) qZ, nF.same rfl qN⟩, va_recv hK hP (ci := 9) (q0 := a) rfl (wld_o ct ad G M2 hc hk (by decide)), fun U hU hW => ⟨rfl, by rw [hU], by rw [hU]; exact hP, va_K.moved hW.alike hK, hD.weaken (fun _ _ _ _ => trivial), by rw [hU]; exact ((hZ.kept hS.2.1).narrow hf9).moved hW.alike, hN.warm hW⟩⟩ rfl rfl hl.1 rfl (lv_room (Nat.le_of_ble_eq_true rfl)) dX9_plan_216 ⟨(Nat.zero_le _), (Nat.zero_le _)⟩) hS (fun q _ h => hf9 q h) hf9 (fun u t H locs ht hvm hw hB hz1 hk1 hS => ?_)
                obtain ⟨hP, hK9, hD9⟩ := hB
                rw [ht] at hP
                have hD := hD9.weaken (fun _ q _ h => hf9 q.1 h)
                refine lv_aload_n hx hb dX9_plan_219 rfl (lv_at hl 4 rfl) ?_
                refine lv_iconst (v := (0 : Int32)) hx hb dX9_plan_220 (by decide) ?_
                refine lv_bipush (v := (8 : Int32)) hx hb dX9_plan_221 (by decide) ?_
                refine lv_bipush (v := (16 : Int32)) hx hb dX9_plan_223 (by decide) ?_
                refine lv_iconst (v := (3 : Int32)) hx hb dX9_plan_225 (by decide) ?_
                obtain ⟨y15, hy15, hF⟩ := bnd_some hF
                have hf9 := wA_in hD hA9 hS
                refine va_callv (va_runV (As := [.int (0 : Int32), .int (8 : Int32), .int (16 : Int32), .int (3 : Int32)]) (rest := []) ⟨hx, hb, hml, hown, hts⟩ (kX9_addPart l D ct ad Z G y14 H.size a ((0 : Int32)) ((8 : Int32)) ((16 : Int32)) ((3 : Int32)) y15 hc hk hy15) (cwV 4 hts gX9_plan_X9_addPart rfl rfl rfl (by decide +kernel) ⟨Nat.le_of_ble_eq_true rfl, Nat.le_of_ble_eq_true rfl⟩) ⟨fun a U g mk q => by obtain ⟨q0, q1, qP, qK, qD, qZ, qN⟩ := q; exact ⟨q0, q1, qP, va_K.moved (u := U) (U := U.calling g mk a) (Vm.Alike.refl U.vm) qK, qD, sF.moved (u := U) (U := U.calling g mk a) (Vm.Alike.refl U.vm) qZ, nF.same rfl qN⟩, va_recv hK hP (ci := 9) (q0 := a) rfl (wld_o ct ad G y14 hc hk (by decide)), fun U hU hW => ⟨rfl, by rw [hU], by rw [hU]; exact hP, va_K.moved hW.alike hK, hD.weaken (fun _ _ _ _ => trivial), by rw [hU]; exact ((hZ.kept hS.2.1).narrow hf9).moved hW.alike, hN.warm hW⟩⟩ rfl rfl hl.1 rfl (lv_room (Nat.le_of_ble_eq_true rfl)) dX9_plan_226 ⟨(Nat.zero_le _), (Nat.zero_le _)⟩) hS (fun q _ h => hf9 q h) hf9 (fun u t H locs ht hvm hw hB hz1 hk1 hS => ?_)
                obtain ⟨hP, hK9, hD9⟩ := hB
                rw [ht] at hP
                have hD := hD9.weaken (fun _ q _ h => hf9 q.1 h)
                refine lv_aload_n hx hb dX9_plan_229 rfl (lv_at hl 4 rfl) ?_
                refine lv_iconst (v := (4 : Int32)) hx hb dX9_plan_230 (by decide) ?_
                refine lv_bipush (v := (8 : Int32)) hx hb dX9_plan_231 (by decide) ?_
                refine lv_bipush (v := (16 : Int32)) hx hb dX9_plan_233 (by decide) ?_
                refine lv_iload hx hb dX9_plan_235 (lv_at hl 0 rfl) ?_
                obtain ⟨y16, hy16, hF⟩ := bnd_some hF
                have hf9 := wA_in hD hA9 hS
                refine va_callv (va_runV (As := [.int (4 : Int32), .int (8 : Int32), .int (16 : Int32), .int y9]) (rest := []) ⟨hx, hb, hml, hown, hts⟩ (kX9_addGroup l D ct ad Z G y15 H.size a ((4 : Int32)) ((8 : Int32)) ((16 : Int32)) y9 y16 hc hk hy16) (cwV 4 hts gX9_plan_X9_addGroup rfl rfl rfl (by decide +kernel) ⟨Nat.le_of_ble_eq_true rfl, Nat.le_of_ble_eq_true rfl⟩) ⟨fun a U g mk q => by obtain ⟨q0, q1, qP, qK, qD, qZ, qN⟩ := q; exact ⟨q0, q1, qP, va_K.moved (u := U) (U := U.calling g mk a) (Vm.Alike.refl U.vm) qK, qD, sF.moved (u := U) (U := U.calling g mk a) (Vm.Alike.refl U.vm) qZ, nF.same rfl qN⟩, va_recv hK hP (ci := 9) (q0 := a) rfl (wld_o ct ad G y15 hc hk (by decide)), fun U hU hW => ⟨rfl, by rw [hU], by rw [hU]; exact hP, va_K.moved hW.alike hK, hD.weaken (fun _ _ _ _ => trivial), by rw [hU]; exact ((hZ.kept hS.2.1).narrow hf9).moved hW.alike, hN.warm hW⟩⟩ rfl rfl hl.1 rfl (lv_room (Nat.le_of_ble_eq_true rfl)) dX9_plan_237 ⟨(Nat.zero_le _), (Nat.zero_le _)⟩) hS (fun q _ h => hf9 q h) hf9 (fun u t H locs ht hvm hw hB hz1 hk1 hS => ?_)
                obtain ⟨hP, hK9, hD9⟩ := hB
                rw [ht] at hP
                have hD := hD9.weaken (fun _ q _ h => hf9 q.1 h)
                refine lv_aload_n hx hb dX9_plan_240 rfl (lv_at hl 4 rfl) ?_
                refine lv_iconst (v := (4 : Int32)) hx hb dX9_plan_241 (by decide) ?_
                refine lv_bipush (v := (8 : Int32)) hx hb dX9_plan_242 (by decide) ?_
                refine lv_bipush (v := (16 : Int32)) hx hb dX9_plan_244 (by decide) ?_
                refine lv_iconst (v := (4 : Int32)) hx hb dX9_plan_246 (by decide) ?_
                obtain ⟨y17, hy17, hF⟩ := bnd_some hF
                have hf9 := wA_in hD hA9 hS
                refine va_callv (va_runV (As := [.int (4 : Int32), .int (8 : Int32), .int (16 : Int32), .int (4 : Int32)]) (rest := []) ⟨hx, hb, hml, hown, hts⟩ (kX9_addPart l D ct ad Z G y16 H.size a ((4 : Int32)) ((8 : Int32)) ((16 : Int32)) ((4 : Int32)) y17 hc hk hy17) (cwV 4 hts gX9_plan_X9_addPart rfl rfl rfl (by decide +kernel) ⟨Nat.le_of_ble_eq_true rfl, Nat.le_of_ble_eq_true rfl⟩) ⟨fun a U g mk q => by obtain ⟨q0, q1, qP, qK, qD, qZ, qN⟩ := q; exact ⟨q0, q1, qP, va_K.moved (u := U) (U := U.calling g mk a) (Vm.Alike.refl U.vm) qK, qD, sF.moved (u := U) (U := U.calling g mk a) (Vm.Alike.refl U.vm) qZ, nF.same rfl qN⟩, va_recv hK hP (ci := 9) (q0 := a) rfl (wld_o ct ad G y16 hc hk (by decide)), fun U hU hW => ⟨rfl, by rw [hU], by rw [hU]; exact hP, va_K.moved hW.alike hK, hD.weaken (fun _ _ _ _ => trivial), by rw [hU]; exact ((hZ.kept hS.2.1).narrow hf9).moved hW.alike, hN.warm hW⟩⟩ rfl rfl hl.1 rfl (lv_room (Nat.le_of_ble_eq_true rfl)) dX9_plan_247 ⟨(Nat.zero_le _), (Nat.zero_le _)⟩) hS (fun q _ h => hf9 q h) hf9 (fun u t H locs ht hvm hw hB hz1 hk1 hS => ?_)
                obtain ⟨hP, hK9, hD9⟩ := hB
                rw [ht] at hP
                have hD := hD9.weaken (fun _ q _ h => hf9 q.1 h)
                obtain rfl := Option.some.inj hF
                exact J12 _ _ _ hP hD hS (lv_sub hl [0, 1, 2, 3, 4, 5, 6] rfl)
              · rw [if_pos c13] at hF
                refine lv_aload_n hx hb dX9_plan_161 rfl (lv_at hl 4 rfl) ?_
                refine lv_iconst (v := (0 : Int32)) hx hb dX9_plan_162 (by decide) ?_
                refine lv_bipush (v := (16 : Int32)) hx hb dX9_plan_163 (by decide) ?_
                refine lv_bipush (v := (8 : Int32)) hx hb dX9_plan_165 (by decide) ?_
                refine lv_iload hx hb dX9_plan_167 (lv_at hl 1 rfl) ?_
                obtain ⟨y18, hy18, hF⟩ := bnd_some hF
                have hf9 := wA_in hD hA9 hS
                refine va_callv (va_runV (As := [.int (0 : Int32), .int (16 : Int32), .int (8 : Int32), .int y8]) (rest := []) ⟨hx, hb, hml, hown, hts⟩ (kX9_addGroup l D ct ad Z G M2 H.size a ((0 : Int32)) ((16 : Int32)) ((8 : Int32)) y8 y18 hc hk hy18) (cwV 4 hts gX9_plan_X9_addGroup rfl rfl rfl (by decide +kernel) ⟨Nat.le_of_ble_eq_true rfl, Nat.le_of_ble_eq_true rfl⟩) ⟨fun a U g mk q => by obtain ⟨q0, q1, qP, qK, qD, qZ, qN⟩ := q; exact ⟨q0, q1, qP, va_K.moved (u := U) (U := U.calling g mk a) (Vm.Alike.refl U.vm) qK, qD, sF.moved (u := U) (U := U.calling g mk a) (Vm.Alike.refl U.vm) qZ, nF.same rfl qN⟩, va_recv hK hP (ci := 9) (q0 := a) rfl (wld_o ct ad G M2 hc hk (by decide)), fun U hU hW => ⟨rfl, by rw [hU], by rw [hU]; exact hP, va_K.moved hW.alike hK, hD.weaken (fun _ _ _ _ => trivial), by rw [hU]; exact ((hZ.kept hS.2.1).narrow hf9).moved hW.alike, hN.warm hW⟩⟩ rfl rfl hl.1 rfl (lv_room (Nat.le_of_ble_eq_true rfl)) dX9_plan_169 ⟨(Nat.zero_le _), (Nat.zero_le _)⟩) hS (fun q _ h => hf9 q h) hf9 (fun u t H locs ht hvm hw hB hz1 hk1 hS => ?_)
                obtain ⟨hP, hK9, hD9⟩ := hB
                rw [ht] at hP
                have hD := hD9.weaken (fun _ q _ h => hf9 q.1 h)
                refine lv_aload_n hx hb dX9_plan_172 rfl (lv_at hl 4 rfl) ?_
                refine lv_iconst (v := (0 : Int32)) hx hb dX9_plan_173 (by decide) ?_
                refine lv_bipush (v := (16 : Int32)) hx hb dX9_plan_174 (by decide) ?_
                refine lv_bipush (v := (8 : Int32)) hx hb dX9_plan_176 (by decide) ?_
                refine lv_iconst (v := (1 : Int32)) hx hb dX9_plan_178 (by decide) ?_
                obtain ⟨y19, hy19, hF⟩ := bnd_some hF
                have hf9 := wA_in hD hA9 hS
                refine va_callv (va_runV (As := [.int (0 : Int32), .int (16 : Int32), .int (8 : Int32), .int (1 : Int32)]) (rest := []) ⟨hx, hb, hml, hown, hts⟩ (kX9_addPart l D ct ad Z G y18 H.size a ((0 : Int32)) ((16 : Int32)) ((8 : Int32)) ((1 : Int32)) y19 hc hk hy19) (cwV 4 hts gX9_plan_X9_addPart rfl rfl rfl (by decide +kernel) ⟨Nat.le_of_ble_eq_true rfl, Nat.le_of_ble_eq_true rfl⟩) ⟨fun a U g mk q => by obtain ⟨q0, q1, qP, qK, qD, qZ, qN⟩ := q; exact ⟨q0, q1, qP, va_K.moved (u := U) (U := U.calling g mk a) (Vm.Alike.refl U.vm) qK, qD, sF.moved (u := U) (U := U.calling g mk a) (Vm.Alike.refl U.vm) qZ, nF.same rfl qN⟩, va_recv hK hP (ci := 9) (q0 := a) rfl (wld_o ct ad G y18 hc hk (by decide)), fun U hU hW => ⟨rfl, by rw [hU], by rw [hU]; exact hP, va_K.moved hW.alike hK, hD.weaken (fun _ _ _ _ => trivial), by rw [hU]; exact ((hZ.kept hS.2.1).narrow hf9).moved hW.alike, hN.warm hW⟩⟩ rfl rfl hl.1 rfl (lv_room (Nat.le_of_ble_eq_true rfl)) dX9_plan_179 ⟨(Nat.zero_le _), (Nat.zero_le _)⟩) hS (fun q _ h => hf9 q h) hf9 (fun u t H locs ht hvm hw hB hz1 hk1 hS => ?_)
                obtain ⟨hP, hK9, hD9⟩ := hB
                rw [ht] at hP
                have hD := hD9.weaken (fun _ q _ h => hf9 q.1 h)
                refine lv_aload_n hx hb dX9_plan_182 rfl (lv_at hl 4 rfl) ?_
                refine lv_bipush (v := (8 : Int32)) hx hb dX9_plan_183 (by decide) ?_
                refine lv_bipush (v := (16 : Int32)) hx hb dX9_plan_185 (by decide) ?_
                refine lv_bipush (v := (8 : Int32)) hx hb dX9_plan_187 (by decide) ?_
                refine lv_iload hx hb dX9_plan_189 (lv_at hl 0 rfl) ?_
                obtain ⟨y20, hy20, hF⟩ := bnd_some hF
                have hf9 := wA_in hD hA9 hS
                refine va_callv (va_runV (As := [.int (8 : Int32), .int (16 : Int32), .int (8 : Int32), .int y9]) (rest := []) ⟨hx, hb, hml, hown, hts⟩ (kX9_addGroup l D ct ad Z G y19 H.size a ((8 : Int32)) ((16 : Int32)) ((8 : Int32)) y9 y20 hc hk hy20) (cwV 4 hts gX9_plan_X9_addGroup rfl rfl rfl (by decide +kernel) ⟨Nat.le_of_ble_eq_true rfl, Nat.le_of_ble_eq_true rfl⟩) ⟨fun a U g mk q => by obtain ⟨q0, q1, qP, qK, qD, qZ, qN⟩ := q; exact ⟨q0, q1, qP, va_K.moved (u := U) (U := U.calling g mk a) (Vm.Alike.refl U.vm) qK, qD, sF.moved (u := U) (U := U.calling g mk a) (Vm.Alike.refl U.vm) qZ, nF.same rfl qN⟩, va_recv hK hP (ci := 9) (q0 := a) rfl (wld_o ct ad G y19 hc hk (by decide)), fun U hU hW => ⟨rfl, by rw [hU], by rw [hU]; exact hP, va_K.moved hW.alike hK, hD.weaken (fun _ _ _ _ => trivial), by rw [hU]; exact ((hZ.kept hS.2.1).narrow hf9).moved hW.alike, hN.warm hW⟩⟩ rfl rfl hl.1 rfl (lv_room (Nat.le_of_ble_eq_true rfl)) dX9_plan_191 ⟨(Nat.zero_le _), (Nat.zero_le _)⟩) hS (fun q _ h => hf9 q h) hf9 (fun u t H locs ht hvm hw hB hz1 hk1 hS => ?_)
                obtain ⟨hP, hK9, hD9⟩ := hB
                rw [ht] at hP
                have hD := hD9.weaken (fun _ q _ h => hf9 q.1 h)
                refine lv_aload_n hx hb dX9_plan_194 rfl (lv_at hl 4 rfl) ?_
                refine lv_bipush (v := (8 : Int32)) hx hb dX9_plan_195 (by decide) ?_
                refine lv_bipush (v := (16 : Int32)) hx hb dX9_plan_197 (by decide) ?_
                refine lv_bipush (v := (8 : Int32)) hx hb dX9_plan_199 (by decide) ?_
                refine lv_iconst (v := (2 : Int32)) hx hb dX9_plan_201 (by decide) ?_
                obtain ⟨y21, hy21, hF⟩ := bnd_some hF
                have hf9 := wA_in hD hA9 hS
                refine va_callv (va_runV (As := [.int (8 : Int32), .int (16 : Int32), .int (8 : Int32), .int (2 : Int32)]) (rest := []) ⟨hx, hb, hml, hown, hts⟩ (kX9_addPart l D ct ad Z G y20 H.size a ((8 : Int32)) ((16 : Int32)) ((8 : Int32)) ((2 : Int32)) y21 hc hk hy21) (cwV 4 hts gX9_plan_X9_addPart rfl rfl rfl (by decide +kernel) ⟨Nat.le_of_ble_eq_true rfl, Nat.le_of_ble_eq_true rfl⟩) ⟨fun a U g mk q => by obtain ⟨q0, q1, qP, qK, qD, qZ, qN⟩ := q; exact ⟨q0, q1, qP, va_K.moved (u := U) (U := U.calling g mk a) (Vm.Alike.refl U.vm) qK, qD, sF.moved (u := U) (U := U.calling g mk a) (Vm.Alike.refl U.vm) qZ, nF.same rfl qN⟩, va_recv hK hP (ci := 9) (q0 := a) rfl (wld_o ct ad G y20 hc hk (by decide)), fun U hU hW => ⟨rfl, by rw [hU], by rw [hU]; exact hP, va_K.moved hW.alike hK, hD.weaken (fun _ _ _ _ => trivial), by rw [hU]; exact ((hZ.kept hS.2.1).narrow hf9).moved hW.alike, hN.warm hW⟩⟩ rfl rfl hl.1 rfl (lv_room (Nat.le_of_ble_eq_true rfl)) dX9_plan_202 ⟨(Nat.zero_le _), (Nat.zero_le _)⟩) hS (fun q _ h => hf9 q h) hf9 (fun u t H locs ht hvm hw hB hz1 hk1 hS => ?_)
                obtain ⟨hP, hK9, hD9⟩ := hB
                rw [ht] at hP
                have hD := hD9.weaken (fun _ q _ h => hf9 q.1 h)
                refine lv_goto (tgt := 250) hx hb dX9_plan_205 (by decide) ?_
                obtain rfl := Option.some.inj hF
                exact J12 _ _ _ hP hD hS (lv_sub hl [0, 1, 2, 3, 4, 5, 6] rfl)
            · rw [if_pos c11] at hF
              refine lv_aload_n hx hb dX9_plan_132 rfl (lv_at hl 4 rfl) ?_
              refine lv_iconst (v := (0 : Int32)) hx hb dX9_plan_133 (by decide) ?_
              refine lv_bipush (v := (16 : Int32)) hx hb dX9_plan_134 (by decide) ?_
              refine lv_bipush (v := (16 : Int32)) hx hb dX9_plan_136 (by decide) ?_
              refine lv_iload hx hb dX9_plan_138 (lv_at hl 1 rfl) ?_
              obtain ⟨y22, hy22, hF⟩ := bnd_some hF
              have hf9 := wA_in hD hA9 hS
              refine va_callv (va_runV (As := [.int (0 : Int32), .int (16 : Int32), .int (16 : Int32), .int y8]) (rest := []) ⟨hx, hb, hml, hown, hts⟩ (kX9_addGroup l D ct ad Z G M2 H.size a ((0 : Int32)) ((16 : Int32)) ((16 : Int32)) y8 y22 hc hk hy22) (cwV 4 hts gX9_plan_X9_addGroup rfl rfl rfl (by decide +kernel) ⟨Nat.le_of_ble_eq_true rfl, Nat.le_of_ble_eq_true rfl⟩) ⟨fun a U g mk q => by obtain ⟨q0, q1, qP, qK, qD, qZ, qN⟩ := q; exact ⟨q0, q1, qP, va_K.moved (u := U) (U := U.calling g mk a) (Vm.Alike.refl U.vm) qK, qD, sF.moved (u := U) (U := U.calling g mk a) (Vm.Alike.refl U.vm) qZ, nF.same rfl qN⟩, va_recv hK hP (ci := 9) (q0 := a) rfl (wld_o ct ad G M2 hc hk (by decide)), fun U hU hW => ⟨rfl, by rw [hU], by rw [hU]; exact hP, va_K.moved hW.alike hK, hD.weaken (fun _ _ _ _ => trivial), by rw [hU]; exact ((hZ.kept hS.2.1).narrow hf9).moved hW.alike, hN.warm hW⟩⟩ rfl rfl hl.1 rfl (lv_room (Nat.le_of_ble_eq_true rfl)) dX9_plan_140 ⟨(Nat.zero_le _), (Nat.zero_le _)⟩) hS (fun q _ h => hf9 q h) hf9 (fun u t H locs ht hvm hw hB hz1 hk1 hS => ?_)
              obtain ⟨hP, hK9, hD9⟩ := hB
              rw [ht] at hP
              have hD := hD9.weaken (fun _ q _ h => hf9 q.1 h)
              refine lv_aload_n hx hb dX9_plan_143 rfl (lv_at hl 4 rfl) ?_
              refine lv_iconst (v := (0 : Int32)) hx hb dX9_plan_144 (by decide) ?_
              refine lv_bipush (v := (16 : Int32)) hx hb dX9_plan_145 (by decide) ?_
              refine lv_bipush (v := (16 : Int32)) hx hb dX9_plan_147 (by decide) ?_
              refine lv_iconst (v := (0 : Int32)) hx hb dX9_plan_149 (by decide) ?_
              obtain ⟨y23, hy23, hF⟩ := bnd_some hF
              have hf9 := wA_in hD hA9 hS
              refine va_callv (va_runV (As := [.int (0 : Int32), .int (16 : Int32), .int (16 : Int32), .int (0 : Int32)]) (rest := []) ⟨hx, hb, hml, hown, hts⟩ (kX9_addPart l D ct ad Z G y22 H.size a ((0 : Int32)) ((16 : Int32)) ((16 : Int32)) ((0 : Int32)) y23 hc hk hy23) (cwV 4 hts gX9_plan_X9_addPart rfl rfl rfl (by decide +kernel) ⟨Nat.le_of_ble_eq_true rfl, Nat.le_of_ble_eq_true rfl⟩) ⟨fun a U g mk q => by obtain ⟨q0, q1, qP, qK, qD, qZ, qN⟩ := q; exact ⟨q0, q1, qP, va_K.moved (u := U) (U := U.calling g mk a) (Vm.Alike.refl U.vm) qK, qD, sF.moved (u := U) (U := U.calling g mk a) (Vm.Alike.refl U.vm) qZ, nF.same rfl qN⟩, va_recv hK hP (ci := 9) (q0 := a) rfl (wld_o ct ad G y22 hc hk (by decide)), fun U hU hW => ⟨rfl, by rw [hU], by rw [hU]; exact hP, va_K.moved hW.alike hK, hD.weaken (fun _ _ _ _ => trivial), by rw [hU]; exact ((hZ.kept hS.2.1).narrow hf9).moved hW.alike, hN.warm hW⟩⟩ rfl rfl hl.1 rfl (lv_room (Nat.le_of_ble_eq_true rfl)) dX9_plan_150 ⟨(Nat.zero_le _), (Nat.zero_le _)⟩) hS (fun q _ h => hf9 q h) hf9 (fun u t H locs ht hvm hw hB hz1 hk1 hS => ?_)
              obtain ⟨hP, hK9, hD9⟩ := hB
              rw [ht] at hP
              have hD := hD9.weaken (fun _ q _ h => hf9 q.1 h)
              refine lv_goto (tgt := 250) hx hb dX9_plan_153 (by decide) ?_
              obtain rfl := Option.some.inj hF
              exact J10 _ _ _ hP hD hS (lv_sub hl [0, 1, 2, 3, 4, 5, 6] rfl)
          clear hF
          have hF := hy9
          clear hy9
          refine lv_if_eq (tgt := 113) hx hb dX9_plan_105 (by decide) (fun c24 => ?_) (fun c24 => ?_)
          · rw [if_pos c24] at hF
            refine lv_iload hx hb dX9_plan_113 (lv_at hl 0 rfl) ?_
            refine lv_goto (tgt := 126) hx hb dX9_plan_115 (by decide) ?_
            obtain rfl := Option.some.inj hF
            exact J9 _ _ _ hP hD hS (lv_sub hl [0, 1, 2, 3, 4, 5] rfl)
          · rw [if_neg c24] at hF
            refine lv_iload_n hx hb dX9_plan_108 rfl (lv_at hl 5 rfl) ?_
            refine lv_iconst (v := (4 : Int32)) hx hb dX9_plan_109 (by decide) ?_
            obtain ⟨y25, hy25, hF⟩ := bnd_some hF
            have J25 : ∀ (H : Heap) (locs : List Loc) (ls : Array Slot), va_P D classes (wld ct ad G M2) H → va_D A (wld ct ad G M2) → va_S A s.heap H locs → lv_has ls 7 [(5, .int y8), (4, .int x7), (3, .int y5), (0, .ref (ad a)), (1, .int p0), (2, .int p1)] → W p l e (headSpec wuX9_plan ({ frames := 2, cells := 0, slots := 0, locals := 53 })).room s m ([.ref (ad a), .int p0, .int p1] : List Value).toArray below meth c H locs 0 0 (MQ below (va_Qv (fun (_ : Unit) => True) (fun _ t => kE D ct ad G A y t) A) ([.ref (ad a), .int p0, .int p1] : List Value).toArray s 0 0 A) (F0 m 126 ls [.int y25]) := by
              intro H locs ls hP hD hS hl
              obtain rfl := Option.some.inj hF
              exact J9 _ _ _ hP hD hS (lv_sub hl [0, 1, 2, 3, 4, 5] rfl)
            clear hF
            have hF := hy25
            clear hy25
            refine lv_icmp_ge (tgt := 118) hx hb dX9_plan_110 (by decide) (fun c26 => ?_) (fun c26 => ?_)
            · rw [if_pos c26] at hF
              refine va_gets hx hb (hZ.1 16 (by decide)).1 hS hown (hts (.fieldLink RX9 145 "VideoSuite$Work" "PAIR_USE" "[I") (mu mw_1963)) (fun _ h => h) dX9_plan_118 ?_
              refine lv_iload hx hb dX9_plan_121 (lv_at hl 1 rfl) ?_
              refine lv_iconst (v := (1 : Int32)) hx hb dX9_plan_123 (by decide) ?_
              refine lv_iadd hx hb dX9_plan_124 ?_
              obtain ⟨x27, ex27, hF⟩ := ltt_some hF
              refine lv_topi (fun zx27 ezx27 => ?_)
              obtain rfl : x27 = zx27 := ex27.trans ezx27.symm
              obtain ⟨hvc, hF⟩ := chk_some hF
              refine va_ti (v := .int ((sT 16).getD x27.toNatClampNeg 0)) hx hb (hZ.1 16 (by decide)).2 hS hvc rfl dX9_plan_125 ?_
              obtain ⟨x28, ex28, hF⟩ := ltt_some hF
              refine lv_topi (fun zx28 ezx28 => ?_)
              obtain rfl : x28 = zx28 := ex28.trans ezx28.symm
              obtain rfl := Option.some.inj hF
              exact J25 _ _ _ hP hD hS (lv_sub hl [0, 1, 2, 3, 4, 5] rfl)
            · rw [if_neg c26] at hF
              refine lv_iload hx hb dX9_plan_113 (lv_at hl 0 rfl) ?_
              refine lv_goto (tgt := 126) hx hb dX9_plan_115 (by decide) ?_
              obtain rfl := Option.some.inj hF
              exact J25 _ _ _ hP hD hS (lv_sub hl [0, 1, 2, 3, 4, 5] rfl)
        clear hF
        have hF := hy8
        clear hy8
        refine lv_if_ne (tgt := 87) hx hb dX9_plan_80 (by decide) (fun c29 => ?_) (fun c29 => ?_)
        · rw [if_neg c29] at hF
          refine lv_iload_n hx hb dX9_plan_87 rfl (lv_at hl 4 rfl) ?_
          refine lv_iconst (v := (4 : Int32)) hx hb dX9_plan_88 (by decide) ?_
          obtain ⟨y30, hy30, hF⟩ := bnd_some hF
          have J30 : ∀ (H : Heap) (locs : List Loc) (ls : Array Slot), va_P D classes (wld ct ad G M2) H → va_D A (wld ct ad G M2) → va_S A s.heap H locs → lv_has ls 7 [(4, .int x7), (3, .int y5), (0, .ref (ad a)), (1, .int p0), (2, .int p1)] → W p l e (headSpec wuX9_plan ({ frames := 2, cells := 0, slots := 0, locals := 53 })).room s m ([.ref (ad a), .int p0, .int p1] : List Value).toArray below meth c H locs 0 0 (MQ below (va_Qv (fun (_ : Unit) => True) (fun _ t => kE D ct ad G A y t) A) ([.ref (ad a), .int p0, .int p1] : List Value).toArray s 0 0 A) (F0 m 102 ls [.int y30]) := by
            intro H locs ls hP hD hS hl
            obtain rfl := Option.some.inj hF
            exact J8 _ _ _ hP hD hS (lv_sub hl [0, 1, 2, 3, 4] rfl)
          clear hF
          have hF := hy30
          clear hy30
          refine lv_icmp_ge (tgt := 96) hx hb dX9_plan_89 (by decide) (fun c31 => ?_) (fun c31 => ?_)
          · rw [if_pos c31] at hF
            refine va_gets hx hb (hZ.1 16 (by decide)).1 hS hown (hts (.fieldLink RX9 145 "VideoSuite$Work" "PAIR_USE" "[I") (mu mw_1963)) (fun _ h => h) dX9_plan_96 ?_
            refine lv_iload hx hb dX9_plan_99 (lv_at hl 0 rfl) ?_
            obtain ⟨hvc, hF⟩ := chk_some hF
            refine va_ti (v := .int ((sT 16).getD x7.toNatClampNeg 0)) hx hb (hZ.1 16 (by decide)).2 hS hvc rfl dX9_plan_101 ?_
            obtain ⟨x32, ex32, hF⟩ := ltt_some hF
            refine lv_topi (fun zx32 ezx32 => ?_)
            obtain rfl : x32 = zx32 := ex32.trans ezx32.symm
            obtain rfl := Option.some.inj hF
            exact J30 _ _ _ hP hD hS (lv_sub hl [0, 1, 2, 3, 4] rfl)
          · rw [if_neg c31] at hF
            refine lv_iload_n hx hb dX9_plan_92 rfl (lv_at hl 4 rfl) ?_
            refine lv_goto (tgt := 102) hx hb dX9_plan_93 (by decide) ?_
            obtain rfl := Option.some.inj hF
            exact J30 _ _ _ hP hD hS (lv_sub hl [0, 1, 2, 3, 4] rfl)
        · rw [if_pos c29] at hF
          refine lv_iconst (v := (1 : Int32)) hx hb dX9_plan_83 (by decide) ?_
          refine lv_goto (tgt := 102) hx hb dX9_plan_84 (by decide) ?_
          obtain rfl := Option.some.inj hF
          exact J8 _ _ _ hP hD hS (lv_sub hl [0, 1, 2, 3, 4] rfl)
      clear hF
      have hF := hy5
      clear hy5
      refine lv_if_ne (tgt := 56) hx hb dX9_plan_49 (by decide) (fun c33 => ?_) (fun c33 => ?_)
      · rw [if_neg c33] at hF
        refine lv_iload_n hx hb dX9_plan_56 rfl (lv_at hl 2 rfl) ?_
        refine lv_iconst (v := (4 : Int32)) hx hb dX9_plan_57 (by decide) ?_
        obtain ⟨y34, hy34, hF⟩ := bnd_some hF
        have J34 : ∀ (H : Heap) (locs : List Loc) (ls : Array Slot), va_P D classes (wld ct ad G M2) H → va_D A (wld ct ad G M2) → va_S A s.heap H locs → lv_has ls 7 [(0, .ref (ad a)), (1, .int p0), (2, .int p1)] → W p l e (headSpec wuX9_plan ({ frames := 2, cells := 0, slots := 0, locals := 53 })).room s m ([.ref (ad a), .int p0, .int p1] : List Value).toArray below meth c H locs 0 0 (MQ below (va_Qv (fun (_ : Unit) => True) (fun _ t => kE D ct ad G A y t) A) ([.ref (ad a), .int p0, .int p1] : List Value).toArray s 0 0 A) (F0 m 70 ls [.int y34]) := by
          intro H locs ls hP hD hS hl
          obtain rfl := Option.some.inj hF
          exact J5 _ _ _ hP hD hS (lv_sub hl [0, 1, 2] rfl)
        clear hF
        have hF := hy34
        clear hy34
        refine lv_icmp_ge (tgt := 65) hx hb dX9_plan_58 (by decide) (fun c35 => ?_) (fun c35 => ?_)
        · rw [if_pos c35] at hF
          refine lv_iconst (v := (1 : Int32)) hx hb dX9_plan_65 (by decide) ?_
          refine lv_iload_n hx hb dX9_plan_66 rfl (lv_at hl 2 rfl) ?_
          refine lv_iconst (v := (2 : Int32)) hx hb dX9_plan_67 (by decide) ?_
          refine lv_irem hx hb dX9_plan_68 (by decide) ?_
          obtain ⟨x36, ex36, hF⟩ := ltt_some hF
          refine lv_topi (fun zx36 ezx36 => ?_)
          obtain rfl : x36 = zx36 := ex36.trans ezx36.symm
          refine lv_iadd hx hb dX9_plan_69 ?_
          obtain ⟨x37, ex37, hF⟩ := ltt_some hF
          refine lv_topi (fun zx37 ezx37 => ?_)
          obtain rfl : x37 = zx37 := ex37.trans ezx37.symm
          obtain rfl := Option.some.inj hF
          exact J34 _ _ _ hP hD hS (lv_sub hl [0, 1, 2] rfl)
        · rw [if_neg c35] at hF
          refine lv_iconst (v := (0 : Int32)) hx hb dX9_plan_61 (by decide) ?_
          refine lv_goto (tgt := 70) hx hb dX9_plan_62 (by decide) ?_
          obtain rfl := Option.some.inj hF
          exact J34 _ _ _ hP hD hS (lv_sub hl [0, 1, 2] rfl)
      · rw [if_pos c33] at hF
        refine lv_iload_n hx hb dX9_plan_52 rfl (lv_at hl 2 rfl) ?_
        refine lv_goto (tgt := 70) hx hb dX9_plan_53 (by decide) ?_
        obtain rfl := Option.some.inj hF
        exact J5 _ _ _ hP hD hS (lv_sub hl [0, 1, 2] rfl)
    · rw [if_pos c4] at hF
      refine lv_iconst (v := (0 : Int32)) hx hb dX9_plan_28 (by decide) ?_
      refine lv_istore_n (lv' := [(3, .int (0 : Int32)), (0, .ref (ad a)), (1, .int p0), (2, .int p1)]) hx hb dX9_plan_29 rfl hl (by decide) rfl (fun ls hl => ?_)
      obtain ⟨y38, hy38, hF⟩ := bnd_some hF
      have K38 : ∀ (H : Heap) (locs : List Loc) (ls : Array Slot), va_P D classes (wld ct ad G y38.2) H → va_D A (wld ct ad G y38.2) → va_S A s.heap H locs → lv_has ls 7 [(3, .int y38.1), (0, .ref (ad a)), (1, .int p0), (2, .int p1)] → W p l e (headSpec wuX9_plan ({ frames := 2, cells := 0, slots := 0, locals := 53 })).room s m ([.ref (ad a), .int p0, .int p1] : List Value).toArray below meth c H locs 0 0 (MQ below (va_Qv (fun (_ : Unit) => True) (fun _ t => kE D ct ad G A y t) A) ([.ref (ad a), .int p0, .int p1] : List Value).toArray s 0 0 A) (F0 m 47 ls []) := by
        intro H locs ls hP hD hS hl
        obtain rfl := Option.some.inj hF
        exact W.vret hx hb hr (fun t ht hW => ⟨⟨(), rfl, trivial, ⟨by rw [ht]; exact hP, va_K.moved hW.alike hK, hD⟩⟩, hS.F ht⟩) hS.2.2 dX9_plan_47
      clear hF
      refine itr_rule (fun (s39 : Int32 × DD) => ∀ (H : Heap) (locs : List Loc) (ls : Array Slot), va_P D classes (wld ct ad G s39.2) H → va_D A (wld ct ad G s39.2) → va_S A s.heap H locs → lv_has ls 7 [(3, .int s39.1), (0, .ref (ad a)), (1, .int p0), (2, .int p1)] → W p l e (headSpec wuX9_plan ({ frames := 2, cells := 0, slots := 0, locals := 53 })).room s m ([.ref (ad a), .int p0, .int p1] : List Value).toArray below meth c H locs 0 0 (MQ below (va_Qv (fun (_ : Unit) => True) (fun _ t => kE D ct ad G A y t) A) ([.ref (ad a), .int p0, .int p1] : List Value).toArray s 0 0 A) (F0 m 30 ls [])) ?_ _ _ hy38 _ _ _ hP hD hS (lv_sub hl [0, 1, 2, 3] rfl)
      rintro s39 ⟨z41, hF, hwz41⟩ H locs ls hP hD hS hl
      try dsimp only at hF
      refine lv_iload_n hx hb dX9_plan_30 rfl (lv_at hl 0 rfl) ?_
      refine lv_iconst (v := (4 : Int32)) hx hb dX9_plan_31 (by decide) ?_
      refine lv_icmp_ge (tgt := 47) hx hb dX9_plan_32 (by decide) (fun c42 => ?_) (fun c42 => ?_)
      · rw [if_pos c42] at hF
        obtain rfl := Option.some.inj hF
        subst hwz41
        exact K38 _ _ _ hP hD hS (lv_sub hl [0, 1, 2, 3] rfl)
      · rw [if_neg c42] at hF
        refine lv_aload_n hx hb dX9_plan_35 rfl (lv_at hl 1 rfl) ?_
        refine lv_iload_n hx hb dX9_plan_36 rfl (lv_at hl 2 rfl) ?_
        refine lv_iload_n hx hb dX9_plan_37 rfl (lv_at hl 0 rfl) ?_
        obtain ⟨y43, hy43, hF⟩ := bnd_some hF
        have hf9 := wA_in hD hA9 hS
        refine va_callv (va_runV (As := [.int p0, .int s39.1]) (rest := []) ⟨hx, hb, hml, hown, hts⟩ (kX9_planQuarter l D ct ad Z G s39.2 H.size a p0 s39.1 y43 hc hk hy43) (cwV 2 hts gX9_plan_X9_planQuarter rfl rfl rfl (by decide +kernel) ⟨Nat.le_of_ble_eq_true rfl, Nat.le_of_ble_eq_true rfl⟩) ⟨fun a U g mk q => by obtain ⟨q0, q1, qP, qK, qD, qZ, qN⟩ := q; exact ⟨q0, q1, qP, va_K.moved (u := U) (U := U.calling g mk a) (Vm.Alike.refl U.vm) qK, qD, sF.moved (u := U) (U := U.calling g mk a) (Vm.Alike.refl U.vm) qZ, nF.same rfl qN⟩, va_recv hK hP (ci := 9) (q0 := a) rfl (wld_o ct ad G s39.2 hc hk (by decide)), fun U hU hW => ⟨rfl, by rw [hU], by rw [hU]; exact hP, va_K.moved hW.alike hK, hD.weaken (fun _ _ _ _ => trivial), by rw [hU]; exact ((hZ.kept hS.2.1).narrow hf9).moved hW.alike, hN.warm hW⟩⟩ rfl rfl hl.1 rfl (lv_room (Nat.le_of_ble_eq_true rfl)) dX9_plan_38 ⟨(Nat.zero_le _), (Nat.zero_le _)⟩) hS (fun q _ h => hf9 q h) hf9 (fun u t H locs ht hvm hw hB hz1 hk1 hS => ?_)
        obtain ⟨hP, hK9, hD9⟩ := hB
        rw [ht] at hP
        have hD := hD9.weaken (fun _ q _ h => hf9 q.1 h)
        obtain ⟨x44, ex44, hF⟩ := ltt_some hF
        refine lv_iinc (v := x44) (lv' := [(3, .int x44), (0, .ref (ad a)), (1, .int p0), (2, .int p1)]) hx hb dX9_plan_41 hl (k := 0) rfl (by rw [ex44]; rfl) (by decide) rfl (fun ls hl => ?_)
        refine lv_goto (tgt := 30) hx hb dX9_plan_44 (by decide) ?_
        obtain rfl := Option.some.inj hF
        exact hwz41 _ _ _ hP hD hS (lv_sub hl [0, 1, 2, 3] rfl)
  · rw [if_pos c3] at hF
    refine lv_iload_n hx hb dX9_plan_14 rfl (lv_at hl 2 rfl) ?_
    refine lv_iconst (v := (2 : Int32)) hx hb dX9_plan_15 (by decide) ?_
    refine lv_icmp_le (tgt := 48) hx hb dX9_plan_16 (by decide) (fun c45 => ?_) (fun c45 => ?_)
    · rw [if_pos c45] at hF
      refine lv_iload_n hx hb dX9_plan_48 rfl (lv_at hl 1 rfl) ?_
      obtain ⟨y46, hy46, hF⟩ := bnd_some hF
      have J46 : ∀ (H : Heap) (locs : List Loc) (ls : Array Slot), va_P D classes (wld ct ad G M2) H → va_D A (wld ct ad G M2) → va_S A s.heap H locs → lv_has ls 7 [(0, .ref (ad a)), (1, .int p0), (2, .int p1)] → W p l e (headSpec wuX9_plan ({ frames := 2, cells := 0, slots := 0, locals := 53 })).room s m ([.ref (ad a), .int p0, .int p1] : List Value).toArray below meth c H locs 0 0 (MQ below (va_Qv (fun (_ : Unit) => True) (fun _ t => kE D ct ad G A y t) A) ([.ref (ad a), .int p0, .int p1] : List Value).toArray s 0 0 A) (F0 m 70 ls [.int y46]) := by
        intro H locs ls hP hD hS hl
        refine lv_istore_n (lv' := [(3, .int y46), (0, .ref (ad a)), (1, .int p0), (2, .int p1)]) hx hb dX9_plan_70 rfl hl (by decide) rfl (fun ls hl => ?_)
        refine lv_iload_n hx hb dX9_plan_71 rfl (lv_at hl 3 rfl) ?_
        refine lv_iconst (v := (4 : Int32)) hx hb dX9_plan_72 (by decide) ?_
        refine lv_isub hx hb dX9_plan_73 ?_
        obtain ⟨x47, ex47, hF⟩ := ltt_some hF
        refine lv_topi (fun zx47 ezx47 => ?_)
        obtain rfl : x47 = zx47 := ex47.trans ezx47.symm
        refine lv_bipush (v := (-2 : Int32)) hx hb dX9_plan_74 (by decide) ?_
        refine lv_iand hx hb dX9_plan_76 ?_
        obtain ⟨x48, ex48, hF⟩ := ltt_some hF
        refine lv_topi (fun zx48 ezx48 => ?_)
        obtain rfl : x48 = zx48 := ex48.trans ezx48.symm
        refine lv_istore (lv' := [(4, .int x48), (3, .int y46), (0, .ref (ad a)), (1, .int p0), (2, .int p1)]) hx hb dX9_plan_77 hl (by decide) rfl (fun ls hl => ?_)
        refine lv_iload_n hx hb dX9_plan_79 rfl (lv_at hl 3 rfl) ?_
        obtain ⟨y49, hy49, hF⟩ := bnd_some hF
        have J49 : ∀ (H : Heap) (locs : List Loc) (ls : Array Slot), va_P D classes (wld ct ad G M2) H → va_D A (wld ct ad G M2) → va_S A s.heap H locs → lv_has ls 7 [(4, .int x48), (3, .int y46), (0, .ref (ad a)), (1, .int p0), (2, .int p1)] → W p l e (headSpec wuX9_plan ({ frames := 2, cells := 0, slots := 0, locals := 53 })).room s m ([.ref (ad a), .int p0, .int p1] : List Value).toArray below meth c H locs 0 0 (MQ below (va_Qv (fun (_ : Unit) => True) (fun _ t => kE D ct ad G A y t) A) ([.ref (ad a), .int p0, .int p1] : List Value).toArray s 0 0 A) (F0 m 102 ls [.int y49]) := by
          intro H locs ls hP hD hS hl
          refine lv_istore (lv' := [(5, .int y49), (4, .int x48), (3, .int y46), (0, .ref (ad a)), (1, .int p0), (2, .int p1)]) hx hb dX9_plan_102 hl (by decide) rfl (fun ls hl => ?_)
          refine lv_iload_n hx hb dX9_plan_104 rfl (lv_at hl 4 rfl) ?_
          obtain ⟨y50, hy50, hF⟩ := bnd_some hF
          have J50 : ∀ (H : Heap) (locs : List Loc) (ls : Array Slot), va_P D classes (wld ct ad G M2) H → va_D A (wld ct ad G M2) → va_S A s.heap H locs → lv_has ls 7 [(5, .int y49), (4, .int x48), (3, .int y46), (0, .ref (ad a)), (1, .int p0), (2, .int p1)] → W p l e (headSpec wuX9_plan ({ frames := 2, cells := 0, slots := 0, locals := 53 })).room s m ([.ref (ad a), .int p0, .int p1] : List Value).toArray below meth c H locs 0 0 (MQ below (va_Qv (fun (_ : Unit) => True) (fun _ t => kE D ct ad G A y t) A) ([.ref (ad a), .int p0, .int p1] : List Value).toArray s 0 0 A) (F0 m 126 ls [.int y50]) := by
            intro H locs ls hP hD hS hl
            refine lv_istore (lv' := [(6, .int y50), (5, .int y49), (4, .int x48), (3, .int y46), (0, .ref (ad a)), (1, .int p0), (2, .int p1)]) hx hb dX9_plan_126 hl (by decide) rfl (fun ls hl => ?_)
            refine lv_iload_n hx hb dX9_plan_128 rfl (lv_at hl 3 rfl) ?_
            obtain ⟨y51, hy51, hF⟩ := bnd_some hF
            have J51 : ∀ (H : Heap) (locs : List Loc) (ls : Array Slot), va_P D classes (wld ct ad G y51) H → va_D A (wld ct ad G y51) → va_S A s.heap H locs → lv_has ls 7 [(6, .int y50), (5, .int y49), (4, .int x48), (3, .int y46), (0, .ref (ad a)), (1, .int p0), (2, .int p1)] → W p l e (headSpec wuX9_plan ({ frames := 2, cells := 0, slots := 0, locals := 53 })).room s m ([.ref (ad a), .int p0, .int p1] : List Value).toArray below meth c H locs 0 0 (MQ below (va_Qv (fun (_ : Unit) => True) (fun _ t => kE D ct ad G A y t) A) ([.ref (ad a), .int p0, .int p1] : List Value).toArray s 0 0 A) (F0 m 250 ls []) := by
              intro H locs ls hP hD hS hl
              obtain rfl := Option.some.inj hF
              exact W.vret hx hb hr (fun t ht hW => ⟨⟨(), rfl, trivial, ⟨by rw [ht]; exact hP, va_K.moved hW.alike hK, hD⟩⟩, hS.F ht⟩) hS.2.2 dX9_plan_250
            clear hF
            have hF := hy51
            clear hy51
            refine lv_if_ne (tgt := 156) hx hb dX9_plan_129 (by decide) (fun c52 => ?_) (fun c52 => ?_)
            · rw [if_neg c52] at hF
              refine lv_iload_n hx hb dX9_plan_156 rfl (lv_at hl 3 rfl) ?_
              refine lv_iconst (v := (1 : Int32)) hx hb dX9_plan_157 (by decide) ?_
              obtain ⟨y53, hy53, hF⟩ := bnd_some hF
              have J53 : ∀ (H : Heap) (locs : List Loc) (ls : Array Slot), va_P D classes (wld ct ad G y53) H → va_D A (wld ct ad G y53) → va_S A s.heap H locs → lv_has ls 7 [(6, .int y50), (5, .int y49), (4, .int x48), (3, .int y46), (0, .ref (ad a)), (1, .int p0), (2, .int p1)] → W p l e (headSpec wuX9_plan ({ frames := 2, cells := 0, slots := 0, locals := 53 })).room s m ([.ref (ad a), .int p0, .int p1] : List Value).toArray below meth c H locs 0 0 (MQ below (va_Qv (fun (_ : Unit) => True) (fun _ t => kE D ct ad G A y t) A) ([.ref (ad a), .int p0, .int p1] : List Value).toArray s 0 0 A) (F0 m 250 ls []) := by
                intro H locs ls hP hD hS hl
                obtain rfl := Option.some.inj hF
                exact J51 _ _ _ hP hD hS (lv_sub hl [0, 1, 2, 3, 4, 5, 6] rfl)
              clear hF
              have hF := hy53
              clear hy53
              refine lv_icmp_ne (tgt := 208) hx hb dX9_plan_158 (by decide) (fun c54 => ?_) (fun c54 => ?_)
              · rw [if_neg c54] at hF
                refine lv_aload_n hx hb dX9_plan_208 rfl (lv_at hl 4 rfl) ?_
                refine lv_iconst (v := (0 : Int32)) hx hb dX9_plan_209 (by decide) ?_
                refine lv_bipush (v := (8 : Int32)) hx hb dX9_plan_210 (by decide) ?_
                refine lv_bipush (v := (16 : Int32)) hx hb dX9_plan_212 (by decide) ?_
                refine lv_iload hx hb dX9_plan_214 (lv_at hl 1 rfl) ?_
                obtain ⟨y55, hy55, hF⟩ := bnd_some hF
                have hf9 := wA_in hD hA9 hS
                refine va_callv (va_runV (As := [.int (0 : Int32), .int (8 : Int32), .int (16 : Int32), .int y49]) (rest := []) ⟨hx, hb, hml, hown, hts⟩ (kX9_addGroup l D ct ad Z G M2 H.size a ((0 : Int32)) ((8 : Int32)) ((16 : Int32)) y49 y55 hc hk hy55) (cwV 4 hts gX9_plan_X9_addGroup rfl rfl rfl (by decide +kernel) ⟨Nat.le_of_ble_eq_true rfl, Nat.le_of_ble_eq_true rfl⟩) ⟨fun a U g mk q => by obtain ⟨q0, q1, qP, qK, qD, qZ, qN⟩ := q; exact ⟨q0, q1, qP, va_K.moved (u := U) (U := U.calling g mk a) (Vm.Alike.refl U.vm) qK, qD, sF.moved (u := U) (U := U.calling g mk a) (Vm.Alike.refl U.vm) qZ, nF.same rfl qN⟩, va_recv hK hP (ci := 9) (q0 := a) rfl (wld_o ct ad G M2 hc hk (by decide)), fun U hU hW => ⟨rfl, by rw [hU], by rw [hU]; exact hP, va_K.moved hW.alike hK, hD.weaken (fun _ _ _ _ => trivial), by rw [hU]; exact ((hZ.kept hS.2.1).narrow hf9).moved hW.alike, hN.warm hW⟩⟩ rfl rfl hl.1 rfl (lv_room (Nat.le_of_ble_eq_true rfl)) dX9_plan_216 ⟨(Nat.zero_le _), (Nat.zero_le _)⟩) hS (fun q _ h => hf9 q h) hf9 (fun u t H locs ht hvm hw hB hz1 hk1 hS => ?_)
                obtain ⟨hP, hK9, hD9⟩ := hB
                rw [ht] at hP
                have hD := hD9.weaken (fun _ q _ h => hf9 q.1 h)
                refine lv_aload_n hx hb dX9_plan_219 rfl (lv_at hl 4 rfl) ?_
                refine lv_iconst (v := (0 : Int32)) hx hb dX9_plan_220 (by decide) ?_
                refine lv_bipush (v := (8 : Int32)) hx hb dX9_plan_221 (by decide) ?_
                refine lv_bipush (v := (16 : Int32)) hx hb dX9_plan_223 (by decide) ?_
                refine lv_iconst (v := (3 : Int32)) hx hb dX9_plan_225 (by decide) ?_
                obtain ⟨y56, hy56, hF⟩ := bnd_some hF
                have hf9 := wA_in hD hA9 hS
                refine va_callv (va_runV (As := [.int (0 : Int32), .int (8 : Int32), .int (16 : Int32), .int (3 : Int32)]) (rest := []) ⟨hx, hb, hml, hown, hts⟩ (kX9_addPart l D ct ad Z G y55 H.size a ((0 : Int32)) ((8 : Int32)) ((16 : Int32)) ((3 : Int32)) y56 hc hk hy56) (cwV 4 hts gX9_plan_X9_addPart rfl rfl rfl (by decide +kernel) ⟨Nat.le_of_ble_eq_true rfl, Nat.le_of_ble_eq_true rfl⟩) ⟨fun a U g mk q => by obtain ⟨q0, q1, qP, qK, qD, qZ, qN⟩ := q; exact ⟨q0, q1, qP, va_K.moved (u := U) (U := U.calling g mk a) (Vm.Alike.refl U.vm) qK, qD, sF.moved (u := U) (U := U.calling g mk a) (Vm.Alike.refl U.vm) qZ, nF.same rfl qN⟩, va_recv hK hP (ci := 9) (q0 := a) rfl (wld_o ct ad G y55 hc hk (by decide)), fun U hU hW => ⟨rfl, by rw [hU], by rw [hU]; exact hP, va_K.moved hW.alike hK, hD.weaken (fun _ _ _ _ => trivial), by rw [hU]; exact ((hZ.kept hS.2.1).narrow hf9).moved hW.alike, hN.warm hW⟩⟩ rfl rfl hl.1 rfl (lv_room (Nat.le_of_ble_eq_true rfl)) dX9_plan_226 ⟨(Nat.zero_le _), (Nat.zero_le _)⟩) hS (fun q _ h => hf9 q h) hf9 (fun u t H locs ht hvm hw hB hz1 hk1 hS => ?_)
                obtain ⟨hP, hK9, hD9⟩ := hB
                rw [ht] at hP
                have hD := hD9.weaken (fun _ q _ h => hf9 q.1 h)
                refine lv_aload_n hx hb dX9_plan_229 rfl (lv_at hl 4 rfl) ?_
                refine lv_iconst (v := (4 : Int32)) hx hb dX9_plan_230 (by decide) ?_
                refine lv_bipush (v := (8 : Int32)) hx hb dX9_plan_231 (by decide) ?_
                refine lv_bipush (v := (16 : Int32)) hx hb dX9_plan_233 (by decide) ?_
                refine lv_iload hx hb dX9_plan_235 (lv_at hl 0 rfl) ?_
                obtain ⟨y57, hy57, hF⟩ := bnd_some hF
                have hf9 := wA_in hD hA9 hS
                refine va_callv (va_runV (As := [.int (4 : Int32), .int (8 : Int32), .int (16 : Int32), .int y50]) (rest := []) ⟨hx, hb, hml, hown, hts⟩ (kX9_addGroup l D ct ad Z G y56 H.size a ((4 : Int32)) ((8 : Int32)) ((16 : Int32)) y50 y57 hc hk hy57) (cwV 4 hts gX9_plan_X9_addGroup rfl rfl rfl (by decide +kernel) ⟨Nat.le_of_ble_eq_true rfl, Nat.le_of_ble_eq_true rfl⟩) ⟨fun a U g mk q => by obtain ⟨q0, q1, qP, qK, qD, qZ, qN⟩ := q; exact ⟨q0, q1, qP, va_K.moved (u := U) (U := U.calling g mk a) (Vm.Alike.refl U.vm) qK, qD, sF.moved (u := U) (U := U.calling g mk a) (Vm.Alike.refl U.vm) qZ, nF.same rfl qN⟩, va_recv hK hP (ci := 9) (q0 := a) rfl (wld_o ct ad G y56 hc hk (by decide)), fun U hU hW => ⟨rfl, by rw [hU], by rw [hU]; exact hP, va_K.moved hW.alike hK, hD.weaken (fun _ _ _ _ => trivial), by rw [hU]; exact ((hZ.kept hS.2.1).narrow hf9).moved hW.alike, hN.warm hW⟩⟩ rfl rfl hl.1 rfl (lv_room (Nat.le_of_ble_eq_true rfl)) dX9_plan_237 ⟨(Nat.zero_le _), (Nat.zero_le _)⟩) hS (fun q _ h => hf9 q h) hf9 (fun u t H locs ht hvm hw hB hz1 hk1 hS => ?_)
                obtain ⟨hP, hK9, hD9⟩ := hB
                rw [ht] at hP
                have hD := hD9.weaken (fun _ q _ h => hf9 q.1 h)
                refine lv_aload_n hx hb dX9_plan_240 rfl (lv_at hl 4 rfl) ?_
                refine lv_iconst (v := (4 : Int32)) hx hb dX9_plan_241 (by decide) ?_
                refine lv_bipush (v := (8 : Int32)) hx hb dX9_plan_242 (by decide) ?_
                refine lv_bipush (v := (16 : Int32)) hx hb dX9_plan_244 (by decide) ?_
                refine lv_iconst (v := (4 : Int32)) hx hb dX9_plan_246 (by decide) ?_
                obtain ⟨y58, hy58, hF⟩ := bnd_some hF
                have hf9 := wA_in hD hA9 hS
                refine va_callv (va_runV (As := [.int (4 : Int32), .int (8 : Int32), .int (16 : Int32), .int (4 : Int32)]) (rest := []) ⟨hx, hb, hml, hown, hts⟩ (kX9_addPart l D ct ad Z G y57 H.size a ((4 : Int32)) ((8 : Int32)) ((16 : Int32)) ((4 : Int32)) y58 hc hk hy58) (cwV 4 hts gX9_plan_X9_addPart rfl rfl rfl (by decide +kernel) ⟨Nat.le_of_ble_eq_true rfl, Nat.le_of_ble_eq_true rfl⟩) ⟨fun a U g mk q => by obtain ⟨q0, q1, qP, qK, qD, qZ, qN⟩ := q; exact ⟨q0, q1, qP, va_K.moved (u := U) (U := U.calling g mk a) (Vm.Alike.refl U.vm) qK, qD, sF.moved (u := U) (U := U.calling g mk a) (Vm.Alike.refl U.vm) qZ, nF.same rfl qN⟩, va_recv hK hP (ci := 9) (q0 := a) rfl (wld_o ct ad G y57 hc hk (by decide)), fun U hU hW => ⟨rfl, by rw [hU], by rw [hU]; exact hP, va_K.moved hW.alike hK, hD.weaken (fun _ _ _ _ => trivial), by rw [hU]; exact ((hZ.kept hS.2.1).narrow hf9).moved hW.alike, hN.warm hW⟩⟩ rfl rfl hl.1 rfl (lv_room (Nat.le_of_ble_eq_true rfl)) dX9_plan_247 ⟨(Nat.zero_le _), (Nat.zero_le _)⟩) hS (fun q _ h => hf9 q h) hf9 (fun u t H locs ht hvm hw hB hz1 hk1 hS => ?_)
                obtain ⟨hP, hK9, hD9⟩ := hB
                rw [ht] at hP
                have hD := hD9.weaken (fun _ q _ h => hf9 q.1 h)
                obtain rfl := Option.some.inj hF
                exact J53 _ _ _ hP hD hS (lv_sub hl [0, 1, 2, 3, 4, 5, 6] rfl)
              · rw [if_pos c54] at hF
                refine lv_aload_n hx hb dX9_plan_161 rfl (lv_at hl 4 rfl) ?_
                refine lv_iconst (v := (0 : Int32)) hx hb dX9_plan_162 (by decide) ?_
                refine lv_bipush (v := (16 : Int32)) hx hb dX9_plan_163 (by decide) ?_
                refine lv_bipush (v := (8 : Int32)) hx hb dX9_plan_165 (by decide) ?_
                refine lv_iload hx hb dX9_plan_167 (lv_at hl 1 rfl) ?_
                obtain ⟨y59, hy59, hF⟩ := bnd_some hF
                have hf9 := wA_in hD hA9 hS
                refine va_callv (va_runV (As := [.int (0 : Int32), .int (16 : Int32), .int (8 : Int32), .int y49]) (rest := []) ⟨hx, hb, hml, hown, hts⟩ (kX9_addGroup l D ct ad Z G M2 H.size a ((0 : Int32)) ((16 : Int32)) ((8 : Int32)) y49 y59 hc hk hy59) (cwV 4 hts gX9_plan_X9_addGroup rfl rfl rfl (by decide +kernel) ⟨Nat.le_of_ble_eq_true rfl, Nat.le_of_ble_eq_true rfl⟩) ⟨fun a U g mk q => by obtain ⟨q0, q1, qP, qK, qD, qZ, qN⟩ := q; exact ⟨q0, q1, qP, va_K.moved (u := U) (U := U.calling g mk a) (Vm.Alike.refl U.vm) qK, qD, sF.moved (u := U) (U := U.calling g mk a) (Vm.Alike.refl U.vm) qZ, nF.same rfl qN⟩, va_recv hK hP (ci := 9) (q0 := a) rfl (wld_o ct ad G M2 hc hk (by decide)), fun U hU hW => ⟨rfl, by rw [hU], by rw [hU]; exact hP, va_K.moved hW.alike hK, hD.weaken (fun _ _ _ _ => trivial), by rw [hU]; exact ((hZ.kept hS.2.1).narrow hf9).moved hW.alike, hN.warm hW⟩⟩ rfl rfl hl.1 rfl (lv_room (Nat.le_of_ble_eq_true rfl)) dX9_plan_169 ⟨(Nat.zero_le _), (Nat.zero_le _)⟩) hS (fun q _ h => hf9 q h) hf9 (fun u t H locs ht hvm hw hB hz1 hk1 hS => ?_)
                obtain ⟨hP, hK9, hD9⟩ := hB
                rw [ht] at hP
                have hD := hD9.weaken (fun _ q _ h => hf9 q.1 h)
                refine lv_aload_n hx hb dX9_plan_172 rfl (lv_at hl 4 rfl) ?_
                refine lv_iconst (v := (0 : Int32)) hx hb dX9_plan_173 (by decide) ?_
                refine lv_bipush (v := (16 : Int32)) hx hb dX9_plan_174 (by decide) ?_
                refine lv_bipush (v := (8 : Int32)) hx hb dX9_plan_176 (by decide) ?_
                refine lv_iconst (v := (1 : Int32)) hx hb dX9_plan_178 (by decide) ?_
                obtain ⟨y60, hy60, hF⟩ := bnd_some hF
                have hf9 := wA_in hD hA9 hS
                refine va_callv (va_runV (As := [.int (0 : Int32), .int (16 : Int32), .int (8 : Int32), .int (1 : Int32)]) (rest := []) ⟨hx, hb, hml, hown, hts⟩ (kX9_addPart l D ct ad Z G y59 H.size a ((0 : Int32)) ((16 : Int32)) ((8 : Int32)) ((1 : Int32)) y60 hc hk hy60) (cwV 4 hts gX9_plan_X9_addPart rfl rfl rfl (by decide +kernel) ⟨Nat.le_of_ble_eq_true rfl, Nat.le_of_ble_eq_true rfl⟩) ⟨fun a U g mk q => by obtain ⟨q0, q1, qP, qK, qD, qZ, qN⟩ := q; exact ⟨q0, q1, qP, va_K.moved (u := U) (U := U.calling g mk a) (Vm.Alike.refl U.vm) qK, qD, sF.moved (u := U) (U := U.calling g mk a) (Vm.Alike.refl U.vm) qZ, nF.same rfl qN⟩, va_recv hK hP (ci := 9) (q0 := a) rfl (wld_o ct ad G y59 hc hk (by decide)), fun U hU hW => ⟨rfl, by rw [hU], by rw [hU]; exact hP, va_K.moved hW.alike hK, hD.weaken (fun _ _ _ _ => trivial), by rw [hU]; exact ((hZ.kept hS.2.1).narrow hf9).moved hW.alike, hN.warm hW⟩⟩ rfl rfl hl.1 rfl (lv_room (Nat.le_of_ble_eq_true rfl)) dX9_plan_179 ⟨(Nat.zero_le _), (Nat.zero_le _)⟩) hS (fun q _ h => hf9 q h) hf9 (fun u t H locs ht hvm hw hB hz1 hk1 hS => ?_)
                obtain ⟨hP, hK9, hD9⟩ := hB
                rw [ht] at hP
                have hD := hD9.weaken (fun _ q _ h => hf9 q.1 h)
                refine lv_aload_n hx hb dX9_plan_182 rfl (lv_at hl 4 rfl) ?_
                refine lv_bipush (v := (8 : Int32)) hx hb dX9_plan_183 (by decide) ?_
                refine lv_bipush (v := (16 : Int32)) hx hb dX9_plan_185 (by decide) ?_
                refine lv_bipush (v := (8 : Int32)) hx hb dX9_plan_187 (by decide) ?_
                refine lv_iload hx hb dX9_plan_189 (lv_at hl 0 rfl) ?_
                obtain ⟨y61, hy61, hF⟩ := bnd_some hF
                have hf9 := wA_in hD hA9 hS
                refine va_callv (va_runV (As := [.int (8 : Int32), .int (16 : Int32), .int (8 : Int32), .int y50]) (rest := []) ⟨hx, hb, hml, hown, hts⟩ (kX9_addGroup l D ct ad Z G y60 H.size a ((8 : Int32)) ((16 : Int32)) ((8 : Int32)) y50 y61 hc hk hy61) (cwV 4 hts gX9_plan_X9_addGroup rfl rfl rfl (by decide +kernel) ⟨Nat.le_of_ble_eq_true rfl, Nat.le_of_ble_eq_true rfl⟩) ⟨fun a U g mk q => by obtain ⟨q0, q1, qP, qK, qD, qZ, qN⟩ := q; exact ⟨q0, q1, qP, va_K.moved (u := U) (U := U.calling g mk a) (Vm.Alike.refl U.vm) qK, qD, sF.moved (u := U) (U := U.calling g mk a) (Vm.Alike.refl U.vm) qZ, nF.same rfl qN⟩, va_recv hK hP (ci := 9) (q0 := a) rfl (wld_o ct ad G y60 hc hk (by decide)), fun U hU hW => ⟨rfl, by rw [hU], by rw [hU]; exact hP, va_K.moved hW.alike hK, hD.weaken (fun _ _ _ _ => trivial), by rw [hU]; exact ((hZ.kept hS.2.1).narrow hf9).moved hW.alike, hN.warm hW⟩⟩ rfl rfl hl.1 rfl (lv_room (Nat.le_of_ble_eq_true rfl)) dX9_plan_191 ⟨(Nat.zero_le _), (Nat.zero_le _)⟩) hS (fun q _ h => hf9 q h) hf9 (fun u t H locs ht hvm hw hB hz1 hk1 hS => ?_)
                obtain ⟨hP, hK9, hD9⟩ := hB
                rw [ht] at hP
                have hD := hD9.weaken (fun _ q _ h => hf9 q.1 h)
                refine lv_aload_n hx hb dX9_plan_194 rfl (lv_at hl 4 rfl) ?_
                refine lv_bipush (v := (8 : Int32)) hx hb dX9_plan_195 (by decide) ?_
                refine lv_bipush (v := (16 : Int32)) hx hb dX9_plan_197 (by decide) ?_
                refine lv_bipush (v := (8 : Int32)) hx hb dX9_plan_199 (by decide) ?_
                refine lv_iconst (v := (2 : Int32)) hx hb dX9_plan_201 (by decide) ?_
                obtain ⟨y62, hy62, hF⟩ := bnd_some hF
                have hf9 := wA_in hD hA9 hS
                refine va_callv (va_runV (As := [.int (8 : Int32), .int (16 : Int32), .int (8 : Int32), .int (2 : Int32)]) (rest := []) ⟨hx, hb, hml, hown, hts⟩ (kX9_addPart l D ct ad Z G y61 H.size a ((8 : Int32)) ((16 : Int32)) ((8 : Int32)) ((2 : Int32)) y62 hc hk hy62) (cwV 4 hts gX9_plan_X9_addPart rfl rfl rfl (by decide +kernel) ⟨Nat.le_of_ble_eq_true rfl, Nat.le_of_ble_eq_true rfl⟩) ⟨fun a U g mk q => by obtain ⟨q0, q1, qP, qK, qD, qZ, qN⟩ := q; exact ⟨q0, q1, qP, va_K.moved (u := U) (U := U.calling g mk a) (Vm.Alike.refl U.vm) qK, qD, sF.moved (u := U) (U := U.calling g mk a) (Vm.Alike.refl U.vm) qZ, nF.same rfl qN⟩, va_recv hK hP (ci := 9) (q0 := a) rfl (wld_o ct ad G y61 hc hk (by decide)), fun U hU hW => ⟨rfl, by rw [hU], by rw [hU]; exact hP, va_K.moved hW.alike hK, hD.weaken (fun _ _ _ _ => trivial), by rw [hU]; exact ((hZ.kept hS.2.1).narrow hf9).moved hW.alike, hN.warm hW⟩⟩ rfl rfl hl.1 rfl (lv_room (Nat.le_of_ble_eq_true rfl)) dX9_plan_202 ⟨(Nat.zero_le _), (Nat.zero_le _)⟩) hS (fun q _ h => hf9 q h) hf9 (fun u t H locs ht hvm hw hB hz1 hk1 hS => ?_)
                obtain ⟨hP, hK9, hD9⟩ := hB
                rw [ht] at hP
                have hD := hD9.weaken (fun _ q _ h => hf9 q.1 h)
                refine lv_goto (tgt := 250) hx hb dX9_plan_205 (by decide) ?_
                obtain rfl := Option.some.inj hF
                exact J53 _ _ _ hP hD hS (lv_sub hl [0, 1, 2, 3, 4, 5, 6] rfl)
            · rw [if_pos c52] at hF
              refine lv_aload_n hx hb dX9_plan_132 rfl (lv_at hl 4 rfl) ?_
              refine lv_iconst (v := (0 : Int32)) hx hb dX9_plan_133 (by decide) ?_
              refine lv_bipush (v := (16 : Int32)) hx hb dX9_plan_134 (by decide) ?_
              refine lv_bipush (v := (16 : Int32)) hx hb dX9_plan_136 (by decide) ?_
              refine lv_iload hx hb dX9_plan_138 (lv_at hl 1 rfl) ?_
              obtain ⟨y63, hy63, hF⟩ := bnd_some hF
              have hf9 := wA_in hD hA9 hS
              refine va_callv (va_runV (As := [.int (0 : Int32), .int (16 : Int32), .int (16 : Int32), .int y49]) (rest := []) ⟨hx, hb, hml, hown, hts⟩ (kX9_addGroup l D ct ad Z G M2 H.size a ((0 : Int32)) ((16 : Int32)) ((16 : Int32)) y49 y63 hc hk hy63) (cwV 4 hts gX9_plan_X9_addGroup rfl rfl rfl (by decide +kernel) ⟨Nat.le_of_ble_eq_true rfl, Nat.le_of_ble_eq_true rfl⟩) ⟨fun a U g mk q => by obtain ⟨q0, q1, qP, qK, qD, qZ, qN⟩ := q; exact ⟨q0, q1, qP, va_K.moved (u := U) (U := U.calling g mk a) (Vm.Alike.refl U.vm) qK, qD, sF.moved (u := U) (U := U.calling g mk a) (Vm.Alike.refl U.vm) qZ, nF.same rfl qN⟩, va_recv hK hP (ci := 9) (q0 := a) rfl (wld_o ct ad G M2 hc hk (by decide)), fun U hU hW => ⟨rfl, by rw [hU], by rw [hU]; exact hP, va_K.moved hW.alike hK, hD.weaken (fun _ _ _ _ => trivial), by rw [hU]; exact ((hZ.kept hS.2.1).narrow hf9).moved hW.alike, hN.warm hW⟩⟩ rfl rfl hl.1 rfl (lv_room (Nat.le_of_ble_eq_true rfl)) dX9_plan_140 ⟨(Nat.zero_le _), (Nat.zero_le _)⟩) hS (fun q _ h => hf9 q h) hf9 (fun u t H locs ht hvm hw hB hz1 hk1 hS => ?_)
              obtain ⟨hP, hK9, hD9⟩ := hB
              rw [ht] at hP
              have hD := hD9.weaken (fun _ q _ h => hf9 q.1 h)
              refine lv_aload_n hx hb dX9_plan_143 rfl (lv_at hl 4 rfl) ?_
              refine lv_iconst (v := (0 : Int32)) hx hb dX9_plan_144 (by decide) ?_
              refine lv_bipush (v := (16 : Int32)) hx hb dX9_plan_145 (by decide) ?_
              refine lv_bipush (v := (16 : Int32)) hx hb dX9_plan_147 (by decide) ?_
              refine lv_iconst (v := (0 : Int32)) hx hb dX9_plan_149 (by decide) ?_
              obtain ⟨y64, hy64, hF⟩ := bnd_some hF
              have hf9 := wA_in hD hA9 hS
              refine va_callv (va_runV (As := [.int (0 : Int32), .int (16 : Int32), .int (16 : Int32), .int (0 : Int32)]) (rest := []) ⟨hx, hb, hml, hown, hts⟩ (kX9_addPart l D ct ad Z G y63 H.size a ((0 : Int32)) ((16 : Int32)) ((16 : Int32)) ((0 : Int32)) y64 hc hk hy64) (cwV 4 hts gX9_plan_X9_addPart rfl rfl rfl (by decide +kernel) ⟨Nat.le_of_ble_eq_true rfl, Nat.le_of_ble_eq_true rfl⟩) ⟨fun a U g mk q => by obtain ⟨q0, q1, qP, qK, qD, qZ, qN⟩ := q; exact ⟨q0, q1, qP, va_K.moved (u := U) (U := U.calling g mk a) (Vm.Alike.refl U.vm) qK, qD, sF.moved (u := U) (U := U.calling g mk a) (Vm.Alike.refl U.vm) qZ, nF.same rfl qN⟩, va_recv hK hP (ci := 9) (q0 := a) rfl (wld_o ct ad G y63 hc hk (by decide)), fun U hU hW => ⟨rfl, by rw [hU], by rw [hU]; exact hP, va_K.moved hW.alike hK, hD.weaken (fun _ _ _ _ => trivial), by rw [hU]; exact ((hZ.kept hS.2.1).narrow hf9).moved hW.alike, hN.warm hW⟩⟩ rfl rfl hl.1 rfl (lv_room (Nat.le_of_ble_eq_true rfl)) dX9_plan_150 ⟨(Nat.zero_le _), (Nat.zero_le _)⟩) hS (fun q _ h => hf9 q h) hf9 (fun u t H locs ht hvm hw hB hz1 hk1 hS => ?_)
              obtain ⟨hP, hK9, hD9⟩ := hB
              rw [ht] at hP
              have hD := hD9.weaken (fun _ q _ h => hf9 q.1 h)
              refine lv_goto (tgt := 250) hx hb dX9_plan_153 (by decide) ?_
              obtain rfl := Option.some.inj hF
              exact J51 _ _ _ hP hD hS (lv_sub hl [0, 1, 2, 3, 4, 5, 6] rfl)
          clear hF
          have hF := hy50
          clear hy50
          refine lv_if_eq (tgt := 113) hx hb dX9_plan_105 (by decide) (fun c65 => ?_) (fun c65 => ?_)
          · rw [if_pos c65] at hF
            refine lv_iload hx hb dX9_plan_113 (lv_at hl 0 rfl) ?_
            refine lv_goto (tgt := 126) hx hb dX9_plan_115 (by decide) ?_
            obtain rfl := Option.some.inj hF
            exact J50 _ _ _ hP hD hS (lv_sub hl [0, 1, 2, 3, 4, 5] rfl)
          · rw [if_neg c65] at hF
            refine lv_iload_n hx hb dX9_plan_108 rfl (lv_at hl 5 rfl) ?_
            refine lv_iconst (v := (4 : Int32)) hx hb dX9_plan_109 (by decide) ?_
            obtain ⟨y66, hy66, hF⟩ := bnd_some hF
            have J66 : ∀ (H : Heap) (locs : List Loc) (ls : Array Slot), va_P D classes (wld ct ad G M2) H → va_D A (wld ct ad G M2) → va_S A s.heap H locs → lv_has ls 7 [(5, .int y49), (4, .int x48), (3, .int y46), (0, .ref (ad a)), (1, .int p0), (2, .int p1)] → W p l e (headSpec wuX9_plan ({ frames := 2, cells := 0, slots := 0, locals := 53 })).room s m ([.ref (ad a), .int p0, .int p1] : List Value).toArray below meth c H locs 0 0 (MQ below (va_Qv (fun (_ : Unit) => True) (fun _ t => kE D ct ad G A y t) A) ([.ref (ad a), .int p0, .int p1] : List Value).toArray s 0 0 A) (F0 m 126 ls [.int y66]) := by
              intro H locs ls hP hD hS hl
              obtain rfl := Option.some.inj hF
              exact J50 _ _ _ hP hD hS (lv_sub hl [0, 1, 2, 3, 4, 5] rfl)
            clear hF
            have hF := hy66
            clear hy66
            refine lv_icmp_ge (tgt := 118) hx hb dX9_plan_110 (by decide) (fun c67 => ?_) (fun c67 => ?_)
            · rw [if_pos c67] at hF
              refine va_gets hx hb (hZ.1 16 (by decide)).1 hS hown (hts (.fieldLink RX9 145 "VideoSuite$Work" "PAIR_USE" "[I") (mu mw_1963)) (fun _ h => h) dX9_plan_118 ?_
              refine lv_iload hx hb dX9_plan_121 (lv_at hl 1 rfl) ?_
              refine lv_iconst (v := (1 : Int32)) hx hb dX9_plan_123 (by decide) ?_
              refine lv_iadd hx hb dX9_plan_124 ?_
              obtain ⟨x68, ex68, hF⟩ := ltt_some hF
              refine lv_topi (fun zx68 ezx68 => ?_)
              obtain rfl : x68 = zx68 := ex68.trans ezx68.symm
              obtain ⟨hvc, hF⟩ := chk_some hF
              refine va_ti (v := .int ((sT 16).getD x68.toNatClampNeg 0)) hx hb (hZ.1 16 (by decide)).2 hS hvc rfl dX9_plan_125 ?_
              obtain ⟨x69, ex69, hF⟩ := ltt_some hF
              refine lv_topi (fun zx69 ezx69 => ?_)
              obtain rfl : x69 = zx69 := ex69.trans ezx69.symm
              obtain rfl := Option.some.inj hF
              exact J66 _ _ _ hP hD hS (lv_sub hl [0, 1, 2, 3, 4, 5] rfl)
            · rw [if_neg c67] at hF
              refine lv_iload hx hb dX9_plan_113 (lv_at hl 0 rfl) ?_
              refine lv_goto (tgt := 126) hx hb dX9_plan_115 (by decide) ?_
              obtain rfl := Option.some.inj hF
              exact J66 _ _ _ hP hD hS (lv_sub hl [0, 1, 2, 3, 4, 5] rfl)
        clear hF
        have hF := hy49
        clear hy49
        refine lv_if_ne (tgt := 87) hx hb dX9_plan_80 (by decide) (fun c70 => ?_) (fun c70 => ?_)
        · rw [if_neg c70] at hF
          refine lv_iload_n hx hb dX9_plan_87 rfl (lv_at hl 4 rfl) ?_
          refine lv_iconst (v := (4 : Int32)) hx hb dX9_plan_88 (by decide) ?_
          obtain ⟨y71, hy71, hF⟩ := bnd_some hF
          have J71 : ∀ (H : Heap) (locs : List Loc) (ls : Array Slot), va_P D classes (wld ct ad G M2) H → va_D A (wld ct ad G M2) → va_S A s.heap H locs → lv_has ls 7 [(4, .int x48), (3, .int y46), (0, .ref (ad a)), (1, .int p0), (2, .int p1)] → W p l e (headSpec wuX9_plan ({ frames := 2, cells := 0, slots := 0, locals := 53 })).room s m ([.ref (ad a), .int p0, .int p1] : List Value).toArray below meth c H locs 0 0 (MQ below (va_Qv (fun (_ : Unit) => True) (fun _ t => kE D ct ad G A y t) A) ([.ref (ad a), .int p0, .int p1] : List Value).toArray s 0 0 A) (F0 m 102 ls [.int y71]) := by
            intro H locs ls hP hD hS hl
            obtain rfl := Option.some.inj hF
            exact J49 _ _ _ hP hD hS (lv_sub hl [0, 1, 2, 3, 4] rfl)
          clear hF
          have hF := hy71
          clear hy71
          refine lv_icmp_ge (tgt := 96) hx hb dX9_plan_89 (by decide) (fun c72 => ?_) (fun c72 => ?_)
          · rw [if_pos c72] at hF
            refine va_gets hx hb (hZ.1 16 (by decide)).1 hS hown (hts (.fieldLink RX9 145 "VideoSuite$Work" "PAIR_USE" "[I") (mu mw_1963)) (fun _ h => h) dX9_plan_96 ?_
            refine lv_iload hx hb dX9_plan_99 (lv_at hl 0 rfl) ?_
            obtain ⟨hvc, hF⟩ := chk_some hF
            refine va_ti (v := .int ((sT 16).getD x48.toNatClampNeg 0)) hx hb (hZ.1 16 (by decide)).2 hS hvc rfl dX9_plan_101 ?_
            obtain ⟨x73, ex73, hF⟩ := ltt_some hF
            refine lv_topi (fun zx73 ezx73 => ?_)
            obtain rfl : x73 = zx73 := ex73.trans ezx73.symm
            obtain rfl := Option.some.inj hF
            exact J71 _ _ _ hP hD hS (lv_sub hl [0, 1, 2, 3, 4] rfl)
          · rw [if_neg c72] at hF
            refine lv_iload_n hx hb dX9_plan_92 rfl (lv_at hl 4 rfl) ?_
            refine lv_goto (tgt := 102) hx hb dX9_plan_93 (by decide) ?_
            obtain rfl := Option.some.inj hF
            exact J71 _ _ _ hP hD hS (lv_sub hl [0, 1, 2, 3, 4] rfl)
        · rw [if_pos c70] at hF
          refine lv_iconst (v := (1 : Int32)) hx hb dX9_plan_83 (by decide) ?_
          refine lv_goto (tgt := 102) hx hb dX9_plan_84 (by decide) ?_
          obtain rfl := Option.some.inj hF
          exact J49 _ _ _ hP hD hS (lv_sub hl [0, 1, 2, 3, 4] rfl)
      clear hF
      have hF := hy46
      clear hy46
      refine lv_if_ne (tgt := 56) hx hb dX9_plan_49 (by decide) (fun c74 => ?_) (fun c74 => ?_)
      · rw [if_neg c74] at hF
        refine lv_iload_n hx hb dX9_plan_56 rfl (lv_at hl 2 rfl) ?_
        refine lv_iconst (v := (4 : Int32)) hx hb dX9_plan_57 (by decide) ?_
        obtain ⟨y75, hy75, hF⟩ := bnd_some hF
        have J75 : ∀ (H : Heap) (locs : List Loc) (ls : Array Slot), va_P D classes (wld ct ad G M2) H → va_D A (wld ct ad G M2) → va_S A s.heap H locs → lv_has ls 7 [(0, .ref (ad a)), (1, .int p0), (2, .int p1)] → W p l e (headSpec wuX9_plan ({ frames := 2, cells := 0, slots := 0, locals := 53 })).room s m ([.ref (ad a), .int p0, .int p1] : List Value).toArray below meth c H locs 0 0 (MQ below (va_Qv (fun (_ : Unit) => True) (fun _ t => kE D ct ad G A y t) A) ([.ref (ad a), .int p0, .int p1] : List Value).toArray s 0 0 A) (F0 m 70 ls [.int y75]) := by
          intro H locs ls hP hD hS hl
          obtain rfl := Option.some.inj hF
          exact J46 _ _ _ hP hD hS (lv_sub hl [0, 1, 2] rfl)
        clear hF
        have hF := hy75
        clear hy75
        refine lv_icmp_ge (tgt := 65) hx hb dX9_plan_58 (by decide) (fun c76 => ?_) (fun c76 => ?_)
        · rw [if_pos c76] at hF
          refine lv_iconst (v := (1 : Int32)) hx hb dX9_plan_65 (by decide) ?_
          refine lv_iload_n hx hb dX9_plan_66 rfl (lv_at hl 2 rfl) ?_
          refine lv_iconst (v := (2 : Int32)) hx hb dX9_plan_67 (by decide) ?_
          refine lv_irem hx hb dX9_plan_68 (by decide) ?_
          obtain ⟨x77, ex77, hF⟩ := ltt_some hF
          refine lv_topi (fun zx77 ezx77 => ?_)
          obtain rfl : x77 = zx77 := ex77.trans ezx77.symm
          refine lv_iadd hx hb dX9_plan_69 ?_
          obtain ⟨x78, ex78, hF⟩ := ltt_some hF
          refine lv_topi (fun zx78 ezx78 => ?_)
          obtain rfl : x78 = zx78 := ex78.trans ezx78.symm
          obtain rfl := Option.some.inj hF
          exact J75 _ _ _ hP hD hS (lv_sub hl [0, 1, 2] rfl)
        · rw [if_neg c76] at hF
          refine lv_iconst (v := (0 : Int32)) hx hb dX9_plan_61 (by decide) ?_
          refine lv_goto (tgt := 70) hx hb dX9_plan_62 (by decide) ?_
          obtain rfl := Option.some.inj hF
          exact J75 _ _ _ hP hD hS (lv_sub hl [0, 1, 2] rfl)
      · rw [if_pos c74] at hF
        refine lv_iload_n hx hb dX9_plan_52 rfl (lv_at hl 2 rfl) ?_
        refine lv_goto (tgt := 70) hx hb dX9_plan_53 (by decide) ?_
        obtain rfl := Option.some.inj hF
        exact J46 _ _ _ hP hD hS (lv_sub hl [0, 1, 2] rfl)
    · rw [if_neg c45] at hF
      refine lv_goto (tgt := 28) hx hb dX9_plan_19 (by decide) ?_
      refine lv_iconst (v := (0 : Int32)) hx hb dX9_plan_28 (by decide) ?_
      refine lv_istore_n (lv' := [(3, .int (0 : Int32)), (0, .ref (ad a)), (1, .int p0), (2, .int p1)]) hx hb dX9_plan_29 rfl hl (by decide) rfl (fun ls hl => ?_)
      obtain ⟨y79, hy79, hF⟩ := bnd_some hF
      have K79 : ∀ (H : Heap) (locs : List Loc) (ls : Array Slot), va_P D classes (wld ct ad G y79.2) H → va_D A (wld ct ad G y79.2) → va_S A s.heap H locs → lv_has ls 7 [(3, .int y79.1), (0, .ref (ad a)), (1, .int p0), (2, .int p1)] → W p l e (headSpec wuX9_plan ({ frames := 2, cells := 0, slots := 0, locals := 53 })).room s m ([.ref (ad a), .int p0, .int p1] : List Value).toArray below meth c H locs 0 0 (MQ below (va_Qv (fun (_ : Unit) => True) (fun _ t => kE D ct ad G A y t) A) ([.ref (ad a), .int p0, .int p1] : List Value).toArray s 0 0 A) (F0 m 47 ls []) := by
        intro H locs ls hP hD hS hl
        obtain rfl := Option.some.inj hF
        exact W.vret hx hb hr (fun t ht hW => ⟨⟨(), rfl, trivial, ⟨by rw [ht]; exact hP, va_K.moved hW.alike hK, hD⟩⟩, hS.F ht⟩) hS.2.2 dX9_plan_47
      clear hF
      refine itr_rule (fun (s80 : Int32 × DD) => ∀ (H : Heap) (locs : List Loc) (ls : Array Slot), va_P D classes (wld ct ad G s80.2) H → va_D A (wld ct ad G s80.2) → va_S A s.heap H locs → lv_has ls 7 [(3, .int s80.1), (0, .ref (ad a)), (1, .int p0), (2, .int p1)] → W p l e (headSpec wuX9_plan ({ frames := 2, cells := 0, slots := 0, locals := 53 })).room s m ([.ref (ad a), .int p0, .int p1] : List Value).toArray below meth c H locs 0 0 (MQ below (va_Qv (fun (_ : Unit) => True) (fun _ t => kE D ct ad G A y t) A) ([.ref (ad a), .int p0, .int p1] : List Value).toArray s 0 0 A) (F0 m 30 ls [])) ?_ _ _ hy79 _ _ _ hP hD hS (lv_sub hl [0, 1, 2, 3] rfl)
      rintro s80 ⟨z82, hF, hwz82⟩ H locs ls hP hD hS hl
      try dsimp only at hF
      refine lv_iload_n hx hb dX9_plan_30 rfl (lv_at hl 0 rfl) ?_
      refine lv_iconst (v := (4 : Int32)) hx hb dX9_plan_31 (by decide) ?_
      refine lv_icmp_ge (tgt := 47) hx hb dX9_plan_32 (by decide) (fun c83 => ?_) (fun c83 => ?_)
      · rw [if_pos c83] at hF
        obtain rfl := Option.some.inj hF
        subst hwz82
        exact K79 _ _ _ hP hD hS (lv_sub hl [0, 1, 2, 3] rfl)
      · rw [if_neg c83] at hF
        refine lv_aload_n hx hb dX9_plan_35 rfl (lv_at hl 1 rfl) ?_
        refine lv_iload_n hx hb dX9_plan_36 rfl (lv_at hl 2 rfl) ?_
        refine lv_iload_n hx hb dX9_plan_37 rfl (lv_at hl 0 rfl) ?_
        obtain ⟨y84, hy84, hF⟩ := bnd_some hF
        have hf9 := wA_in hD hA9 hS
        refine va_callv (va_runV (As := [.int p0, .int s80.1]) (rest := []) ⟨hx, hb, hml, hown, hts⟩ (kX9_planQuarter l D ct ad Z G s80.2 H.size a p0 s80.1 y84 hc hk hy84) (cwV 2 hts gX9_plan_X9_planQuarter rfl rfl rfl (by decide +kernel) ⟨Nat.le_of_ble_eq_true rfl, Nat.le_of_ble_eq_true rfl⟩) ⟨fun a U g mk q => by obtain ⟨q0, q1, qP, qK, qD, qZ, qN⟩ := q; exact ⟨q0, q1, qP, va_K.moved (u := U) (U := U.calling g mk a) (Vm.Alike.refl U.vm) qK, qD, sF.moved (u := U) (U := U.calling g mk a) (Vm.Alike.refl U.vm) qZ, nF.same rfl qN⟩, va_recv hK hP (ci := 9) (q0 := a) rfl (wld_o ct ad G s80.2 hc hk (by decide)), fun U hU hW => ⟨rfl, by rw [hU], by rw [hU]; exact hP, va_K.moved hW.alike hK, hD.weaken (fun _ _ _ _ => trivial), by rw [hU]; exact ((hZ.kept hS.2.1).narrow hf9).moved hW.alike, hN.warm hW⟩⟩ rfl rfl hl.1 rfl (lv_room (Nat.le_of_ble_eq_true rfl)) dX9_plan_38 ⟨(Nat.zero_le _), (Nat.zero_le _)⟩) hS (fun q _ h => hf9 q h) hf9 (fun u t H locs ht hvm hw hB hz1 hk1 hS => ?_)
        obtain ⟨hP, hK9, hD9⟩ := hB
        rw [ht] at hP
        have hD := hD9.weaken (fun _ q _ h => hf9 q.1 h)
        obtain ⟨x85, ex85, hF⟩ := ltt_some hF
        refine lv_iinc (v := x85) (lv' := [(3, .int x85), (0, .ref (ad a)), (1, .int p0), (2, .int p1)]) hx hb dX9_plan_41 hl (k := 0) rfl (by rw [ex85]; rfl) (by decide) rfl (fun ls hl => ?_)
        refine lv_goto (tgt := 30) hx hb dX9_plan_44 (by decide) ?_
        obtain rfl := Option.some.inj hF
        exact hwz82 _ _ _ hP hD hS (lv_sub hl [0, 1, 2, 3] rfl)
set_option maxRecDepth 20000 in
theorem gX9_skip_X9_guessSkipped : GoodIn wuX9_skip (wsV RX9 186 RX9 yX9_guessSkipped wuX9_guessSkipped) := gu_V mw_1935 mw_1936 mw_1937 mw_171 mw_1938
set_option maxRecDepth 20000 in
set_option maxRecDepth 20000 in
theorem gX9_skip_X9_plan : GoodIn wuX9_skip (wsV RX9 189 RX9 yX9_plan wuX9_plan) := gu_V mw_1943 mw_1944 mw_1945 mw_171 mw_1946
set_option maxRecDepth 20000 in
set_option maxRecDepth 20000 in
theorem gX9_skip_X9_setReference : GoodIn wuX9_skip (wsV RX9 192 RX9 yX9_setReference wuX9_setReference) := gu_V mw_1965 mw_1966 mw_1967 mw_171 mw_1968
set_option maxRecDepth 20000 in
set_option maxRecDepth 20000 in
theorem gX9_skip_X9_setMove : GoodIn wuX9_skip (wsV RX9 195 RX9 yX9_setMove wuX9_setMove) := gu_V mw_1969 mw_1970 mw_1971 mw_171 mw_1972
theorem dX9_skip_0 : decode cX9_skip 0 = .ok (.aload_n 0, 1) := by decide +kernel
theorem dX9_skip_1 : decode cX9_skip 1 = .ok (.iload_n 1, 1) := by decide +kernel
theorem dX9_skip_2 : decode cX9_skip 2 = .ok (.invokevirtual 186, 3) := by decide +kernel
theorem dX9_skip_5 : decode cX9_skip 5 = .ok (.aload_n 0, 1) := by decide +kernel
theorem dX9_skip_6 : decode cX9_skip 6 = .ok (.iconst 0, 1) := by decide +kernel
theorem dX9_skip_7 : decode cX9_skip 7 = .ok (.iconst 0, 1) := by decide +kernel
theorem dX9_skip_8 : decode cX9_skip 8 = .ok (.invokevirtual 189, 3) := by decide +kernel
theorem dX9_skip_11 : decode cX9_skip 11 = .ok (.aload_n 0, 1) := by decide +kernel
theorem dX9_skip_12 : decode cX9_skip 12 = .ok (.iload_n 1, 1) := by decide +kernel
theorem dX9_skip_13 : decode cX9_skip 13 = .ok (.iconst 0, 1) := by decide +kernel
theorem dX9_skip_14 : decode cX9_skip 14 = .ok (.iconst 0, 1) := by decide +kernel
theorem dX9_skip_15 : decode cX9_skip 15 = .ok (.iconst 0, 1) := by decide +kernel
theorem dX9_skip_16 : decode cX9_skip 16 = .ok (.invokevirtual 192, 3) := by decide +kernel
theorem dX9_skip_19 : decode cX9_skip 19 = .ok (.aload_n 0, 1) := by decide +kernel
theorem dX9_skip_20 : decode cX9_skip 20 = .ok (.iload_n 1, 1) := by decide +kernel
theorem dX9_skip_21 : decode cX9_skip 21 = .ok (.iconst 0, 1) := by decide +kernel
theorem dX9_skip_22 : decode cX9_skip 22 = .ok (.iconst 0, 1) := by decide +kernel
theorem dX9_skip_23 : decode cX9_skip 23 = .ok (.aload_n 0, 1) := by decide +kernel
theorem dX9_skip_24 : decode cX9_skip 24 = .ok (.getfield 173, 3) := by decide +kernel
theorem dX9_skip_27 : decode cX9_skip 27 = .ok (.aload_n 0, 1) := by decide +kernel
theorem dX9_skip_28 : decode cX9_skip 28 = .ok (.getfield 176, 3) := by decide +kernel
theorem dX9_skip_31 : decode cX9_skip 31 = .ok (.invokevirtual 195, 3) := by decide +kernel
theorem dX9_skip_34 : decode cX9_skip 34 = .ok (.return_, 1) := by decide +kernel
def FX9_skip (G : GG) (M : DD) (a : Nat) (p0 : Int32) : Option (DD) :=
  bnd (FX9_guessSkipped G M a p0) fun y1 =>
  bnd (FX9_plan G y1 a ((0 : Int32)) ((0 : Int32))) fun y2 =>
  bnd (FX9_setReference G y2 a p0 ((0 : Int32)) ((0 : Int32)) ((0 : Int32))) fun y3 =>
  ltt (y3.1 a 18) fun x4 =>
  ltt (y3.1 a 19) fun x5 =>
  bnd (FX9_setMove G y3 a p0 ((0 : Int32)) ((0 : Int32)) x4 x5) fun y6 =>
  some y6
set_option maxHeartbeats 4000000 in
set_option maxRecDepth 100000 in
theorem kX9_skip (l : Launch) (D : va_G) (ct : CT) (ad : Nat → Nat) (Z : Nat → Nat) (G : GG) (M : DD) (sz : Nat) (a : Nat) (p0 : Int32) (y : DD) (hc : a < G.1) (hk : G.2.1 a = 9) (hF : FX9_skip G M a p0 = some y) : Met l yX9_skip wuX9_skip ({ frames := 3, cells := 0, slots := 0, locals := 92 }) (va_Pc [.ref (ad a), .int p0] (kB D ct ad Z G M sz)) (va_Qv (fun (_ : Unit) => True) (fun _ t => kE D ct ad G (wA ad G sz) y t) (wA ad G sz)) 0 0 (wA ad G sz) := by
  refine Met.ofW (cc := cX9_skip) (maxL := 2) (ret := none) (by decide) rfl ?_
  intro p e s m args below meth c s₁ B hml hv
  obtain ⟨rfl, hsz, hP, hK, hD0, hZ, hN⟩ := hv
  have hx := B.exec
  have hb := B.bytes
  have hr := B.returns
  have hts := atoms_spec (ws := wuX9_skip) B.pre
  have hown : s.vm.findClass RX9 = some m.cls := findClass_of_methodNamed B.named
  have hlocks := B.notSynchronized
  subst hsz
  have hD := wD_self (sz := s.heap.size) hD0
  have hA9 : ∀ q, s.heap.size ≤ q → wA ad G s.heap.size q := fun q h => Or.inr h
  generalize hAe : wA ad G s.heap.size = A at hD hA9 hZ ⊢
  have hS : va_S A s.heap s.heap [] := va_S.rf
  have hl := lv_entry ([.ref (ad a), .int p0]) (n := 2) (Nat.le_of_ble_eq_true rfl)
  rw [lg_entry_eq]
  generalize (lg_sl ([.ref (ad a), .int p0]) ++ List.replicate (2 - (lg_sl ([.ref (ad a), .int p0])).length) Slot.unset).toArray = ls at hl ⊢
  have hl : lv_has ls 2 [(0, .ref (ad a)), (1, .int p0)] := hl
  unfold FX9_skip at hF
  refine lv_aload_n hx hb dX9_skip_0 rfl (lv_at hl 0 rfl) ?_
  refine lv_iload_n hx hb dX9_skip_1 rfl (lv_at hl 1 rfl) ?_
  obtain ⟨y1, hy1, hF⟩ := bnd_some hF
  have hf9 := wA_in hD hA9 hS
  refine va_callv (va_runV (As := [.int p0]) (rest := []) ⟨hx, hb, hml, hown, hts⟩ (kX9_guessSkipped l D ct ad Z G M s.heap.size a p0 y1 hc hk hy1) (cwV 1 hts gX9_skip_X9_guessSkipped rfl rfl rfl (by decide +kernel) ⟨Nat.le_of_ble_eq_true rfl, Nat.le_of_ble_eq_true rfl⟩) ⟨fun a U g mk q => by obtain ⟨q0, q1, qP, qK, qD, qZ, qN⟩ := q; exact ⟨q0, q1, qP, va_K.moved (u := U) (U := U.calling g mk a) (Vm.Alike.refl U.vm) qK, qD, sF.moved (u := U) (U := U.calling g mk a) (Vm.Alike.refl U.vm) qZ, nF.same rfl qN⟩, va_recv hK hP (ci := 9) (q0 := a) rfl (wld_o ct ad G M hc hk (by decide)), fun U hU hW => ⟨rfl, by rw [hU], by rw [hU]; exact hP, va_K.moved hW.alike hK, hD.weaken (fun _ _ _ _ => trivial), by rw [hU]; exact ((hZ.kept hS.2.1).narrow hf9).moved hW.alike, hN.warm hW⟩⟩ rfl rfl hl.1 rfl (lv_room (Nat.le_of_ble_eq_true rfl)) dX9_skip_2 ⟨(Nat.zero_le _), (Nat.zero_le _)⟩) hS (fun q _ h => hf9 q h) hf9 (fun u t H locs ht hvm hw hB hz1 hk1 hS => ?_)
  obtain ⟨hP, hK9, hD9⟩ := hB
  rw [ht] at hP
  have hD := hD9.weaken (fun _ q _ h => hf9 q.1 h)
  refine lv_aload_n hx hb dX9_skip_5 rfl (lv_at hl 0 rfl) ?_
  refine lv_iconst (v := (0 : Int32)) hx hb dX9_skip_6 (by decide) ?_
  refine lv_iconst (v := (0 : Int32)) hx hb dX9_skip_7 (by decide) ?_
  obtain ⟨y2, hy2, hF⟩ := bnd_some hF
  have hf9 := wA_in hD hA9 hS
  refine va_callv (va_runV (As := [.int (0 : Int32), .int (0 : Int32)]) (rest := []) ⟨hx, hb, hml, hown, hts⟩ (kX9_plan l D ct ad Z G y1 H.size a ((0 : Int32)) ((0 : Int32)) y2 hc hk hy2) (cwV 2 hts gX9_skip_X9_plan rfl rfl rfl (by decide +kernel) ⟨Nat.le_of_ble_eq_true rfl, Nat.le_of_ble_eq_true rfl⟩) ⟨fun a U g mk q => by obtain ⟨q0, q1, qP, qK, qD, qZ, qN⟩ := q; exact ⟨q0, q1, qP, va_K.moved (u := U) (U := U.calling g mk a) (Vm.Alike.refl U.vm) qK, qD, sF.moved (u := U) (U := U.calling g mk a) (Vm.Alike.refl U.vm) qZ, nF.same rfl qN⟩, va_recv hK hP (ci := 9) (q0 := a) rfl (wld_o ct ad G y1 hc hk (by decide)), fun U hU hW => ⟨rfl, by rw [hU], by rw [hU]; exact hP, va_K.moved hW.alike hK, hD.weaken (fun _ _ _ _ => trivial), by rw [hU]; exact ((hZ.kept hS.2.1).narrow hf9).moved hW.alike, hN.warm hW⟩⟩ rfl rfl hl.1 rfl (lv_room (Nat.le_of_ble_eq_true rfl)) dX9_skip_8 ⟨(Nat.zero_le _), (Nat.zero_le _)⟩) hS (fun q _ h => hf9 q h) hf9 (fun u t H locs ht hvm hw hB hz1 hk1 hS => ?_)
  obtain ⟨hP, hK9, hD9⟩ := hB
  rw [ht] at hP
  have hD := hD9.weaken (fun _ q _ h => hf9 q.1 h)
  refine lv_aload_n hx hb dX9_skip_11 rfl (lv_at hl 0 rfl) ?_
  refine lv_iload_n hx hb dX9_skip_12 rfl (lv_at hl 1 rfl) ?_
  refine lv_iconst (v := (0 : Int32)) hx hb dX9_skip_13 (by decide) ?_
  refine lv_iconst (v := (0 : Int32)) hx hb dX9_skip_14 (by decide) ?_
  refine lv_iconst (v := (0 : Int32)) hx hb dX9_skip_15 (by decide) ?_
  obtain ⟨y3, hy3, hF⟩ := bnd_some hF
  have hf9 := wA_in hD hA9 hS
  refine va_callv (va_runV (As := [.int p0, .int (0 : Int32), .int (0 : Int32), .int (0 : Int32)]) (rest := []) ⟨hx, hb, hml, hown, hts⟩ (kX9_setReference l D ct ad Z G y2 H.size a p0 ((0 : Int32)) ((0 : Int32)) ((0 : Int32)) y3 hc hk hy3) (cwV 4 hts gX9_skip_X9_setReference rfl rfl rfl (by decide +kernel) ⟨Nat.le_of_ble_eq_true rfl, Nat.le_of_ble_eq_true rfl⟩) ⟨fun a U g mk q => by obtain ⟨q0, q1, qP, qK, qD, qZ, qN⟩ := q; exact ⟨q0, q1, qP, va_K.moved (u := U) (U := U.calling g mk a) (Vm.Alike.refl U.vm) qK, qD, sF.moved (u := U) (U := U.calling g mk a) (Vm.Alike.refl U.vm) qZ, nF.same rfl qN⟩, va_recv hK hP (ci := 9) (q0 := a) rfl (wld_o ct ad G y2 hc hk (by decide)), fun U hU hW => ⟨rfl, by rw [hU], by rw [hU]; exact hP, va_K.moved hW.alike hK, hD.weaken (fun _ _ _ _ => trivial), by rw [hU]; exact ((hZ.kept hS.2.1).narrow hf9).moved hW.alike, hN.warm hW⟩⟩ rfl rfl hl.1 rfl (lv_room (Nat.le_of_ble_eq_true rfl)) dX9_skip_16 ⟨(Nat.zero_le _), (Nat.zero_le _)⟩) hS (fun q _ h => hf9 q h) hf9 (fun u t H locs ht hvm hw hB hz1 hk1 hS => ?_)
  obtain ⟨hP, hK9, hD9⟩ := hB
  rw [ht] at hP
  have hD := hD9.weaken (fun _ q _ h => hf9 q.1 h)
  refine lv_aload_n hx hb dX9_skip_19 rfl (lv_at hl 0 rfl) ?_
  refine lv_iload_n hx hb dX9_skip_20 rfl (lv_at hl 1 rfl) ?_
  refine lv_iconst (v := (0 : Int32)) hx hb dX9_skip_21 (by decide) ?_
  refine lv_iconst (v := (0 : Int32)) hx hb dX9_skip_22 (by decide) ?_
  refine lv_aload_n hx hb dX9_skip_23 rfl (lv_at hl 0 rfl) ?_
  refine va_get (D := D) (ci := 9) (v := .int (y3.1 a 18)) (C := RX9) (T := TX9) (N := 20) hx hb hts (mus hf_X9) hown hK hP a (wld_o ct ad G y3 hc hk (by decide)) rfl 18 (by decide) (hts (.fieldLink RX9 173 "VideoSuite$Work" "guessX" "I") (mu mw_481)) (fun _ h9 => h9) rfl dX9_skip_24 ?_
  obtain ⟨x4, ex4, hF⟩ := ltt_some hF
  refine lv_topi (fun zx4 ezx4 => ?_)
  obtain rfl : x4 = zx4 := ex4.trans ezx4.symm
  refine lv_aload_n hx hb dX9_skip_27 rfl (lv_at hl 0 rfl) ?_
  refine va_get (D := D) (ci := 9) (v := .int (y3.1 a 19)) (C := RX9) (T := TX9) (N := 20) hx hb hts (mus hf_X9) hown hK hP a (wld_o ct ad G y3 hc hk (by decide)) rfl 19 (by decide) (hts (.fieldLink RX9 176 "VideoSuite$Work" "guessY" "I") (mu mw_484)) (fun _ h9 => h9) rfl dX9_skip_28 ?_
  obtain ⟨x5, ex5, hF⟩ := ltt_some hF
  refine lv_topi (fun zx5 ezx5 => ?_)
  obtain rfl : x5 = zx5 := ex5.trans ezx5.symm
  obtain ⟨y6, hy6, hF⟩ := bnd_some hF
  have hf9 := wA_in hD hA9 hS
  refine va_callv (va_runV (As := [.int p0, .int (0 : Int32), .int (0 : Int32), .int x4, .int x5]) (rest := []) ⟨hx, hb, hml, hown, hts⟩ (kX9_setMove l D ct ad Z G y3 H.size a p0 ((0 : Int32)) ((0 : Int32)) x4 x5 y6 hc hk hy6) (cwV 5 hts gX9_skip_X9_setMove rfl rfl rfl (by decide +kernel) ⟨Nat.le_of_ble_eq_true rfl, Nat.le_of_ble_eq_true rfl⟩) ⟨fun a U g mk q => by obtain ⟨q0, q1, qP, qK, qD, qZ, qN⟩ := q; exact ⟨q0, q1, qP, va_K.moved (u := U) (U := U.calling g mk a) (Vm.Alike.refl U.vm) qK, qD, sF.moved (u := U) (U := U.calling g mk a) (Vm.Alike.refl U.vm) qZ, nF.same rfl qN⟩, va_recv hK hP (ci := 9) (q0 := a) rfl (wld_o ct ad G y3 hc hk (by decide)), fun U hU hW => ⟨rfl, by rw [hU], by rw [hU]; exact hP, va_K.moved hW.alike hK, hD.weaken (fun _ _ _ _ => trivial), by rw [hU]; exact ((hZ.kept hS.2.1).narrow hf9).moved hW.alike, hN.warm hW⟩⟩ rfl rfl hl.1 rfl (lv_room (Nat.le_of_ble_eq_true rfl)) dX9_skip_31 ⟨(Nat.zero_le _), (Nat.zero_le _)⟩) hS (fun q _ h => hf9 q h) hf9 (fun u t H locs ht hvm hw hB hz1 hk1 hS => ?_)
  obtain ⟨hP, hK9, hD9⟩ := hB
  rw [ht] at hP
  have hD := hD9.weaken (fun _ q _ h => hf9 q.1 h)
  obtain rfl := Option.some.inj hF
  exact W.vret hx hb hr (fun t ht hW => ⟨⟨(), rfl, trivial, ⟨by rw [ht]; exact hP, va_K.moved hW.alike hK, hD⟩⟩, hS.F ht⟩) hS.2.2 dX9_skip_34
set_option maxRecDepth 20000 in
theorem gX9_tokenTable_X9_pieceAt : GoodIn wuX9_tokenTable (wsV RX9 111 RX9 yX9_pieceAt wuX9_pieceAt) := gu_V mw_1906 mw_1907 mw_1908 mw_171 mw_1909
set_option maxRecDepth 20000 in
set_option maxRecDepth 20000 in
theorem gX9_tokenTable_X9_totalAt : GoodIn wuX9_tokenTable (wsV RX9 132 RX9 yX9_totalAt wuX9_totalAt) := gu_V mw_2246 mw_2248 mw_103 mw_171 mw_2249
set_option maxRecDepth 20000 in
theorem gX9_tokenTable_X9_pieceX : GoodIn wuX9_tokenTable (va_wsS RX9 122 yX9_pieceX wuX9_pieceX) := gu_S mw_1918 mw_949 mw_171 mw_950
set_option maxRecDepth 20000 in
set_option maxRecDepth 20000 in
theorem gX9_tokenTable_X9_pieceY : GoodIn wuX9_tokenTable (va_wsS RX9 126 yX9_pieceY wuX9_pieceY) := gu_S mw_1919 mw_952 mw_171 mw_953
set_option maxRecDepth 20000 in
theorem dX9_tokenTable_0 : decode cX9_tokenTable 0 = .ok (.iload_n 2, 1) := by decide +kernel
theorem dX9_tokenTable_1 : decode cX9_tokenTable 1 = .ok (.bipush 16, 2) := by decide +kernel
theorem dX9_tokenTable_3 : decode cX9_tokenTable 3 = .ok (.if_icmp .ge 53, 3) := by decide +kernel
theorem dX9_tokenTable_6 : decode cX9_tokenTable 6 = .ok (.aload_n 0, 1) := by decide +kernel
theorem dX9_tokenTable_7 : decode cX9_tokenTable 7 = .ok (.aload_n 0, 1) := by decide +kernel
theorem dX9_tokenTable_8 : decode cX9_tokenTable 8 = .ok (.iload_n 1, 1) := by decide +kernel
theorem dX9_tokenTable_9 : decode cX9_tokenTable 9 = .ok (.iload_n 2, 1) := by decide +kernel
theorem dX9_tokenTable_10 : decode cX9_tokenTable 10 = .ok (.invokestatic 122, 3) := by decide +kernel
theorem dX9_tokenTable_13 : decode cX9_tokenTable 13 = .ok (.iconst 1, 1) := by decide +kernel
theorem dX9_tokenTable_14 : decode cX9_tokenTable 14 = .ok (.isub, 1) := by decide +kernel
theorem dX9_tokenTable_15 : decode cX9_tokenTable 15 = .ok (.iload_n 2, 1) := by decide +kernel
theorem dX9_tokenTable_16 : decode cX9_tokenTable 16 = .ok (.invokestatic 126, 3) := by decide +kernel
theorem dX9_tokenTable_19 : decode cX9_tokenTable 19 = .ok (.bipush 16, 2) := by decide +kernel
theorem dX9_tokenTable_21 : decode cX9_tokenTable 21 = .ok (.invokevirtual 111, 3) := by decide +kernel
theorem dX9_tokenTable_24 : decode cX9_tokenTable 24 = .ok (.iconst (-1), 1) := by decide +kernel
theorem dX9_tokenTable_25 : decode cX9_tokenTable 25 = .ok (.invokevirtual 132, 3) := by decide +kernel
theorem dX9_tokenTable_28 : decode cX9_tokenTable 28 = .ok (.istore_n 3, 1) := by decide +kernel
theorem dX9_tokenTable_29 : decode cX9_tokenTable 29 = .ok (.aload_n 0, 1) := by decide +kernel
theorem dX9_tokenTable_30 : decode cX9_tokenTable 30 = .ok (.aload_n 0, 1) := by decide +kernel
theorem dX9_tokenTable_31 : decode cX9_tokenTable 31 = .ok (.iload_n 1, 1) := by decide +kernel
theorem dX9_tokenTable_32 : decode cX9_tokenTable 32 = .ok (.iload_n 2, 1) := by decide +kernel
theorem dX9_tokenTable_33 : decode cX9_tokenTable 33 = .ok (.invokestatic 122, 3) := by decide +kernel
theorem dX9_tokenTable_36 : decode cX9_tokenTable 36 = .ok (.iload_n 2, 1) := by decide +kernel
theorem dX9_tokenTable_37 : decode cX9_tokenTable 37 = .ok (.invokestatic 126, 3) := by decide +kernel
theorem dX9_tokenTable_40 : decode cX9_tokenTable 40 = .ok (.iconst 1, 1) := by decide +kernel
theorem dX9_tokenTable_41 : decode cX9_tokenTable 41 = .ok (.isub, 1) := by decide +kernel
theorem dX9_tokenTable_42 : decode cX9_tokenTable 42 = .ok (.bipush 16, 2) := by decide +kernel
theorem dX9_tokenTable_44 : decode cX9_tokenTable 44 = .ok (.invokevirtual 111, 3) := by decide +kernel
theorem dX9_tokenTable_47 : decode cX9_tokenTable 47 = .ok (.iconst (-1), 1) := by decide +kernel
theorem dX9_tokenTable_48 : decode cX9_tokenTable 48 = .ok (.invokevirtual 132, 3) := by decide +kernel
theorem dX9_tokenTable_51 : decode cX9_tokenTable 51 = .ok (.istore 4, 2) := by decide +kernel
theorem dX9_tokenTable_53 : decode cX9_tokenTable 53 = .ok (.goto 59, 3) := by decide +kernel
theorem dX9_tokenTable_56 : decode cX9_tokenTable 56 = .ok (.aload_n 0, 1) := by decide +kernel
theorem dX9_tokenTable_57 : decode cX9_tokenTable 57 = .ok (.aload_n 0, 1) := by decide +kernel
theorem dX9_tokenTable_58 : decode cX9_tokenTable 58 = .ok (.iload_n 1, 1) := by decide +kernel
theorem dX9_tokenTable_59 : decode cX9_tokenTable 59 = .ok (.iload_n 2, 1) := by decide +kernel
theorem dX9_tokenTable_60 : decode cX9_tokenTable 60 = .ok (.iconst 2, 1) := by decide +kernel
theorem dX9_tokenTable_61 : decode cX9_tokenTable 61 = .ok (.irem, 1) := by decide +kernel
theorem dX9_tokenTable_62 : decode cX9_tokenTable 62 = .ok (.ifCond .ne 7, 3) := by decide +kernel
theorem dX9_tokenTable_65 : decode cX9_tokenTable 65 = .ok (.iconst (-1), 1) := by decide +kernel
theorem dX9_tokenTable_66 : decode cX9_tokenTable 66 = .ok (.goto 4, 3) := by decide +kernel
theorem dX9_tokenTable_69 : decode cX9_tokenTable 69 = .ok (.iconst 0, 1) := by decide +kernel
theorem dX9_tokenTable_70 : decode cX9_tokenTable 70 = .ok (.iconst 0, 1) := by decide +kernel
theorem dX9_tokenTable_71 : decode cX9_tokenTable 71 = .ok (.bipush 16, 2) := by decide +kernel
theorem dX9_tokenTable_73 : decode cX9_tokenTable 73 = .ok (.invokevirtual 111, 3) := by decide +kernel
theorem dX9_tokenTable_76 : decode cX9_tokenTable 76 = .ok (.iload_n 2, 1) := by decide +kernel
theorem dX9_tokenTable_77 : decode cX9_tokenTable 77 = .ok (.iconst 1, 1) := by decide +kernel
theorem dX9_tokenTable_78 : decode cX9_tokenTable 78 = .ok (.ixor, 1) := by decide +kernel
theorem dX9_tokenTable_79 : decode cX9_tokenTable 79 = .ok (.invokevirtual 132, 3) := by decide +kernel
theorem dX9_tokenTable_82 : decode cX9_tokenTable 82 = .ok (.istore_n 3, 1) := by decide +kernel
theorem dX9_tokenTable_83 : decode cX9_tokenTable 83 = .ok (.aload_n 0, 1) := by decide +kernel
theorem dX9_tokenTable_84 : decode cX9_tokenTable 84 = .ok (.aload_n 0, 1) := by decide +kernel
theorem dX9_tokenTable_85 : decode cX9_tokenTable 85 = .ok (.iload_n 1, 1) := by decide +kernel
theorem dX9_tokenTable_86 : decode cX9_tokenTable 86 = .ok (.iconst 0, 1) := by decide +kernel
theorem dX9_tokenTable_87 : decode cX9_tokenTable 87 = .ok (.iload_n 2, 1) := by decide +kernel
theorem dX9_tokenTable_88 : decode cX9_tokenTable 88 = .ok (.iconst 4, 1) := by decide +kernel
theorem dX9_tokenTable_89 : decode cX9_tokenTable 89 = .ok (.irem, 1) := by decide +kernel
theorem dX9_tokenTable_90 : decode cX9_tokenTable 90 = .ok (.iconst 2, 1) := by decide +kernel
theorem dX9_tokenTable_91 : decode cX9_tokenTable 91 = .ok (.if_icmp .ge 7, 3) := by decide +kernel
theorem dX9_tokenTable_94 : decode cX9_tokenTable 94 = .ok (.iconst (-1), 1) := by decide +kernel
theorem dX9_tokenTable_95 : decode cX9_tokenTable 95 = .ok (.goto 4, 3) := by decide +kernel
theorem dX9_tokenTable_98 : decode cX9_tokenTable 98 = .ok (.iconst 0, 1) := by decide +kernel
theorem dX9_tokenTable_99 : decode cX9_tokenTable 99 = .ok (.bipush 16, 2) := by decide +kernel
theorem dX9_tokenTable_101 : decode cX9_tokenTable 101 = .ok (.invokevirtual 111, 3) := by decide +kernel
theorem dX9_tokenTable_104 : decode cX9_tokenTable 104 = .ok (.iload_n 2, 1) := by decide +kernel
theorem dX9_tokenTable_105 : decode cX9_tokenTable 105 = .ok (.iconst 2, 1) := by decide +kernel
theorem dX9_tokenTable_106 : decode cX9_tokenTable 106 = .ok (.ixor, 1) := by decide +kernel
theorem dX9_tokenTable_107 : decode cX9_tokenTable 107 = .ok (.invokevirtual 132, 3) := by decide +kernel
theorem dX9_tokenTable_110 : decode cX9_tokenTable 110 = .ok (.istore 4, 2) := by decide +kernel
theorem dX9_tokenTable_112 : decode cX9_tokenTable 112 = .ok (.iload_n 3, 1) := by decide +kernel
theorem dX9_tokenTable_113 : decode cX9_tokenTable 113 = .ok (.ifCond .ge 8, 3) := by decide +kernel
theorem dX9_tokenTable_116 : decode cX9_tokenTable 116 = .ok (.iload 4, 2) := by decide +kernel
theorem dX9_tokenTable_118 : decode cX9_tokenTable 118 = .ok (.goto 20, 3) := by decide +kernel
theorem dX9_tokenTable_121 : decode cX9_tokenTable 121 = .ok (.iload 4, 2) := by decide +kernel
theorem dX9_tokenTable_123 : decode cX9_tokenTable 123 = .ok (.ifCond .ge 7, 3) := by decide +kernel
theorem dX9_tokenTable_126 : decode cX9_tokenTable 126 = .ok (.iload_n 3, 1) := by decide +kernel
theorem dX9_tokenTable_127 : decode cX9_tokenTable 127 = .ok (.goto 11, 3) := by decide +kernel
theorem dX9_tokenTable_130 : decode cX9_tokenTable 130 = .ok (.iload_n 3, 1) := by decide +kernel
theorem dX9_tokenTable_131 : decode cX9_tokenTable 131 = .ok (.iload 4, 2) := by decide +kernel
theorem dX9_tokenTable_133 : decode cX9_tokenTable 133 = .ok (.iadd, 1) := by decide +kernel
theorem dX9_tokenTable_134 : decode cX9_tokenTable 134 = .ok (.iconst 1, 1) := by decide +kernel
theorem dX9_tokenTable_135 : decode cX9_tokenTable 135 = .ok (.iadd, 1) := by decide +kernel
theorem dX9_tokenTable_136 : decode cX9_tokenTable 136 = .ok (.iconst 1, 1) := by decide +kernel
theorem dX9_tokenTable_137 : decode cX9_tokenTable 137 = .ok (.ishr, 1) := by decide +kernel
theorem dX9_tokenTable_138 : decode cX9_tokenTable 138 = .ok (.istore 5, 2) := by decide +kernel
theorem dX9_tokenTable_140 : decode cX9_tokenTable 140 = .ok (.iload 5, 2) := by decide +kernel
theorem dX9_tokenTable_142 : decode cX9_tokenTable 142 = .ok (.iconst 2, 1) := by decide +kernel
theorem dX9_tokenTable_143 : decode cX9_tokenTable 143 = .ok (.if_icmp .ge 7, 3) := by decide +kernel
theorem dX9_tokenTable_146 : decode cX9_tokenTable 146 = .ok (.iconst 0, 1) := by decide +kernel
theorem dX9_tokenTable_147 : decode cX9_tokenTable 147 = .ok (.goto 25, 3) := by decide +kernel
theorem dX9_tokenTable_150 : decode cX9_tokenTable 150 = .ok (.iload 5, 2) := by decide +kernel
theorem dX9_tokenTable_152 : decode cX9_tokenTable 152 = .ok (.iconst 4, 1) := by decide +kernel
theorem dX9_tokenTable_153 : decode cX9_tokenTable 153 = .ok (.if_icmp .ge 7, 3) := by decide +kernel
theorem dX9_tokenTable_156 : decode cX9_tokenTable 156 = .ok (.iconst 1, 1) := by decide +kernel
theorem dX9_tokenTable_157 : decode cX9_tokenTable 157 = .ok (.goto 15, 3) := by decide +kernel
theorem dX9_tokenTable_160 : decode cX9_tokenTable 160 = .ok (.iload 5, 2) := by decide +kernel
theorem dX9_tokenTable_162 : decode cX9_tokenTable 162 = .ok (.bipush 8, 2) := by decide +kernel
theorem dX9_tokenTable_164 : decode cX9_tokenTable 164 = .ok (.if_icmp .ge 7, 3) := by decide +kernel
theorem dX9_tokenTable_167 : decode cX9_tokenTable 167 = .ok (.iconst 2, 1) := by decide +kernel
theorem dX9_tokenTable_168 : decode cX9_tokenTable 168 = .ok (.goto 4, 3) := by decide +kernel
theorem dX9_tokenTable_171 : decode cX9_tokenTable 171 = .ok (.iconst 3, 1) := by decide +kernel
theorem dX9_tokenTable_172 : decode cX9_tokenTable 172 = .ok (.ireturn, 1) := by decide +kernel
def FX9_tokenTable (G : GG) (M : DD) (a : Nat) (p0 : Int32) (p1 : Int32) : Option (DD × Int32) :=
  bnd (if ((16 : Int32)) ≤ p1 then (ltt (p1 - p1 / ((2 : Int32)) * ((2 : Int32))) fun x16 =>
  bnd (if x16 = ((0 : Int32)) then (some ((-1 : Int32))) else
  (some ((0 : Int32)))) fun (y17 : Int32) =>
  bnd (FX9_pieceAt G M a p0 y17 ((0 : Int32)) ((16 : Int32))) fun y18 =>
  ltt ((p1 ^^^ ((1 : Int32)))) fun x19 =>
  bnd (FX9_totalAt G y18.1 a y18.2 x19) fun y20 =>
  ltt (p1 - p1 / ((4 : Int32)) * ((4 : Int32))) fun x21 =>
  bnd (if ((2 : Int32)) ≤ x21 then (some ((0 : Int32))) else
  (some ((-1 : Int32)))) fun (y22 : Int32) =>
  bnd (FX9_pieceAt G y20.1 a p0 ((0 : Int32)) y22 ((16 : Int32))) fun y23 =>
  ltt ((p1 ^^^ ((2 : Int32)))) fun x24 =>
  bnd (FX9_totalAt G y23.1 a y23.2 x24) fun y25 =>
  some (y20.2, y25.2, y25.1)) else
  (bnd (FX9_pieceX G M p1) fun y28 =>
  ltt ((y28.2 - ((1 : Int32)))) fun x29 =>
  bnd (FX9_pieceY G y28.1 p1) fun y30 =>
  bnd (FX9_pieceAt G y30.1 a p0 x29 y30.2 ((16 : Int32))) fun y31 =>
  bnd (FX9_totalAt G y31.1 a y31.2 ((-1 : Int32))) fun y32 =>
  bnd (FX9_pieceX G y32.1 p1) fun y33 =>
  bnd (FX9_pieceY G y33.1 p1) fun y34 =>
  ltt ((y34.2 - ((1 : Int32)))) fun x35 =>
  bnd (FX9_pieceAt G y34.1 a p0 y33.2 x35 ((16 : Int32))) fun y36 =>
  bnd (FX9_totalAt G y36.1 a y36.2 ((-1 : Int32))) fun y37 =>
  some (y32.2, y37.2, y37.1))) fun (y1 : Int32 × Int32 × DD) =>
  bnd (if ((0 : Int32)) ≤ y1.1 then (bnd (if ((0 : Int32)) ≤ y1.2.1 then (ltt ((y1.1 + y1.2.1)) fun x12 =>
  ltt ((x12 + ((1 : Int32)))) fun x13 =>
  ltt ((x13 >>> (((1 : Int32)) &&& 31))) fun x14 =>
  some (x14)) else
  (some (y1.1))) fun (y10 : Int32) =>
  some (y10)) else
  (some (y1.2.1))) fun (y2 : Int32) =>
  bnd (if ((2 : Int32)) ≤ y2 then (bnd (if ((4 : Int32)) ≤ y2 then (bnd (if ((8 : Int32)) ≤ y2 then (some ((3 : Int32))) else
  (some ((2 : Int32)))) fun (y7 : Int32) =>
  some (y7)) else
  (some ((1 : Int32)))) fun (y5 : Int32) =>
  some (y5)) else
  (some ((0 : Int32)))) fun (y3 : Int32) =>
  some (y1.2.2, y3)
set_option maxHeartbeats 4000000 in
set_option maxRecDepth 100000 in
theorem kX9_tokenTable (l : Launch) (D : va_G) (ct : CT) (ad : Nat → Nat) (Z : Nat → Nat) (G : GG) (M : DD) (sz : Nat) (a : Nat) (p0 : Int32) (p1 : Int32) (y : DD × Int32) (hc : a < G.1) (hk : G.2.1 a = 9) (hF : FX9_tokenTable G M a p0 p1 = some y) : Met l yX9_tokenTable wuX9_tokenTable ({ frames := 1, cells := 0, slots := 0, locals := 28 }) (va_Pc [.ref (ad a), .int p0, .int p1] (kB D ct ad Z G M sz)) (va_Qi (fun (q : Int32) (_ : Unit) => q = y.2) (fun _ t => kE D ct ad G (wA ad G sz) y.1 t) (wA ad G sz)) 0 0 (wA ad G sz) := by
  refine Met.ofW (cc := cX9_tokenTable) (maxL := 6) (ret := (some .int)) (by decide) rfl ?_
  intro p e s m args below meth c s₁ B hml hv
  obtain ⟨rfl, hsz, hP, hK, hD0, hZ, hN⟩ := hv
  have hx := B.exec
  have hb := B.bytes
  have hr := B.returns
  have hts := atoms_spec (ws := wuX9_tokenTable) B.pre
  have hown : s.vm.findClass RX9 = some m.cls := findClass_of_methodNamed B.named
  have hlocks := B.notSynchronized
  subst hsz
  have hD := wD_self (sz := s.heap.size) hD0
  have hA9 : ∀ q, s.heap.size ≤ q → wA ad G s.heap.size q := fun q h => Or.inr h
  generalize hAe : wA ad G s.heap.size = A at hD hA9 hZ ⊢
  have hS : va_S A s.heap s.heap [] := va_S.rf
  have hl := lv_entry ([.ref (ad a), .int p0, .int p1]) (n := 6) (Nat.le_of_ble_eq_true rfl)
  rw [lg_entry_eq]
  generalize (lg_sl ([.ref (ad a), .int p0, .int p1]) ++ List.replicate (6 - (lg_sl ([.ref (ad a), .int p0, .int p1])).length) Slot.unset).toArray = ls at hl ⊢
  have hl : lv_has ls 6 [(0, .ref (ad a)), (1, .int p0), (2, .int p1)] := hl
  unfold FX9_tokenTable at hF
  refine lv_iload_n hx hb dX9_tokenTable_0 rfl (lv_at hl 2 rfl) ?_
  refine lv_bipush (v := (16 : Int32)) hx hb dX9_tokenTable_1 (by decide) ?_
  obtain ⟨y1, hy1, hF⟩ := bnd_some hF
  have J1 : ∀ (H : Heap) (locs : List Loc) (ls : Array Slot), va_P D classes (wld ct ad G y1.2.2) H → va_D A (wld ct ad G y1.2.2) → va_S A s.heap H locs → lv_has ls 6 [(4, .int y1.2.1), (3, .int y1.1), (0, .ref (ad a)), (1, .int p0), (2, .int p1)] → W p l e (headSpec wuX9_tokenTable ({ frames := 1, cells := 0, slots := 0, locals := 28 })).room s m ([.ref (ad a), .int p0, .int p1] : List Value).toArray below meth c H locs 0 0 (MQ below (va_Qi (fun (q : Int32) (_ : Unit) => q = y.2) (fun _ t => kE D ct ad G A y.1 t) A) ([.ref (ad a), .int p0, .int p1] : List Value).toArray s 0 0 A) (F0 m 112 ls []) := by
    intro H locs ls hP hD hS hl
    refine lv_iload_n hx hb dX9_tokenTable_112 rfl (lv_at hl 1 rfl) ?_
    obtain ⟨y2, hy2, hF⟩ := bnd_some hF
    have J2 : ∀ (H : Heap) (locs : List Loc) (ls : Array Slot), va_P D classes (wld ct ad G y1.2.2) H → va_D A (wld ct ad G y1.2.2) → va_S A s.heap H locs → lv_has ls 6 [(4, .int y1.2.1), (3, .int y1.1), (0, .ref (ad a)), (1, .int p0), (2, .int p1)] → W p l e (headSpec wuX9_tokenTable ({ frames := 1, cells := 0, slots := 0, locals := 28 })).room s m ([.ref (ad a), .int p0, .int p1] : List Value).toArray below meth c H locs 0 0 (MQ below (va_Qi (fun (q : Int32) (_ : Unit) => q = y.2) (fun _ t => kE D ct ad G A y.1 t) A) ([.ref (ad a), .int p0, .int p1] : List Value).toArray s 0 0 A) (F0 m 138 ls [.int y2]) := by
      intro H locs ls hP hD hS hl
      refine lv_istore (lv' := [(5, .int y2), (4, .int y1.2.1), (3, .int y1.1), (0, .ref (ad a)), (1, .int p0), (2, .int p1)]) hx hb dX9_tokenTable_138 hl (by decide) rfl (fun ls hl => ?_)
      refine lv_iload hx hb dX9_tokenTable_140 (lv_at hl 0 rfl) ?_
      refine lv_iconst (v := (2 : Int32)) hx hb dX9_tokenTable_142 (by decide) ?_
      obtain ⟨y3, hy3, hF⟩ := bnd_some hF
      have J3 : ∀ (H : Heap) (locs : List Loc) (ls : Array Slot), va_P D classes (wld ct ad G y1.2.2) H → va_D A (wld ct ad G y1.2.2) → va_S A s.heap H locs → lv_has ls 6 [(5, .int y2), (4, .int y1.2.1), (3, .int y1.1), (0, .ref (ad a)), (1, .int p0), (2, .int p1)] → W p l e (headSpec wuX9_tokenTable ({ frames := 1, cells := 0, slots := 0, locals := 28 })).room s m ([.ref (ad a), .int p0, .int p1] : List Value).toArray below meth c H locs 0 0 (MQ below (va_Qi (fun (q : Int32) (_ : Unit) => q = y.2) (fun _ t => kE D ct ad G A y.1 t) A) ([.ref (ad a), .int p0, .int p1] : List Value).toArray s 0 0 A) (F0 m 172 ls [.int y3]) := by
        intro H locs ls hP hD hS hl
        obtain rfl := Option.some.inj hF
        exact W.iret (v := y3) hx hb hr (fun t ht hW => ⟨⟨_, (), rfl, rfl, ⟨by rw [ht]; exact hP, va_K.moved hW.alike hK, hD⟩⟩, hS.F ht⟩) hS.2.2 dX9_tokenTable_172
      clear hF
      have hF := hy3
      clear hy3
      refine lv_icmp_ge (tgt := 150) hx hb dX9_tokenTable_143 (by decide) (fun c4 => ?_) (fun c4 => ?_)
      · rw [if_pos c4] at hF
        refine lv_iload hx hb dX9_tokenTable_150 (lv_at hl 0 rfl) ?_
        refine lv_iconst (v := (4 : Int32)) hx hb dX9_tokenTable_152 (by decide) ?_
        obtain ⟨y5, hy5, hF⟩ := bnd_some hF
        have J5 : ∀ (H : Heap) (locs : List Loc) (ls : Array Slot), va_P D classes (wld ct ad G y1.2.2) H → va_D A (wld ct ad G y1.2.2) → va_S A s.heap H locs → lv_has ls 6 [(5, .int y2), (4, .int y1.2.1), (3, .int y1.1), (0, .ref (ad a)), (1, .int p0), (2, .int p1)] → W p l e (headSpec wuX9_tokenTable ({ frames := 1, cells := 0, slots := 0, locals := 28 })).room s m ([.ref (ad a), .int p0, .int p1] : List Value).toArray below meth c H locs 0 0 (MQ below (va_Qi (fun (q : Int32) (_ : Unit) => q = y.2) (fun _ t => kE D ct ad G A y.1 t) A) ([.ref (ad a), .int p0, .int p1] : List Value).toArray s 0 0 A) (F0 m 172 ls [.int y5]) := by
          intro H locs ls hP hD hS hl
          obtain rfl := Option.some.inj hF
          exact J3 _ _ _ hP hD hS (lv_sub hl [0, 1, 2, 3, 4, 5] rfl)
        clear hF
        have hF := hy5
        clear hy5
        refine lv_icmp_ge (tgt := 160) hx hb dX9_tokenTable_153 (by decide) (fun c6 => ?_) (fun c6 => ?_)
        · rw [if_pos c6] at hF
          refine lv_iload hx hb dX9_tokenTable_160 (lv_at hl 0 rfl) ?_
          refine lv_bipush (v := (8 : Int32)) hx hb dX9_tokenTable_162 (by decide) ?_
          obtain ⟨y7, hy7, hF⟩ := bnd_some hF
          have J7 : ∀ (H : Heap) (locs : List Loc) (ls : Array Slot), va_P D classes (wld ct ad G y1.2.2) H → va_D A (wld ct ad G y1.2.2) → va_S A s.heap H locs → lv_has ls 6 [(5, .int y2), (4, .int y1.2.1), (3, .int y1.1), (0, .ref (ad a)), (1, .int p0), (2, .int p1)] → W p l e (headSpec wuX9_tokenTable ({ frames := 1, cells := 0, slots := 0, locals := 28 })).room s m ([.ref (ad a), .int p0, .int p1] : List Value).toArray below meth c H locs 0 0 (MQ below (va_Qi (fun (q : Int32) (_ : Unit) => q = y.2) (fun _ t => kE D ct ad G A y.1 t) A) ([.ref (ad a), .int p0, .int p1] : List Value).toArray s 0 0 A) (F0 m 172 ls [.int y7]) := by
            intro H locs ls hP hD hS hl
            obtain rfl := Option.some.inj hF
            exact J5 _ _ _ hP hD hS (lv_sub hl [0, 1, 2, 3, 4, 5] rfl)
          clear hF
          have hF := hy7
          clear hy7
          refine lv_icmp_ge (tgt := 171) hx hb dX9_tokenTable_164 (by decide) (fun c8 => ?_) (fun c8 => ?_)
          · rw [if_pos c8] at hF
            refine lv_iconst (v := (3 : Int32)) hx hb dX9_tokenTable_171 (by decide) ?_
            obtain rfl := Option.some.inj hF
            exact J7 _ _ _ hP hD hS (lv_sub hl [0, 1, 2, 3, 4, 5] rfl)
          · rw [if_neg c8] at hF
            refine lv_iconst (v := (2 : Int32)) hx hb dX9_tokenTable_167 (by decide) ?_
            refine lv_goto (tgt := 172) hx hb dX9_tokenTable_168 (by decide) ?_
            obtain rfl := Option.some.inj hF
            exact J7 _ _ _ hP hD hS (lv_sub hl [0, 1, 2, 3, 4, 5] rfl)
        · rw [if_neg c6] at hF
          refine lv_iconst (v := (1 : Int32)) hx hb dX9_tokenTable_156 (by decide) ?_
          refine lv_goto (tgt := 172) hx hb dX9_tokenTable_157 (by decide) ?_
          obtain rfl := Option.some.inj hF
          exact J5 _ _ _ hP hD hS (lv_sub hl [0, 1, 2, 3, 4, 5] rfl)
      · rw [if_neg c4] at hF
        refine lv_iconst (v := (0 : Int32)) hx hb dX9_tokenTable_146 (by decide) ?_
        refine lv_goto (tgt := 172) hx hb dX9_tokenTable_147 (by decide) ?_
        obtain rfl := Option.some.inj hF
        exact J3 _ _ _ hP hD hS (lv_sub hl [0, 1, 2, 3, 4, 5] rfl)
    clear hF
    have hF := hy2
    clear hy2
    refine lv_if_ge (tgt := 121) hx hb dX9_tokenTable_113 (by decide) (fun c9 => ?_) (fun c9 => ?_)
    · rw [if_pos c9] at hF
      refine lv_iload hx hb dX9_tokenTable_121 (lv_at hl 0 rfl) ?_
      obtain ⟨y10, hy10, hF⟩ := bnd_some hF
      have J10 : ∀ (H : Heap) (locs : List Loc) (ls : Array Slot), va_P D classes (wld ct ad G y1.2.2) H → va_D A (wld ct ad G y1.2.2) → va_S A s.heap H locs → lv_has ls 6 [(4, .int y1.2.1), (3, .int y1.1), (0, .ref (ad a)), (1, .int p0), (2, .int p1)] → W p l e (headSpec wuX9_tokenTable ({ frames := 1, cells := 0, slots := 0, locals := 28 })).room s m ([.ref (ad a), .int p0, .int p1] : List Value).toArray below meth c H locs 0 0 (MQ below (va_Qi (fun (q : Int32) (_ : Unit) => q = y.2) (fun _ t => kE D ct ad G A y.1 t) A) ([.ref (ad a), .int p0, .int p1] : List Value).toArray s 0 0 A) (F0 m 138 ls [.int y10]) := by
        intro H locs ls hP hD hS hl
        obtain rfl := Option.some.inj hF
        exact J2 _ _ _ hP hD hS (lv_sub hl [0, 1, 2, 3, 4] rfl)
      clear hF
      have hF := hy10
      clear hy10
      refine lv_if_ge (tgt := 130) hx hb dX9_tokenTable_123 (by decide) (fun c11 => ?_) (fun c11 => ?_)
      · rw [if_pos c11] at hF
        refine lv_iload_n hx hb dX9_tokenTable_130 rfl (lv_at hl 1 rfl) ?_
        refine lv_iload hx hb dX9_tokenTable_131 (lv_at hl 0 rfl) ?_
        refine lv_iadd hx hb dX9_tokenTable_133 ?_
        obtain ⟨x12, ex12, hF⟩ := ltt_some hF
        refine lv_topi (fun zx12 ezx12 => ?_)
        obtain rfl : x12 = zx12 := ex12.trans ezx12.symm
        refine lv_iconst (v := (1 : Int32)) hx hb dX9_tokenTable_134 (by decide) ?_
        refine lv_iadd hx hb dX9_tokenTable_135 ?_
        obtain ⟨x13, ex13, hF⟩ := ltt_some hF
        refine lv_topi (fun zx13 ezx13 => ?_)
        obtain rfl : x13 = zx13 := ex13.trans ezx13.symm
        refine lv_iconst (v := (1 : Int32)) hx hb dX9_tokenTable_136 (by decide) ?_
        refine lv_ishr hx hb dX9_tokenTable_137 ?_
        obtain ⟨x14, ex14, hF⟩ := ltt_some hF
        refine lv_topi (fun zx14 ezx14 => ?_)
        obtain rfl : x14 = zx14 := ex14.trans ezx14.symm
        obtain rfl := Option.some.inj hF
        exact J10 _ _ _ hP hD hS (lv_sub hl [0, 1, 2, 3, 4] rfl)
      · rw [if_neg c11] at hF
        refine lv_iload_n hx hb dX9_tokenTable_126 rfl (lv_at hl 1 rfl) ?_
        refine lv_goto (tgt := 138) hx hb dX9_tokenTable_127 (by decide) ?_
        obtain rfl := Option.some.inj hF
        exact J10 _ _ _ hP hD hS (lv_sub hl [0, 1, 2, 3, 4] rfl)
    · rw [if_neg c9] at hF
      refine lv_iload hx hb dX9_tokenTable_116 (lv_at hl 0 rfl) ?_
      refine lv_goto (tgt := 138) hx hb dX9_tokenTable_118 (by decide) ?_
      obtain rfl := Option.some.inj hF
      exact J2 _ _ _ hP hD hS (lv_sub hl [0, 1, 2, 3, 4] rfl)
  clear hF
  have hF := hy1
  clear hy1
  refine lv_icmp_ge (tgt := 56) hx hb dX9_tokenTable_3 (by decide) (fun c15 => ?_) (fun c15 => ?_)
  · rw [if_pos c15] at hF
    refine lv_aload_n hx hb dX9_tokenTable_56 rfl (lv_at hl 0 rfl) ?_
    refine lv_aload_n hx hb dX9_tokenTable_57 rfl (lv_at hl 0 rfl) ?_
    refine lv_iload_n hx hb dX9_tokenTable_58 rfl (lv_at hl 1 rfl) ?_
    refine lv_iload_n hx hb dX9_tokenTable_59 rfl (lv_at hl 2 rfl) ?_
    refine lv_iconst (v := (2 : Int32)) hx hb dX9_tokenTable_60 (by decide) ?_
    refine lv_irem hx hb dX9_tokenTable_61 (by decide) ?_
    obtain ⟨x16, ex16, hF⟩ := ltt_some hF
    refine lv_topi (fun zx16 ezx16 => ?_)
    obtain rfl : x16 = zx16 := ex16.trans ezx16.symm
    obtain ⟨y17, hy17, hF⟩ := bnd_some hF
    have J17 : ∀ (H : Heap) (locs : List Loc) (ls : Array Slot), va_P D classes (wld ct ad G M) H → va_D A (wld ct ad G M) → va_S A s.heap H locs → lv_has ls 6 [(0, .ref (ad a)), (1, .int p0), (2, .int p1)] → W p l e (headSpec wuX9_tokenTable ({ frames := 1, cells := 0, slots := 0, locals := 28 })).room s m ([.ref (ad a), .int p0, .int p1] : List Value).toArray below meth c H locs 0 0 (MQ below (va_Qi (fun (q : Int32) (_ : Unit) => q = y.2) (fun _ t => kE D ct ad G A y.1 t) A) ([.ref (ad a), .int p0, .int p1] : List Value).toArray s 0 0 A) (F0 m 70 ls [.int y17, .int p0, .ref (ad a), .ref (ad a)]) := by
      intro H locs ls hP hD hS hl
      refine lv_iconst (v := (0 : Int32)) hx hb dX9_tokenTable_70 (by decide) ?_
      refine lv_bipush (v := (16 : Int32)) hx hb dX9_tokenTable_71 (by decide) ?_
      obtain ⟨y18, hy18, hF⟩ := bnd_some hF
      have hf9 := wA_in hD hA9 hS
      refine va_calli (va_runV (As := [.int p0, .int y17, .int (0 : Int32), .int (16 : Int32)]) (rest := [.ref (ad a)]) ⟨hx, hb, hml, hown, hts⟩ (kX9_pieceAt l D ct ad Z G M H.size a p0 y17 ((0 : Int32)) ((16 : Int32)) y18 hc hk hy18) (cwV 4 hts gX9_tokenTable_X9_pieceAt rfl rfl rfl (by decide +kernel) ⟨Nat.le_of_ble_eq_true rfl, Nat.le_of_ble_eq_true rfl⟩) ⟨fun a U g mk q => by obtain ⟨q0, q1, qP, qK, qD, qZ, qN⟩ := q; exact ⟨q0, q1, qP, va_K.moved (u := U) (U := U.calling g mk a) (Vm.Alike.refl U.vm) qK, qD, sF.moved (u := U) (U := U.calling g mk a) (Vm.Alike.refl U.vm) qZ, nF.same rfl qN⟩, va_recv hK hP (ci := 9) (q0 := a) rfl (wld_o ct ad G M hc hk (by decide)), fun U hU hW => ⟨rfl, by rw [hU], by rw [hU]; exact hP, va_K.moved hW.alike hK, hD.weaken (fun _ _ _ _ => trivial), by rw [hU]; exact ((hZ.kept hS.2.1).narrow hf9).moved hW.alike, hN.warm hW⟩⟩ rfl rfl hl.1 rfl (lv_room (Nat.le_of_ble_eq_true rfl)) dX9_tokenTable_73 ⟨(Nat.zero_le _), (Nat.zero_le _)⟩) hS (fun q _ h => hf9 q h) hf9 (fun r u t H locs ht hvm hw hB hz1 hk1 hS => ?_)
      obtain ⟨hP, hK9, hD9⟩ := hB
      rw [ht] at hP
      try dsimp only at hw
      subst hw
      have hD := hD9.weaken (fun _ q _ h => hf9 q.1 h)
      refine lv_iload_n hx hb dX9_tokenTable_76 rfl (lv_at hl 2 rfl) ?_
      refine lv_iconst (v := (1 : Int32)) hx hb dX9_tokenTable_77 (by decide) ?_
      refine lv_ixor hx hb dX9_tokenTable_78 ?_
      obtain ⟨x19, ex19, hF⟩ := ltt_some hF
      refine lv_topi (fun zx19 ezx19 => ?_)
      obtain rfl : x19 = zx19 := ex19.trans ezx19.symm
      obtain ⟨y20, hy20, hF⟩ := bnd_some hF
      have hf9 := wA_in hD hA9 hS
      refine va_calli (va_runV (As := [.int y18.2, .int x19]) (rest := []) ⟨hx, hb, hml, hown, hts⟩ (kX9_totalAt l D ct ad Z G y18.1 H.size a y18.2 x19 y20 hc hk hy20) (cwV 2 hts gX9_tokenTable_X9_totalAt rfl rfl rfl (by decide +kernel) ⟨Nat.le_of_ble_eq_true rfl, Nat.le_of_ble_eq_true rfl⟩) ⟨fun a U g mk q => by obtain ⟨q0, q1, qP, qK, qD, qZ, qN⟩ := q; exact ⟨q0, q1, qP, va_K.moved (u := U) (U := U.calling g mk a) (Vm.Alike.refl U.vm) qK, qD, sF.moved (u := U) (U := U.calling g mk a) (Vm.Alike.refl U.vm) qZ, nF.same rfl qN⟩, va_recv hK hP (ci := 9) (q0 := a) rfl (wld_o ct ad G y18.1 hc hk (by decide)), fun U hU hW => ⟨rfl, by rw [hU], by rw [hU]; exact hP, va_K.moved hW.alike hK, hD.weaken (fun _ _ _ _ => trivial), by rw [hU]; exact ((hZ.kept hS.2.1).narrow hf9).moved hW.alike, hN.warm hW⟩⟩ rfl rfl hl.1 rfl (lv_room (Nat.le_of_ble_eq_true rfl)) dX9_tokenTable_79 ⟨(Nat.zero_le _), (Nat.zero_le _)⟩) hS (fun q _ h => hf9 q h) hf9 (fun r u t H locs ht hvm hw hB hz1 hk1 hS => ?_)
      obtain ⟨hP, hK9, hD9⟩ := hB
      rw [ht] at hP
      try dsimp only at hw
      subst hw
      have hD := hD9.weaken (fun _ q _ h => hf9 q.1 h)
      refine lv_istore_n (lv' := [(3, .int y20.2), (0, .ref (ad a)), (1, .int p0), (2, .int p1)]) hx hb dX9_tokenTable_82 rfl hl (by decide) rfl (fun ls hl => ?_)
      refine lv_aload_n hx hb dX9_tokenTable_83 rfl (lv_at hl 1 rfl) ?_
      refine lv_aload_n hx hb dX9_tokenTable_84 rfl (lv_at hl 1 rfl) ?_
      refine lv_iload_n hx hb dX9_tokenTable_85 rfl (lv_at hl 2 rfl) ?_
      refine lv_iconst (v := (0 : Int32)) hx hb dX9_tokenTable_86 (by decide) ?_
      refine lv_iload_n hx hb dX9_tokenTable_87 rfl (lv_at hl 3 rfl) ?_
      refine lv_iconst (v := (4 : Int32)) hx hb dX9_tokenTable_88 (by decide) ?_
      refine lv_irem hx hb dX9_tokenTable_89 (by decide) ?_
      obtain ⟨x21, ex21, hF⟩ := ltt_some hF
      refine lv_topi (fun zx21 ezx21 => ?_)
      obtain rfl : x21 = zx21 := ex21.trans ezx21.symm
      refine lv_iconst (v := (2 : Int32)) hx hb dX9_tokenTable_90 (by decide) ?_
      obtain ⟨y22, hy22, hF⟩ := bnd_some hF
      have J22 : ∀ (H : Heap) (locs : List Loc) (ls : Array Slot), va_P D classes (wld ct ad G y20.1) H → va_D A (wld ct ad G y20.1) → va_S A s.heap H locs → lv_has ls 6 [(3, .int y20.2), (0, .ref (ad a)), (1, .int p0), (2, .int p1)] → W p l e (headSpec wuX9_tokenTable ({ frames := 1, cells := 0, slots := 0, locals := 28 })).room s m ([.ref (ad a), .int p0, .int p1] : List Value).toArray below meth c H locs 0 0 (MQ below (va_Qi (fun (q : Int32) (_ : Unit) => q = y.2) (fun _ t => kE D ct ad G A y.1 t) A) ([.ref (ad a), .int p0, .int p1] : List Value).toArray s 0 0 A) (F0 m 99 ls [.int y22, .int (0 : Int32), .int p0, .ref (ad a), .ref (ad a)]) := by
        intro H locs ls hP hD hS hl
        refine lv_bipush (v := (16 : Int32)) hx hb dX9_tokenTable_99 (by decide) ?_
        obtain ⟨y23, hy23, hF⟩ := bnd_some hF
        have hf9 := wA_in hD hA9 hS
        refine va_calli (va_runV (As := [.int p0, .int (0 : Int32), .int y22, .int (16 : Int32)]) (rest := [.ref (ad a)]) ⟨hx, hb, hml, hown, hts⟩ (kX9_pieceAt l D ct ad Z G y20.1 H.size a p0 ((0 : Int32)) y22 ((16 : Int32)) y23 hc hk hy23) (cwV 4 hts gX9_tokenTable_X9_pieceAt rfl rfl rfl (by decide +kernel) ⟨Nat.le_of_ble_eq_true rfl, Nat.le_of_ble_eq_true rfl⟩) ⟨fun a U g mk q => by obtain ⟨q0, q1, qP, qK, qD, qZ, qN⟩ := q; exact ⟨q0, q1, qP, va_K.moved (u := U) (U := U.calling g mk a) (Vm.Alike.refl U.vm) qK, qD, sF.moved (u := U) (U := U.calling g mk a) (Vm.Alike.refl U.vm) qZ, nF.same rfl qN⟩, va_recv hK hP (ci := 9) (q0 := a) rfl (wld_o ct ad G y20.1 hc hk (by decide)), fun U hU hW => ⟨rfl, by rw [hU], by rw [hU]; exact hP, va_K.moved hW.alike hK, hD.weaken (fun _ _ _ _ => trivial), by rw [hU]; exact ((hZ.kept hS.2.1).narrow hf9).moved hW.alike, hN.warm hW⟩⟩ rfl rfl hl.1 rfl (lv_room (Nat.le_of_ble_eq_true rfl)) dX9_tokenTable_101 ⟨(Nat.zero_le _), (Nat.zero_le _)⟩) hS (fun q _ h => hf9 q h) hf9 (fun r u t H locs ht hvm hw hB hz1 hk1 hS => ?_)
        obtain ⟨hP, hK9, hD9⟩ := hB
        rw [ht] at hP
        try dsimp only at hw
        subst hw
        have hD := hD9.weaken (fun _ q _ h => hf9 q.1 h)
        refine lv_iload_n hx hb dX9_tokenTable_104 rfl (lv_at hl 3 rfl) ?_
        refine lv_iconst (v := (2 : Int32)) hx hb dX9_tokenTable_105 (by decide) ?_
        refine lv_ixor hx hb dX9_tokenTable_106 ?_
        obtain ⟨x24, ex24, hF⟩ := ltt_some hF
        refine lv_topi (fun zx24 ezx24 => ?_)
        obtain rfl : x24 = zx24 := ex24.trans ezx24.symm
        obtain ⟨y25, hy25, hF⟩ := bnd_some hF
        have hf9 := wA_in hD hA9 hS
        refine va_calli (va_runV (As := [.int y23.2, .int x24]) (rest := []) ⟨hx, hb, hml, hown, hts⟩ (kX9_totalAt l D ct ad Z G y23.1 H.size a y23.2 x24 y25 hc hk hy25) (cwV 2 hts gX9_tokenTable_X9_totalAt rfl rfl rfl (by decide +kernel) ⟨Nat.le_of_ble_eq_true rfl, Nat.le_of_ble_eq_true rfl⟩) ⟨fun a U g mk q => by obtain ⟨q0, q1, qP, qK, qD, qZ, qN⟩ := q; exact ⟨q0, q1, qP, va_K.moved (u := U) (U := U.calling g mk a) (Vm.Alike.refl U.vm) qK, qD, sF.moved (u := U) (U := U.calling g mk a) (Vm.Alike.refl U.vm) qZ, nF.same rfl qN⟩, va_recv hK hP (ci := 9) (q0 := a) rfl (wld_o ct ad G y23.1 hc hk (by decide)), fun U hU hW => ⟨rfl, by rw [hU], by rw [hU]; exact hP, va_K.moved hW.alike hK, hD.weaken (fun _ _ _ _ => trivial), by rw [hU]; exact ((hZ.kept hS.2.1).narrow hf9).moved hW.alike, hN.warm hW⟩⟩ rfl rfl hl.1 rfl (lv_room (Nat.le_of_ble_eq_true rfl)) dX9_tokenTable_107 ⟨(Nat.zero_le _), (Nat.zero_le _)⟩) hS (fun q _ h => hf9 q h) hf9 (fun r u t H locs ht hvm hw hB hz1 hk1 hS => ?_)
        obtain ⟨hP, hK9, hD9⟩ := hB
        rw [ht] at hP
        try dsimp only at hw
        subst hw
        have hD := hD9.weaken (fun _ q _ h => hf9 q.1 h)
        refine lv_istore (lv' := [(4, .int y25.2), (3, .int y20.2), (0, .ref (ad a)), (1, .int p0), (2, .int p1)]) hx hb dX9_tokenTable_110 hl (by decide) rfl (fun ls hl => ?_)
        obtain rfl := Option.some.inj hF
        exact J1 _ _ _ hP hD hS (lv_sub hl [0, 1, 2, 3, 4] rfl)
      clear hF
      have hF := hy22
      clear hy22
      refine lv_icmp_ge (tgt := 98) hx hb dX9_tokenTable_91 (by decide) (fun c26 => ?_) (fun c26 => ?_)
      · rw [if_pos c26] at hF
        refine lv_iconst (v := (0 : Int32)) hx hb dX9_tokenTable_98 (by decide) ?_
        obtain rfl := Option.some.inj hF
        exact J22 _ _ _ hP hD hS (lv_sub hl [0, 1, 2, 3] rfl)
      · rw [if_neg c26] at hF
        refine lv_iconst (v := (-1 : Int32)) hx hb dX9_tokenTable_94 (by decide) ?_
        refine lv_goto (tgt := 99) hx hb dX9_tokenTable_95 (by decide) ?_
        obtain rfl := Option.some.inj hF
        exact J22 _ _ _ hP hD hS (lv_sub hl [0, 1, 2, 3] rfl)
    clear hF
    have hF := hy17
    clear hy17
    refine lv_if_ne (tgt := 69) hx hb dX9_tokenTable_62 (by decide) (fun c27 => ?_) (fun c27 => ?_)
    · rw [if_neg c27] at hF
      refine lv_iconst (v := (0 : Int32)) hx hb dX9_tokenTable_69 (by decide) ?_
      obtain rfl := Option.some.inj hF
      exact J17 _ _ _ hP hD hS (lv_sub hl [0, 1, 2] rfl)
    · rw [if_pos c27] at hF
      refine lv_iconst (v := (-1 : Int32)) hx hb dX9_tokenTable_65 (by decide) ?_
      refine lv_goto (tgt := 70) hx hb dX9_tokenTable_66 (by decide) ?_
      obtain rfl := Option.some.inj hF
      exact J17 _ _ _ hP hD hS (lv_sub hl [0, 1, 2] rfl)
  · rw [if_neg c15] at hF
    refine lv_aload_n hx hb dX9_tokenTable_6 rfl (lv_at hl 0 rfl) ?_
    refine lv_aload_n hx hb dX9_tokenTable_7 rfl (lv_at hl 0 rfl) ?_
    refine lv_iload_n hx hb dX9_tokenTable_8 rfl (lv_at hl 1 rfl) ?_
    refine lv_iload_n hx hb dX9_tokenTable_9 rfl (lv_at hl 2 rfl) ?_
    obtain ⟨y28, hy28, hF⟩ := bnd_some hF
    have hf9 := wA_in hD hA9 hS
    refine va_calli (va_runS (As := [.int p1]) (rest := [.int p0, .ref (ad a), .ref (ad a)]) ⟨hx, hb, hml, hown, hts⟩ (kX9_pieceX l D ct ad Z G M s.heap.size p1 y28 hy28) (va_cwS 1 hts gX9_tokenTable_X9_pieceX rfl rfl rfl (by decide +kernel) ⟨Nat.le_of_ble_eq_true rfl, Nat.le_of_ble_eq_true rfl⟩) ⟨fun a U g mk q => by obtain ⟨q0, q1, qP, qK, qD, qZ, qN⟩ := q; exact ⟨q0, q1, qP, va_K.moved (u := U) (U := U.calling g mk a) (Vm.Alike.refl U.vm) qK, qD, sF.moved (u := U) (U := U.calling g mk a) (Vm.Alike.refl U.vm) qZ, nF.same rfl qN⟩, fun U hU hW => ⟨rfl, by rw [hU], by rw [hU]; exact hP, va_K.moved hW.alike hK, hD.weaken (fun _ _ _ _ => trivial), by rw [hU]; exact ((hZ.kept hS.2.1).narrow hf9).moved hW.alike, hN.warm hW⟩⟩ rfl rfl hl.1 rfl (lv_room (Nat.le_of_ble_eq_true rfl)) dX9_tokenTable_10 ⟨(Nat.zero_le _), (Nat.zero_le _)⟩) hS (fun q _ h => hf9 q h) hf9 (fun r u t H locs ht hvm hw hB hz1 hk1 hS => ?_)
    obtain ⟨hP, hK9, hD9⟩ := hB
    rw [ht] at hP
    try dsimp only at hw
    subst hw
    have hD := hD9.weaken (fun _ q _ h => hf9 q.1 h)
    refine lv_iconst (v := (1 : Int32)) hx hb dX9_tokenTable_13 (by decide) ?_
    refine lv_isub hx hb dX9_tokenTable_14 ?_
    obtain ⟨x29, ex29, hF⟩ := ltt_some hF
    refine lv_topi (fun zx29 ezx29 => ?_)
    obtain rfl : x29 = zx29 := ex29.trans ezx29.symm
    refine lv_iload_n hx hb dX9_tokenTable_15 rfl (lv_at hl 2 rfl) ?_
    obtain ⟨y30, hy30, hF⟩ := bnd_some hF
    have hf9 := wA_in hD hA9 hS
    refine va_calli (va_runS (As := [.int p1]) (rest := [.int x29, .int p0, .ref (ad a), .ref (ad a)]) ⟨hx, hb, hml, hown, hts⟩ (kX9_pieceY l D ct ad Z G y28.1 H.size p1 y30 hy30) (va_cwS 1 hts gX9_tokenTable_X9_pieceY rfl rfl rfl (by decide +kernel) ⟨Nat.le_of_ble_eq_true rfl, Nat.le_of_ble_eq_true rfl⟩) ⟨fun a U g mk q => by obtain ⟨q0, q1, qP, qK, qD, qZ, qN⟩ := q; exact ⟨q0, q1, qP, va_K.moved (u := U) (U := U.calling g mk a) (Vm.Alike.refl U.vm) qK, qD, sF.moved (u := U) (U := U.calling g mk a) (Vm.Alike.refl U.vm) qZ, nF.same rfl qN⟩, fun U hU hW => ⟨rfl, by rw [hU], by rw [hU]; exact hP, va_K.moved hW.alike hK, hD.weaken (fun _ _ _ _ => trivial), by rw [hU]; exact ((hZ.kept hS.2.1).narrow hf9).moved hW.alike, hN.warm hW⟩⟩ rfl rfl hl.1 rfl (lv_room (Nat.le_of_ble_eq_true rfl)) dX9_tokenTable_16 ⟨(Nat.zero_le _), (Nat.zero_le _)⟩) hS (fun q _ h => hf9 q h) hf9 (fun r u t H locs ht hvm hw hB hz1 hk1 hS => ?_)
    obtain ⟨hP, hK9, hD9⟩ := hB
    rw [ht] at hP
    try dsimp only at hw
    subst hw
    have hD := hD9.weaken (fun _ q _ h => hf9 q.1 h)
    refine lv_bipush (v := (16 : Int32)) hx hb dX9_tokenTable_19 (by decide) ?_
    obtain ⟨y31, hy31, hF⟩ := bnd_some hF
    have hf9 := wA_in hD hA9 hS
    refine va_calli (va_runV (As := [.int p0, .int x29, .int y30.2, .int (16 : Int32)]) (rest := [.ref (ad a)]) ⟨hx, hb, hml, hown, hts⟩ (kX9_pieceAt l D ct ad Z G y30.1 H.size a p0 x29 y30.2 ((16 : Int32)) y31 hc hk hy31) (cwV 4 hts gX9_tokenTable_X9_pieceAt rfl rfl rfl (by decide +kernel) ⟨Nat.le_of_ble_eq_true rfl, Nat.le_of_ble_eq_true rfl⟩) ⟨fun a U g mk q => by obtain ⟨q0, q1, qP, qK, qD, qZ, qN⟩ := q; exact ⟨q0, q1, qP, va_K.moved (u := U) (U := U.calling g mk a) (Vm.Alike.refl U.vm) qK, qD, sF.moved (u := U) (U := U.calling g mk a) (Vm.Alike.refl U.vm) qZ, nF.same rfl qN⟩, va_recv hK hP (ci := 9) (q0 := a) rfl (wld_o ct ad G y30.1 hc hk (by decide)), fun U hU hW => ⟨rfl, by rw [hU], by rw [hU]; exact hP, va_K.moved hW.alike hK, hD.weaken (fun _ _ _ _ => trivial), by rw [hU]; exact ((hZ.kept hS.2.1).narrow hf9).moved hW.alike, hN.warm hW⟩⟩ rfl rfl hl.1 rfl (lv_room (Nat.le_of_ble_eq_true rfl)) dX9_tokenTable_21 ⟨(Nat.zero_le _), (Nat.zero_le _)⟩) hS (fun q _ h => hf9 q h) hf9 (fun r u t H locs ht hvm hw hB hz1 hk1 hS => ?_)
    obtain ⟨hP, hK9, hD9⟩ := hB
    rw [ht] at hP
    try dsimp only at hw
    subst hw
    have hD := hD9.weaken (fun _ q _ h => hf9 q.1 h)
    refine lv_iconst (v := (-1 : Int32)) hx hb dX9_tokenTable_24 (by decide) ?_
    obtain ⟨y32, hy32, hF⟩ := bnd_some hF
    have hf9 := wA_in hD hA9 hS
    refine va_calli (va_runV (As := [.int y31.2, .int (-1 : Int32)]) (rest := []) ⟨hx, hb, hml, hown, hts⟩ (kX9_totalAt l D ct ad Z G y31.1 H.size a y31.2 ((-1 : Int32)) y32 hc hk hy32) (cwV 2 hts gX9_tokenTable_X9_totalAt rfl rfl rfl (by decide +kernel) ⟨Nat.le_of_ble_eq_true rfl, Nat.le_of_ble_eq_true rfl⟩) ⟨fun a U g mk q => by obtain ⟨q0, q1, qP, qK, qD, qZ, qN⟩ := q; exact ⟨q0, q1, qP, va_K.moved (u := U) (U := U.calling g mk a) (Vm.Alike.refl U.vm) qK, qD, sF.moved (u := U) (U := U.calling g mk a) (Vm.Alike.refl U.vm) qZ, nF.same rfl qN⟩, va_recv hK hP (ci := 9) (q0 := a) rfl (wld_o ct ad G y31.1 hc hk (by decide)), fun U hU hW => ⟨rfl, by rw [hU], by rw [hU]; exact hP, va_K.moved hW.alike hK, hD.weaken (fun _ _ _ _ => trivial), by rw [hU]; exact ((hZ.kept hS.2.1).narrow hf9).moved hW.alike, hN.warm hW⟩⟩ rfl rfl hl.1 rfl (lv_room (Nat.le_of_ble_eq_true rfl)) dX9_tokenTable_25 ⟨(Nat.zero_le _), (Nat.zero_le _)⟩) hS (fun q _ h => hf9 q h) hf9 (fun r u t H locs ht hvm hw hB hz1 hk1 hS => ?_)
    obtain ⟨hP, hK9, hD9⟩ := hB
    rw [ht] at hP
    try dsimp only at hw
    subst hw
    have hD := hD9.weaken (fun _ q _ h => hf9 q.1 h)
    refine lv_istore_n (lv' := [(3, .int y32.2), (0, .ref (ad a)), (1, .int p0), (2, .int p1)]) hx hb dX9_tokenTable_28 rfl hl (by decide) rfl (fun ls hl => ?_)
    refine lv_aload_n hx hb dX9_tokenTable_29 rfl (lv_at hl 1 rfl) ?_
    refine lv_aload_n hx hb dX9_tokenTable_30 rfl (lv_at hl 1 rfl) ?_
    refine lv_iload_n hx hb dX9_tokenTable_31 rfl (lv_at hl 2 rfl) ?_
    refine lv_iload_n hx hb dX9_tokenTable_32 rfl (lv_at hl 3 rfl) ?_
    obtain ⟨y33, hy33, hF⟩ := bnd_some hF
    have hf9 := wA_in hD hA9 hS
    refine va_calli (va_runS (As := [.int p1]) (rest := [.int p0, .ref (ad a), .ref (ad a)]) ⟨hx, hb, hml, hown, hts⟩ (kX9_pieceX l D ct ad Z G y32.1 H.size p1 y33 hy33) (va_cwS 1 hts gX9_tokenTable_X9_pieceX rfl rfl rfl (by decide +kernel) ⟨Nat.le_of_ble_eq_true rfl, Nat.le_of_ble_eq_true rfl⟩) ⟨fun a U g mk q => by obtain ⟨q0, q1, qP, qK, qD, qZ, qN⟩ := q; exact ⟨q0, q1, qP, va_K.moved (u := U) (U := U.calling g mk a) (Vm.Alike.refl U.vm) qK, qD, sF.moved (u := U) (U := U.calling g mk a) (Vm.Alike.refl U.vm) qZ, nF.same rfl qN⟩, fun U hU hW => ⟨rfl, by rw [hU], by rw [hU]; exact hP, va_K.moved hW.alike hK, hD.weaken (fun _ _ _ _ => trivial), by rw [hU]; exact ((hZ.kept hS.2.1).narrow hf9).moved hW.alike, hN.warm hW⟩⟩ rfl rfl hl.1 rfl (lv_room (Nat.le_of_ble_eq_true rfl)) dX9_tokenTable_33 ⟨(Nat.zero_le _), (Nat.zero_le _)⟩) hS (fun q _ h => hf9 q h) hf9 (fun r u t H locs ht hvm hw hB hz1 hk1 hS => ?_)
    obtain ⟨hP, hK9, hD9⟩ := hB
    rw [ht] at hP
    try dsimp only at hw
    subst hw
    have hD := hD9.weaken (fun _ q _ h => hf9 q.1 h)
    refine lv_iload_n hx hb dX9_tokenTable_36 rfl (lv_at hl 3 rfl) ?_
    obtain ⟨y34, hy34, hF⟩ := bnd_some hF
    have hf9 := wA_in hD hA9 hS
    refine va_calli (va_runS (As := [.int p1]) (rest := [.int y33.2, .int p0, .ref (ad a), .ref (ad a)]) ⟨hx, hb, hml, hown, hts⟩ (kX9_pieceY l D ct ad Z G y33.1 H.size p1 y34 hy34) (va_cwS 1 hts gX9_tokenTable_X9_pieceY rfl rfl rfl (by decide +kernel) ⟨Nat.le_of_ble_eq_true rfl, Nat.le_of_ble_eq_true rfl⟩) ⟨fun a U g mk q => by obtain ⟨q0, q1, qP, qK, qD, qZ, qN⟩ := q; exact ⟨q0, q1, qP, va_K.moved (u := U) (U := U.calling g mk a) (Vm.Alike.refl U.vm) qK, qD, sF.moved (u := U) (U := U.calling g mk a) (Vm.Alike.refl U.vm) qZ, nF.same rfl qN⟩, fun U hU hW => ⟨rfl, by rw [hU], by rw [hU]; exact hP, va_K.moved hW.alike hK, hD.weaken (fun _ _ _ _ => trivial), by rw [hU]; exact ((hZ.kept hS.2.1).narrow hf9).moved hW.alike, hN.warm hW⟩⟩ rfl rfl hl.1 rfl (lv_room (Nat.le_of_ble_eq_true rfl)) dX9_tokenTable_37 ⟨(Nat.zero_le _), (Nat.zero_le _)⟩) hS (fun q _ h => hf9 q h) hf9 (fun r u t H locs ht hvm hw hB hz1 hk1 hS => ?_)
    obtain ⟨hP, hK9, hD9⟩ := hB
    rw [ht] at hP
    try dsimp only at hw
    subst hw
    have hD := hD9.weaken (fun _ q _ h => hf9 q.1 h)
    refine lv_iconst (v := (1 : Int32)) hx hb dX9_tokenTable_40 (by decide) ?_
    refine lv_isub hx hb dX9_tokenTable_41 ?_
    obtain ⟨x35, ex35, hF⟩ := ltt_some hF
    refine lv_topi (fun zx35 ezx35 => ?_)
    obtain rfl : x35 = zx35 := ex35.trans ezx35.symm
    refine lv_bipush (v := (16 : Int32)) hx hb dX9_tokenTable_42 (by decide) ?_
    obtain ⟨y36, hy36, hF⟩ := bnd_some hF
    have hf9 := wA_in hD hA9 hS
    refine va_calli (va_runV (As := [.int p0, .int y33.2, .int x35, .int (16 : Int32)]) (rest := [.ref (ad a)]) ⟨hx, hb, hml, hown, hts⟩ (kX9_pieceAt l D ct ad Z G y34.1 H.size a p0 y33.2 x35 ((16 : Int32)) y36 hc hk hy36) (cwV 4 hts gX9_tokenTable_X9_pieceAt rfl rfl rfl (by decide +kernel) ⟨Nat.le_of_ble_eq_true rfl, Nat.le_of_ble_eq_true rfl⟩) ⟨fun a U g mk q => by obtain ⟨q0, q1, qP, qK, qD, qZ, qN⟩ := q; exact ⟨q0, q1, qP, va_K.moved (u := U) (U := U.calling g mk a) (Vm.Alike.refl U.vm) qK, qD, sF.moved (u := U) (U := U.calling g mk a) (Vm.Alike.refl U.vm) qZ, nF.same rfl qN⟩, va_recv hK hP (ci := 9) (q0 := a) rfl (wld_o ct ad G y34.1 hc hk (by decide)), fun U hU hW => ⟨rfl, by rw [hU], by rw [hU]; exact hP, va_K.moved hW.alike hK, hD.weaken (fun _ _ _ _ => trivial), by rw [hU]; exact ((hZ.kept hS.2.1).narrow hf9).moved hW.alike, hN.warm hW⟩⟩ rfl rfl hl.1 rfl (lv_room (Nat.le_of_ble_eq_true rfl)) dX9_tokenTable_44 ⟨(Nat.zero_le _), (Nat.zero_le _)⟩) hS (fun q _ h => hf9 q h) hf9 (fun r u t H locs ht hvm hw hB hz1 hk1 hS => ?_)
    obtain ⟨hP, hK9, hD9⟩ := hB
    rw [ht] at hP
    try dsimp only at hw
    subst hw
    have hD := hD9.weaken (fun _ q _ h => hf9 q.1 h)
    refine lv_iconst (v := (-1 : Int32)) hx hb dX9_tokenTable_47 (by decide) ?_
    obtain ⟨y37, hy37, hF⟩ := bnd_some hF
    have hf9 := wA_in hD hA9 hS
    refine va_calli (va_runV (As := [.int y36.2, .int (-1 : Int32)]) (rest := []) ⟨hx, hb, hml, hown, hts⟩ (kX9_totalAt l D ct ad Z G y36.1 H.size a y36.2 ((-1 : Int32)) y37 hc hk hy37) (cwV 2 hts gX9_tokenTable_X9_totalAt rfl rfl rfl (by decide +kernel) ⟨Nat.le_of_ble_eq_true rfl, Nat.le_of_ble_eq_true rfl⟩) ⟨fun a U g mk q => by obtain ⟨q0, q1, qP, qK, qD, qZ, qN⟩ := q; exact ⟨q0, q1, qP, va_K.moved (u := U) (U := U.calling g mk a) (Vm.Alike.refl U.vm) qK, qD, sF.moved (u := U) (U := U.calling g mk a) (Vm.Alike.refl U.vm) qZ, nF.same rfl qN⟩, va_recv hK hP (ci := 9) (q0 := a) rfl (wld_o ct ad G y36.1 hc hk (by decide)), fun U hU hW => ⟨rfl, by rw [hU], by rw [hU]; exact hP, va_K.moved hW.alike hK, hD.weaken (fun _ _ _ _ => trivial), by rw [hU]; exact ((hZ.kept hS.2.1).narrow hf9).moved hW.alike, hN.warm hW⟩⟩ rfl rfl hl.1 rfl (lv_room (Nat.le_of_ble_eq_true rfl)) dX9_tokenTable_48 ⟨(Nat.zero_le _), (Nat.zero_le _)⟩) hS (fun q _ h => hf9 q h) hf9 (fun r u t H locs ht hvm hw hB hz1 hk1 hS => ?_)
    obtain ⟨hP, hK9, hD9⟩ := hB
    rw [ht] at hP
    try dsimp only at hw
    subst hw
    have hD := hD9.weaken (fun _ q _ h => hf9 q.1 h)
    refine lv_istore (lv' := [(4, .int y37.2), (3, .int y32.2), (0, .ref (ad a)), (1, .int p0), (2, .int p1)]) hx hb dX9_tokenTable_51 hl (by decide) rfl (fun ls hl => ?_)
    refine lv_goto (tgt := 112) hx hb dX9_tokenTable_53 (by decide) ?_
    obtain rfl := Option.some.inj hF
    exact J1 _ _ _ hP hD hS (lv_sub hl [0, 1, 2, 3, 4] rfl)
set_option maxRecDepth 20000 in
theorem gL_paint_X11_paint : GoodIn wuL_paint (wsV RL 29 RX11 yX11_paint wuX11_paint) := gu_V mw_2361 mw_2362 mw_2363 mw_166 mw_2364
theorem dL_paint_0 : decode cL_paint 0 = .ok (.aload 5, 2) := by decide +kernel
theorem dL_paint_2 : decode cL_paint 2 = .ok (.iconst 0, 1) := by decide +kernel
theorem dL_paint_3 : decode cL_paint 3 = .ok (.aload_n 0, 1) := by decide +kernel
theorem dL_paint_4 : decode cL_paint 4 = .ok (.iload_n 1, 1) := by decide +kernel
theorem dL_paint_5 : decode cL_paint 5 = .ok (.iload_n 2, 1) := by decide +kernel
theorem dL_paint_6 : decode cL_paint 6 = .ok (.iload_n 3, 1) := by decide +kernel
theorem dL_paint_7 : decode cL_paint 7 = .ok (.iload 4, 2) := by decide +kernel
theorem dL_paint_9 : decode cL_paint 9 = .ok (.invokevirtual 29, 3) := by decide +kernel
theorem dL_paint_12 : decode cL_paint 12 = .ok (.iastore, 1) := by decide +kernel
theorem dL_paint_13 : decode cL_paint 13 = .ok (.goto 11, 3) := by decide +kernel
theorem dL_paint_16 : decode cL_paint 16 = .ok (.astore 6, 2) := by decide +kernel
theorem dL_paint_18 : decode cL_paint 18 = .ok (.iconst 1, 1) := by decide +kernel
theorem dL_paint_19 : decode cL_paint 19 = .ok (.ireturn, 1) := by decide +kernel
theorem dL_paint_20 : decode cL_paint 20 = .ok (.astore 6, 2) := by decide +kernel
theorem dL_paint_22 : decode cL_paint 22 = .ok (.iconst 2, 1) := by decide +kernel
theorem dL_paint_23 : decode cL_paint 23 = .ok (.ireturn, 1) := by decide +kernel
theorem dL_paint_24 : decode cL_paint 24 = .ok (.iconst 0, 1) := by decide +kernel
theorem dL_paint_25 : decode cL_paint 25 = .ok (.ireturn, 1) := by decide +kernel
def FL_paint (G : GG) (M : DD) (p0 : Option Nat) (p1 : Int32) (p2 : Int32) (p3 : Int32) (p4 : Int32) (p5 : Option Nat) : Option (DD × Int32) :=
  dr G 11 p0 fun b2 =>
  bnd (FX11_paint G M b2 p1 p2 p3 p4) fun y3 =>
  dr G 13 p5 fun b4 =>
  chk (¬ (((0 : Int32)) < 0 ∨ G.2.2 b4 ≤ ((0 : Int32)).toNatClampNeg)) <|
  ltt (uI y3.1 b4 ((0 : Int32)).toNatClampNeg y3.2) fun M5 =>
  some (M5, (0 : Int32))
set_option maxHeartbeats 4000000 in
set_option maxRecDepth 100000 in
theorem kL_paint (l : Launch) (D : va_G) (ct : CT) (ad : Nat → Nat) (Z : Nat → Nat) (G : GG) (M : DD) (sz : Nat) (p0 : Option Nat) (p1 : Int32) (p2 : Int32) (p3 : Int32) (p4 : Int32) (p5 : Option Nat) (y : DD × Int32) (hF : FL_paint G M p0 p1 p2 p3 p4 p5 = some y) : Met l yL_paint wuL_paint ({ frames := 3, cells := 0, slots := 0, locals := 132 }) (va_Pc [va_re ad p0, .int p1, .int p2, .int p3, .int p4, va_re ad p5] (kB D ct ad Z G M sz)) (va_Qi (fun (q : Int32) (_ : Unit) => q = y.2) (fun _ t => kE D ct ad G (wA ad G sz) y.1 t) (wA ad G sz)) 0 0 (wA ad G sz) := by
  refine mt_ofWH (cc := cL_paint) (maxL := 7) (ret := (some .int)) (hh := [(0, 13, 16, 13), (0, 13, 20, 15)]) (by decide) rfl ?_
  intro p e s m args below meth c s₁ B hml hv
  obtain ⟨rfl, hsz, hP, hK, hD0, hZ, hN⟩ := hv
  have hx := B.exec
  have hb := B.bytes
  have hr := B.returns
  have hts := atoms_spec (ws := wuL_paint) B.pre
  have hown : s.vm.findClass RL = some m.cls := findClass_of_methodNamed B.named
  have hlocks := B.notSynchronized
  subst hsz
  have hD := wD_self (sz := s.heap.size) hD0
  have hA9 : ∀ q, s.heap.size ≤ q → wA ad G s.heap.size q := fun q h => Or.inr h
  generalize hAe : wA ad G s.heap.size = A at hD hA9 hZ ⊢
  have hS : va_S A s.heap s.heap [] := va_S.rf
  have hl := lv_entry ([va_re ad p0, .int p1, .int p2, .int p3, .int p4, va_re ad p5]) (n := 7) (by cases p0 <;> cases p5 <;> exact Nat.le_of_ble_eq_true rfl)
  rw [lg_entry_eq]
  generalize (lg_sl ([va_re ad p0, .int p1, .int p2, .int p3, .int p4, va_re ad p5]) ++ List.replicate (7 - (lg_sl ([va_re ad p0, .int p1, .int p2, .int p3, .int p4, va_re ad p5])).length) Slot.unset).toArray = ls at hl ⊢
  have hl : lv_has ls 7 [(0, va_re ad p0), (1, .int p1), (2, .int p2), (3, .int p3), (4, .int p4), (5, va_re ad p5)] := by have e9 : lv_args 0 [va_re ad p0, .int p1, .int p2, .int p3, .int p4, va_re ad p5] = [(0, va_re ad p0), (1, .int p1), (2, .int p2), (3, .int p3), (4, .int p4), (5, va_re ad p5)] := (by cases p0 <;> cases p5 <;> rfl); rw [e9] at hl; exact hl
  unfold FL_paint at hF
  refine lv_aloadq hx hb dL_paint_0 (lv_at hl 5 rfl) ?_
  refine lv_iconst (v := (0 : Int32)) hx hb dL_paint_2 (by decide) ?_
  refine lv_aloadq_n hx hb dL_paint_3 rfl (lv_at hl 0 rfl) ?_
  refine lv_iload_n hx hb dL_paint_4 rfl (lv_at hl 1 rfl) ?_
  refine lv_iload_n hx hb dL_paint_5 rfl (lv_at hl 2 rfl) ?_
  refine lv_iload_n hx hb dL_paint_6 rfl (lv_at hl 3 rfl) ?_
  refine lv_iload hx hb dL_paint_7 (lv_at hl 4 rfl) ?_
  obtain ⟨b2, ho2, hc2, hk2, hF⟩ := dr_some hF
  refine W_st (st' := [.int p4, .int p3, .int p2, .int p1, .ref (ad b2), .int (0 : Int32), va_re ad p5]) (by rw [va_some ho2]) ?_
  obtain ⟨y3, hy3, hF⟩ := bnd_some hF
  have hf9 := wA_in hD hA9 hS
  refine va_calli (va_runV (As := [.int p1, .int p2, .int p3, .int p4]) (rest := [.int (0 : Int32), va_re ad p5]) ⟨hx, hb, hml, hown, hts⟩ (kX11_paint l D ct ad Z G M s.heap.size b2 p1 p2 p3 p4 y3 hc2 hk2 hy3) (cwV 4 hts gL_paint_X11_paint rfl rfl rfl (by decide +kernel) ⟨Nat.le_of_ble_eq_true rfl, Nat.le_of_ble_eq_true rfl⟩) ⟨fun a U g mk q => by obtain ⟨q0, q1, qP, qK, qD, qZ, qN⟩ := q; exact ⟨q0, q1, qP, va_K.moved (u := U) (U := U.calling g mk a) (Vm.Alike.refl U.vm) qK, qD, sF.moved (u := U) (U := U.calling g mk a) (Vm.Alike.refl U.vm) qZ, nF.same rfl qN⟩, va_recv hK hP (ci := 11) (q0 := b2) rfl (wld_o ct ad G M hc2 hk2 (by decide)), fun U hU hW => ⟨rfl, by rw [hU], by rw [hU]; exact hP, va_K.moved hW.alike hK, hD.weaken (fun _ _ _ _ => trivial), by rw [hU]; exact ((hZ.kept hS.2.1).narrow hf9).moved hW.alike, hN.warm hW⟩⟩ rfl rfl hl.1 rfl (lv_room (by simp only [List.map, va_re_cat]; exact Nat.le_of_ble_eq_true rfl)) dL_paint_9 ⟨(Nat.zero_le _), (Nat.zero_le _)⟩) hS (fun q _ h => hf9 q h) hf9 (fun r u t H locs ht hvm hw hB hz1 hk1 hS => ?_)
  obtain ⟨hP, hK9, hD9⟩ := hB
  rw [ht] at hP
  try dsimp only at hw
  subst hw
  have hD := hD9.weaken (fun _ q _ h => hf9 q.1 h)
  obtain ⟨b4, ho4, hc4, hk4, hF⟩ := dr_some hF
  refine W_st (st' := [.int y3.2, .int (0 : Int32), .ref (ad b4)]) (by rw [va_some ho4]) ?_
  obtain ⟨hvc, hF⟩ := chk_some hF
  refine va_iast hx hb hK hP hD hS b4 1 (wld_i ct ad G y3.1 hc4 hk4) rfl hvc dL_paint_12 (fun H locs hP hD hS => ?_)
  obtain ⟨M5, eM5, hF⟩ := ltt_some hF
  rw [set_i ct ad G y3.1 hc4 hk4, ← eM5] at hP hD
  refine lv_goto (tgt := 24) hx hb dL_paint_13 (by decide) ?_
  refine lv_iconst (v := (0 : Int32)) hx hb dL_paint_24 (by decide) ?_
  obtain rfl := Option.some.inj hF
  exact W.iret (v := (0 : Int32)) hx hb hr (fun t ht hW => ⟨⟨_, (), rfl, rfl, ⟨by rw [ht]; exact hP, va_K.moved hW.alike hK, hD⟩⟩, hS.F ht⟩) hS.2.2 dL_paint_25
set_option maxRecDepth 20000 in
theorem gL_picture_X11_picture : GoodIn wuL_picture (wsV RL 17 RX11 yX11_picture wuX11_picture) := gu_V mw_2294 mw_2295 mw_2296 mw_166 mw_2297
theorem dL_picture_0 : decode cL_picture 0 = .ok (.aload_n 3, 1) := by decide +kernel
theorem dL_picture_1 : decode cL_picture 1 = .ok (.iconst 0, 1) := by decide +kernel
theorem dL_picture_2 : decode cL_picture 2 = .ok (.aload_n 0, 1) := by decide +kernel
theorem dL_picture_3 : decode cL_picture 3 = .ok (.iload_n 1, 1) := by decide +kernel
theorem dL_picture_4 : decode cL_picture 4 = .ok (.iload_n 2, 1) := by decide +kernel
theorem dL_picture_5 : decode cL_picture 5 = .ok (.invokevirtual 17, 3) := by decide +kernel
theorem dL_picture_8 : decode cL_picture 8 = .ok (.iastore, 1) := by decide +kernel
theorem dL_picture_9 : decode cL_picture 9 = .ok (.goto 11, 3) := by decide +kernel
theorem dL_picture_12 : decode cL_picture 12 = .ok (.astore 4, 2) := by decide +kernel
theorem dL_picture_14 : decode cL_picture 14 = .ok (.iconst 1, 1) := by decide +kernel
theorem dL_picture_15 : decode cL_picture 15 = .ok (.ireturn, 1) := by decide +kernel
theorem dL_picture_16 : decode cL_picture 16 = .ok (.astore 4, 2) := by decide +kernel
theorem dL_picture_18 : decode cL_picture 18 = .ok (.iconst 2, 1) := by decide +kernel
theorem dL_picture_19 : decode cL_picture 19 = .ok (.ireturn, 1) := by decide +kernel
theorem dL_picture_20 : decode cL_picture 20 = .ok (.iconst 0, 1) := by decide +kernel
theorem dL_picture_21 : decode cL_picture 21 = .ok (.ireturn, 1) := by decide +kernel
def FL_picture (G : GG) (M : DD) (p0 : Option Nat) (p1 : Int32) (p2 : Int32) (p3 : Option Nat) : Option (DD × Int32) :=
  dr G 11 p0 fun b2 =>
  bnd (FX11_picture G M b2 p1 p2) fun y3 =>
  dr G 13 p3 fun b4 =>
  chk (¬ (((0 : Int32)) < 0 ∨ G.2.2 b4 ≤ ((0 : Int32)).toNatClampNeg)) <|
  ltt (uI y3.1 b4 ((0 : Int32)).toNatClampNeg y3.2) fun M5 =>
  some (M5, (0 : Int32))
set_option maxHeartbeats 4000000 in
set_option maxRecDepth 100000 in
theorem kL_picture (l : Launch) (D : va_G) (ct : CT) (ad : Nat → Nat) (Z : Nat → Nat) (G : GG) (M : DD) (sz : Nat) (p0 : Option Nat) (p1 : Int32) (p2 : Int32) (p3 : Option Nat) (y : DD × Int32) (hF : FL_picture G M p0 p1 p2 p3 = some y) : Met l yL_picture wuL_picture ({ frames := 2, cells := 0, slots := 0, locals := 44 }) (va_Pc [va_re ad p0, .int p1, .int p2, va_re ad p3] (kB D ct ad Z G M sz)) (va_Qi (fun (q : Int32) (_ : Unit) => q = y.2) (fun _ t => kE D ct ad G (wA ad G sz) y.1 t) (wA ad G sz)) 0 0 (wA ad G sz) := by
  refine mt_ofWH (cc := cL_picture) (maxL := 5) (ret := (some .int)) (hh := [(0, 9, 12, 13), (0, 9, 16, 21)]) (by decide) rfl ?_
  intro p e s m args below meth c s₁ B hml hv
  obtain ⟨rfl, hsz, hP, hK, hD0, hZ, hN⟩ := hv
  have hx := B.exec
  have hb := B.bytes
  have hr := B.returns
  have hts := atoms_spec (ws := wuL_picture) B.pre
  have hown : s.vm.findClass RL = some m.cls := findClass_of_methodNamed B.named
  have hlocks := B.notSynchronized
  subst hsz
  have hD := wD_self (sz := s.heap.size) hD0
  have hA9 : ∀ q, s.heap.size ≤ q → wA ad G s.heap.size q := fun q h => Or.inr h
  generalize hAe : wA ad G s.heap.size = A at hD hA9 hZ ⊢
  have hS : va_S A s.heap s.heap [] := va_S.rf
  have hl := lv_entry ([va_re ad p0, .int p1, .int p2, va_re ad p3]) (n := 5) (by cases p0 <;> cases p3 <;> exact Nat.le_of_ble_eq_true rfl)
  rw [lg_entry_eq]
  generalize (lg_sl ([va_re ad p0, .int p1, .int p2, va_re ad p3]) ++ List.replicate (5 - (lg_sl ([va_re ad p0, .int p1, .int p2, va_re ad p3])).length) Slot.unset).toArray = ls at hl ⊢
  have hl : lv_has ls 5 [(0, va_re ad p0), (1, .int p1), (2, .int p2), (3, va_re ad p3)] := by have e9 : lv_args 0 [va_re ad p0, .int p1, .int p2, va_re ad p3] = [(0, va_re ad p0), (1, .int p1), (2, .int p2), (3, va_re ad p3)] := (by cases p0 <;> cases p3 <;> rfl); rw [e9] at hl; exact hl
  unfold FL_picture at hF
  refine lv_aloadq_n hx hb dL_picture_0 rfl (lv_at hl 3 rfl) ?_
  refine lv_iconst (v := (0 : Int32)) hx hb dL_picture_1 (by decide) ?_
  refine lv_aloadq_n hx hb dL_picture_2 rfl (lv_at hl 0 rfl) ?_
  refine lv_iload_n hx hb dL_picture_3 rfl (lv_at hl 1 rfl) ?_
  refine lv_iload_n hx hb dL_picture_4 rfl (lv_at hl 2 rfl) ?_
  obtain ⟨b2, ho2, hc2, hk2, hF⟩ := dr_some hF
  refine W_st (st' := [.int p2, .int p1, .ref (ad b2), .int (0 : Int32), va_re ad p3]) (by rw [va_some ho2]) ?_
  obtain ⟨y3, hy3, hF⟩ := bnd_some hF
  have hf9 := wA_in hD hA9 hS
  refine va_calli (va_runV (As := [.int p1, .int p2]) (rest := [.int (0 : Int32), va_re ad p3]) ⟨hx, hb, hml, hown, hts⟩ (kX11_picture l D ct ad Z G M s.heap.size b2 p1 p2 y3 hc2 hk2 hy3) (cwV 2 hts gL_picture_X11_picture rfl rfl rfl (by decide +kernel) ⟨Nat.le_of_ble_eq_true rfl, Nat.le_of_ble_eq_true rfl⟩) ⟨fun a U g mk q => by obtain ⟨q0, q1, qP, qK, qD, qZ, qN⟩ := q; exact ⟨q0, q1, qP, va_K.moved (u := U) (U := U.calling g mk a) (Vm.Alike.refl U.vm) qK, qD, sF.moved (u := U) (U := U.calling g mk a) (Vm.Alike.refl U.vm) qZ, nF.same rfl qN⟩, va_recv hK hP (ci := 11) (q0 := b2) rfl (wld_o ct ad G M hc2 hk2 (by decide)), fun U hU hW => ⟨rfl, by rw [hU], by rw [hU]; exact hP, va_K.moved hW.alike hK, hD.weaken (fun _ _ _ _ => trivial), by rw [hU]; exact ((hZ.kept hS.2.1).narrow hf9).moved hW.alike, hN.warm hW⟩⟩ rfl rfl hl.1 rfl (lv_room (by simp only [List.map, va_re_cat]; exact Nat.le_of_ble_eq_true rfl)) dL_picture_5 ⟨(Nat.zero_le _), (Nat.zero_le _)⟩) hS (fun q _ h => hf9 q h) hf9 (fun r u t H locs ht hvm hw hB hz1 hk1 hS => ?_)
  obtain ⟨hP, hK9, hD9⟩ := hB
  rw [ht] at hP
  try dsimp only at hw
  subst hw
  have hD := hD9.weaken (fun _ q _ h => hf9 q.1 h)
  obtain ⟨b4, ho4, hc4, hk4, hF⟩ := dr_some hF
  refine W_st (st' := [.int y3.2, .int (0 : Int32), .ref (ad b4)]) (by rw [va_some ho4]) ?_
  obtain ⟨hvc, hF⟩ := chk_some hF
  refine va_iast hx hb hK hP hD hS b4 1 (wld_i ct ad G y3.1 hc4 hk4) rfl hvc dL_picture_8 (fun H locs hP hD hS => ?_)
  obtain ⟨M5, eM5, hF⟩ := ltt_some hF
  rw [set_i ct ad G y3.1 hc4 hk4, ← eM5] at hP hD
  refine lv_goto (tgt := 20) hx hb dL_picture_9 (by decide) ?_
  refine lv_iconst (v := (0 : Int32)) hx hb dL_picture_20 (by decide) ?_
  obtain rfl := Option.some.inj hF
  exact W.iret (v := (0 : Int32)) hx hb hr (fun t ht hW => ⟨⟨_, (), rfl, rfl, ⟨by rw [ht]; exact hP, va_K.moved hW.alike hK, hD⟩⟩, hS.F ht⟩) hS.2.2 dL_picture_21
set_option maxRecDepth 20000 in
theorem gX0_beginPicture_J7_fill_53178 : GoodIn wuX0_beginPicture (va_wsS RX0 144 yJ7_fill_53178 wuJ7_fill_53178) := gu_S mw_1124 mw_1125 mw_182 mw_1126
set_option maxRecDepth 20000 in
set_option maxRecDepth 20000 in
theorem gX0_beginPicture_X7_fresh : GoodIn wuX0_beginPicture (wsV RX0 262 RX7 yX7_fresh wuX7_fresh) := gu_V mw_2440 mw_1410 mw_1411 mw_170 mw_1412
set_option maxRecDepth 20000 in
theorem gX0_beginPicture_X7_shorts : GoodIn wuX0_beginPicture (wsV RX0 258 RX7 yX7_shorts wuX7_shorts) := gu_V mw_2436 mw_2437 mw_2438 mw_170 mw_2439
set_option maxRecDepth 20000 in
theorem dX0_beginPicture_0 : decode cX0_beginPicture 0 = .ok (.aload_n 0, 1) := by decide +kernel
theorem dX0_beginPicture_1 : decode cX0_beginPicture 1 = .ok (.getfield 104, 3) := by decide +kernel
theorem dX0_beginPicture_4 : decode cX0_beginPicture 4 = .ok (.aload_n 0, 1) := by decide +kernel
theorem dX0_beginPicture_5 : decode cX0_beginPicture 5 = .ok (.getfield 100, 3) := by decide +kernel
theorem dX0_beginPicture_8 : decode cX0_beginPicture 8 = .ok (.isub, 1) := by decide +kernel
theorem dX0_beginPicture_9 : decode cX0_beginPicture 9 = .ok (.iload_n 1, 1) := by decide +kernel
theorem dX0_beginPicture_10 : decode cX0_beginPicture 10 = .ok (.iadd, 1) := by decide +kernel
theorem dX0_beginPicture_11 : decode cX0_beginPicture 11 = .ok (.istore_n 3, 1) := by decide +kernel
theorem dX0_beginPicture_12 : decode cX0_beginPicture 12 = .ok (.iload_n 2, 1) := by decide +kernel
theorem dX0_beginPicture_13 : decode cX0_beginPicture 13 = .ok (.iconst 2, 1) := by decide +kernel
theorem dX0_beginPicture_14 : decode cX0_beginPicture 14 = .ok (.if_icmp .ne 7, 3) := by decide +kernel
theorem dX0_beginPicture_17 : decode cX0_beginPicture 17 = .ok (.iconst 1, 1) := by decide +kernel
theorem dX0_beginPicture_18 : decode cX0_beginPicture 18 = .ok (.goto 4, 3) := by decide +kernel
theorem dX0_beginPicture_21 : decode cX0_beginPicture 21 = .ok (.iconst 0, 1) := by decide +kernel
theorem dX0_beginPicture_22 : decode cX0_beginPicture 22 = .ok (.istore 4, 2) := by decide +kernel
theorem dX0_beginPicture_24 : decode cX0_beginPicture 24 = .ok (.aload_n 0, 1) := by decide +kernel
theorem dX0_beginPicture_25 : decode cX0_beginPicture 25 = .ok (.getfield 36, 3) := by decide +kernel
theorem dX0_beginPicture_28 : decode cX0_beginPicture 28 = .ok (.getfield 81, 3) := by decide +kernel
theorem dX0_beginPicture_31 : decode cX0_beginPicture 31 = .ok (.getfield 252, 3) := by decide +kernel
theorem dX0_beginPicture_34 : decode cX0_beginPicture 34 = .ok (.astore 5, 2) := by decide +kernel
theorem dX0_beginPicture_36 : decode cX0_beginPicture 36 = .ok (.aload 5, 2) := by decide +kernel
theorem dX0_beginPicture_38 : decode cX0_beginPicture 38 = .ok (.iconst 0, 1) := by decide +kernel
theorem dX0_beginPicture_39 : decode cX0_beginPicture 39 = .ok (.invokestatic 144, 3) := by decide +kernel
theorem dX0_beginPicture_42 : decode cX0_beginPicture 42 = .ok (.aload_n 0, 1) := by decide +kernel
theorem dX0_beginPicture_43 : decode cX0_beginPicture 43 = .ok (.iload 4, 2) := by decide +kernel
theorem dX0_beginPicture_45 : decode cX0_beginPicture 45 = .ok (.ifCond .eq 7, 3) := by decide +kernel
theorem dX0_beginPicture_48 : decode cX0_beginPicture 48 = .ok (.iload_n 3, 1) := by decide +kernel
theorem dX0_beginPicture_49 : decode cX0_beginPicture 49 = .ok (.goto 7, 3) := by decide +kernel
theorem dX0_beginPicture_52 : decode cX0_beginPicture 52 = .ok (.aload_n 0, 1) := by decide +kernel
theorem dX0_beginPicture_53 : decode cX0_beginPicture 53 = .ok (.getfield 107, 3) := by decide +kernel
theorem dX0_beginPicture_56 : decode cX0_beginPicture 56 = .ok (.putfield 107, 3) := by decide +kernel
theorem dX0_beginPicture_59 : decode cX0_beginPicture 59 = .ok (.aload 5, 2) := by decide +kernel
theorem dX0_beginPicture_61 : decode cX0_beginPicture 61 = .ok (.bipush 18, 2) := by decide +kernel
theorem dX0_beginPicture_63 : decode cX0_beginPicture 63 = .ok (.iload 4, 2) := by decide +kernel
theorem dX0_beginPicture_65 : decode cX0_beginPicture 65 = .ok (.ifCond .eq 7, 3) := by decide +kernel
theorem dX0_beginPicture_68 : decode cX0_beginPicture 68 = .ok (.iconst 5, 1) := by decide +kernel
theorem dX0_beginPicture_69 : decode cX0_beginPicture 69 = .ok (.goto 4, 3) := by decide +kernel
theorem dX0_beginPicture_72 : decode cX0_beginPicture 72 = .ok (.iconst 1, 1) := by decide +kernel
theorem dX0_beginPicture_73 : decode cX0_beginPicture 73 = .ok (.iastore, 1) := by decide +kernel
theorem dX0_beginPicture_74 : decode cX0_beginPicture 74 = .ok (.aload 5, 2) := by decide +kernel
theorem dX0_beginPicture_76 : decode cX0_beginPicture 76 = .ok (.iconst 1, 1) := by decide +kernel
theorem dX0_beginPicture_77 : decode cX0_beginPicture 77 = .ok (.iload_n 2, 1) := by decide +kernel
theorem dX0_beginPicture_78 : decode cX0_beginPicture 78 = .ok (.iastore, 1) := by decide +kernel
theorem dX0_beginPicture_79 : decode cX0_beginPicture 79 = .ok (.aload 5, 2) := by decide +kernel
theorem dX0_beginPicture_81 : decode cX0_beginPicture 81 = .ok (.bipush 11, 2) := by decide +kernel
theorem dX0_beginPicture_83 : decode cX0_beginPicture 83 = .ok (.iload_n 2, 1) := by decide +kernel
theorem dX0_beginPicture_84 : decode cX0_beginPicture 84 = .ok (.iconst 1, 1) := by decide +kernel
theorem dX0_beginPicture_85 : decode cX0_beginPicture 85 = .ok (.if_icmp .ne 7, 3) := by decide +kernel
theorem dX0_beginPicture_88 : decode cX0_beginPicture 88 = .ok (.iconst 0, 1) := by decide +kernel
theorem dX0_beginPicture_89 : decode cX0_beginPicture 89 = .ok (.goto 4, 3) := by decide +kernel
theorem dX0_beginPicture_92 : decode cX0_beginPicture 92 = .ok (.iconst 1, 1) := by decide +kernel
theorem dX0_beginPicture_93 : decode cX0_beginPicture 93 = .ok (.iastore, 1) := by decide +kernel
theorem dX0_beginPicture_94 : decode cX0_beginPicture 94 = .ok (.aload 5, 2) := by decide +kernel
theorem dX0_beginPicture_96 : decode cX0_beginPicture 96 = .ok (.iconst 3, 1) := by decide +kernel
theorem dX0_beginPicture_97 : decode cX0_beginPicture 97 = .ok (.iload 4, 2) := by decide +kernel
theorem dX0_beginPicture_99 : decode cX0_beginPicture 99 = .ok (.ifCond .eq 7, 3) := by decide +kernel
theorem dX0_beginPicture_102 : decode cX0_beginPicture 102 = .ok (.iconst 0, 1) := by decide +kernel
theorem dX0_beginPicture_103 : decode cX0_beginPicture 103 = .ok (.goto 16, 3) := by decide +kernel
theorem dX0_beginPicture_106 : decode cX0_beginPicture 106 = .ok (.aload_n 0, 1) := by decide +kernel
theorem dX0_beginPicture_107 : decode cX0_beginPicture 107 = .ok (.getfield 57, 3) := by decide +kernel
theorem dX0_beginPicture_110 : decode cX0_beginPicture 110 = .ok (.getfield 255, 3) := by decide +kernel
theorem dX0_beginPicture_113 : decode cX0_beginPicture 113 = .ok (.iconst 1, 1) := by decide +kernel
theorem dX0_beginPicture_114 : decode cX0_beginPicture 114 = .ok (.iadd, 1) := by decide +kernel
theorem dX0_beginPicture_115 : decode cX0_beginPicture 115 = .ok (.sipush 256, 3) := by decide +kernel
theorem dX0_beginPicture_118 : decode cX0_beginPicture 118 = .ok (.irem, 1) := by decide +kernel
theorem dX0_beginPicture_119 : decode cX0_beginPicture 119 = .ok (.iastore, 1) := by decide +kernel
theorem dX0_beginPicture_120 : decode cX0_beginPicture 120 = .ok (.aload 5, 2) := by decide +kernel
theorem dX0_beginPicture_122 : decode cX0_beginPicture 122 = .ok (.bipush 17, 2) := by decide +kernel
theorem dX0_beginPicture_124 : decode cX0_beginPicture 124 = .ok (.iconst 2, 1) := by decide +kernel
theorem dX0_beginPicture_125 : decode cX0_beginPicture 125 = .ok (.iload_n 3, 1) := by decide +kernel
theorem dX0_beginPicture_126 : decode cX0_beginPicture 126 = .ok (.aload_n 0, 1) := by decide +kernel
theorem dX0_beginPicture_127 : decode cX0_beginPicture 127 = .ok (.getfield 107, 3) := by decide +kernel
theorem dX0_beginPicture_130 : decode cX0_beginPicture 130 = .ok (.isub, 1) := by decide +kernel
theorem dX0_beginPicture_131 : decode cX0_beginPicture 131 = .ok (.imul, 1) := by decide +kernel
theorem dX0_beginPicture_132 : decode cX0_beginPicture 132 = .ok (.iastore, 1) := by decide +kernel
theorem dX0_beginPicture_133 : decode cX0_beginPicture 133 = .ok (.aload 5, 2) := by decide +kernel
theorem dX0_beginPicture_135 : decode cX0_beginPicture 135 = .ok (.iconst 5, 1) := by decide +kernel
theorem dX0_beginPicture_136 : decode cX0_beginPicture 136 = .ok (.aload_n 0, 1) := by decide +kernel
theorem dX0_beginPicture_137 : decode cX0_beginPicture 137 = .ok (.getfield 23, 3) := by decide +kernel
theorem dX0_beginPicture_140 : decode cX0_beginPicture 140 = .ok (.bipush 18, 2) := by decide +kernel
theorem dX0_beginPicture_142 : decode cX0_beginPicture 142 = .ok (.iaload, 1) := by decide +kernel
theorem dX0_beginPicture_143 : decode cX0_beginPicture 143 = .ok (.ifCond .ne 15, 3) := by decide +kernel
theorem dX0_beginPicture_146 : decode cX0_beginPicture 146 = .ok (.aload 5, 2) := by decide +kernel
theorem dX0_beginPicture_148 : decode cX0_beginPicture 148 = .ok (.bipush 17, 2) := by decide +kernel
theorem dX0_beginPicture_150 : decode cX0_beginPicture 150 = .ok (.iaload, 1) := by decide +kernel
theorem dX0_beginPicture_151 : decode cX0_beginPicture 151 = .ok (.sipush 255, 3) := by decide +kernel
theorem dX0_beginPicture_154 : decode cX0_beginPicture 154 = .ok (.iand, 1) := by decide +kernel
theorem dX0_beginPicture_155 : decode cX0_beginPicture 155 = .ok (.goto 4, 3) := by decide +kernel
theorem dX0_beginPicture_158 : decode cX0_beginPicture 158 = .ok (.iconst 0, 1) := by decide +kernel
theorem dX0_beginPicture_159 : decode cX0_beginPicture 159 = .ok (.iastore, 1) := by decide +kernel
theorem dX0_beginPicture_160 : decode cX0_beginPicture 160 = .ok (.aload 5, 2) := by decide +kernel
theorem dX0_beginPicture_162 : decode cX0_beginPicture 162 = .ok (.bipush 8, 2) := by decide +kernel
theorem dX0_beginPicture_164 : decode cX0_beginPicture 164 = .ok (.aload_n 0, 1) := by decide +kernel
theorem dX0_beginPicture_165 : decode cX0_beginPicture 165 = .ok (.getfield 23, 3) := by decide +kernel
theorem dX0_beginPicture_168 : decode cX0_beginPicture 168 = .ok (.bipush 22, 2) := by decide +kernel
theorem dX0_beginPicture_170 : decode cX0_beginPicture 170 = .ok (.iaload, 1) := by decide +kernel
theorem dX0_beginPicture_171 : decode cX0_beginPicture 171 = .ok (.iastore, 1) := by decide +kernel
theorem dX0_beginPicture_172 : decode cX0_beginPicture 172 = .ok (.aload 5, 2) := by decide +kernel
theorem dX0_beginPicture_174 : decode cX0_beginPicture 174 = .ok (.bipush 13, 2) := by decide +kernel
theorem dX0_beginPicture_176 : decode cX0_beginPicture 176 = .ok (.aload_n 0, 1) := by decide +kernel
theorem dX0_beginPicture_177 : decode cX0_beginPicture 177 = .ok (.getfield 23, 3) := by decide +kernel
theorem dX0_beginPicture_180 : decode cX0_beginPicture 180 = .ok (.bipush 13, 2) := by decide +kernel
theorem dX0_beginPicture_182 : decode cX0_beginPicture 182 = .ok (.iaload, 1) := by decide +kernel
theorem dX0_beginPicture_183 : decode cX0_beginPicture 183 = .ok (.iastore, 1) := by decide +kernel
theorem dX0_beginPicture_184 : decode cX0_beginPicture 184 = .ok (.aload 5, 2) := by decide +kernel
theorem dX0_beginPicture_186 : decode cX0_beginPicture 186 = .ok (.bipush 14, 2) := by decide +kernel
theorem dX0_beginPicture_188 : decode cX0_beginPicture 188 = .ok (.aload_n 0, 1) := by decide +kernel
theorem dX0_beginPicture_189 : decode cX0_beginPicture 189 = .ok (.getfield 23, 3) := by decide +kernel
theorem dX0_beginPicture_192 : decode cX0_beginPicture 192 = .ok (.bipush 13, 2) := by decide +kernel
theorem dX0_beginPicture_194 : decode cX0_beginPicture 194 = .ok (.iaload, 1) := by decide +kernel
theorem dX0_beginPicture_195 : decode cX0_beginPicture 195 = .ok (.iconst 1, 1) := by decide +kernel
theorem dX0_beginPicture_196 : decode cX0_beginPicture 196 = .ok (.if_icmp .ne 7, 3) := by decide +kernel
theorem dX0_beginPicture_199 : decode cX0_beginPicture 199 = .ok (.iconst 0, 1) := by decide +kernel
theorem dX0_beginPicture_200 : decode cX0_beginPicture 200 = .ok (.goto 10, 3) := by decide +kernel
theorem dX0_beginPicture_203 : decode cX0_beginPicture 203 = .ok (.aload_n 0, 1) := by decide +kernel
theorem dX0_beginPicture_204 : decode cX0_beginPicture 204 = .ok (.getfield 23, 3) := by decide +kernel
theorem dX0_beginPicture_207 : decode cX0_beginPicture 207 = .ok (.bipush 14, 2) := by decide +kernel
theorem dX0_beginPicture_209 : decode cX0_beginPicture 209 = .ok (.iaload, 1) := by decide +kernel
theorem dX0_beginPicture_210 : decode cX0_beginPicture 210 = .ok (.iastore, 1) := by decide +kernel
theorem dX0_beginPicture_211 : decode cX0_beginPicture 211 = .ok (.aload 5, 2) := by decide +kernel
theorem dX0_beginPicture_213 : decode cX0_beginPicture 213 = .ok (.bipush 15, 2) := by decide +kernel
theorem dX0_beginPicture_215 : decode cX0_beginPicture 215 = .ok (.aload_n 0, 1) := by decide +kernel
theorem dX0_beginPicture_216 : decode cX0_beginPicture 216 = .ok (.getfield 23, 3) := by decide +kernel
theorem dX0_beginPicture_219 : decode cX0_beginPicture 219 = .ok (.bipush 13, 2) := by decide +kernel
theorem dX0_beginPicture_221 : decode cX0_beginPicture 221 = .ok (.iaload, 1) := by decide +kernel
theorem dX0_beginPicture_222 : decode cX0_beginPicture 222 = .ok (.iconst 1, 1) := by decide +kernel
theorem dX0_beginPicture_223 : decode cX0_beginPicture 223 = .ok (.if_icmp .ne 7, 3) := by decide +kernel
theorem dX0_beginPicture_226 : decode cX0_beginPicture 226 = .ok (.iconst 0, 1) := by decide +kernel
theorem dX0_beginPicture_227 : decode cX0_beginPicture 227 = .ok (.goto 10, 3) := by decide +kernel
theorem dX0_beginPicture_230 : decode cX0_beginPicture 230 = .ok (.aload_n 0, 1) := by decide +kernel
theorem dX0_beginPicture_231 : decode cX0_beginPicture 231 = .ok (.getfield 23, 3) := by decide +kernel
theorem dX0_beginPicture_234 : decode cX0_beginPicture 234 = .ok (.bipush 15, 2) := by decide +kernel
theorem dX0_beginPicture_236 : decode cX0_beginPicture 236 = .ok (.iaload, 1) := by decide +kernel
theorem dX0_beginPicture_237 : decode cX0_beginPicture 237 = .ok (.iastore, 1) := by decide +kernel
theorem dX0_beginPicture_238 : decode cX0_beginPicture 238 = .ok (.iload 4, 2) := by decide +kernel
theorem dX0_beginPicture_240 : decode cX0_beginPicture 240 = .ok (.ifCond .eq 24, 3) := by decide +kernel
theorem dX0_beginPicture_243 : decode cX0_beginPicture 243 = .ok (.aload 5, 2) := by decide +kernel
theorem dX0_beginPicture_245 : decode cX0_beginPicture 245 = .ok (.iconst 4, 1) := by decide +kernel
theorem dX0_beginPicture_246 : decode cX0_beginPicture 246 = .ok (.aload_n 0, 1) := by decide +kernel
theorem dX0_beginPicture_247 : decode cX0_beginPicture 247 = .ok (.getfield 110, 3) := by decide +kernel
theorem dX0_beginPicture_250 : decode cX0_beginPicture 250 = .ok (.iastore, 1) := by decide +kernel
theorem dX0_beginPicture_251 : decode cX0_beginPicture 251 = .ok (.aload_n 0, 1) := by decide +kernel
theorem dX0_beginPicture_252 : decode cX0_beginPicture 252 = .ok (.iconst 1, 1) := by decide +kernel
theorem dX0_beginPicture_253 : decode cX0_beginPicture 253 = .ok (.aload_n 0, 1) := by decide +kernel
theorem dX0_beginPicture_254 : decode cX0_beginPicture 254 = .ok (.getfield 110, 3) := by decide +kernel
theorem dX0_beginPicture_257 : decode cX0_beginPicture 257 = .ok (.isub, 1) := by decide +kernel
theorem dX0_beginPicture_258 : decode cX0_beginPicture 258 = .ok (.putfield 110, 3) := by decide +kernel
theorem dX0_beginPicture_261 : decode cX0_beginPicture 261 = .ok (.goto 56, 3) := by decide +kernel
theorem dX0_beginPicture_264 : decode cX0_beginPicture 264 = .ok (.aload_n 0, 1) := by decide +kernel
theorem dX0_beginPicture_265 : decode cX0_beginPicture 265 = .ok (.getfield 57, 3) := by decide +kernel
theorem dX0_beginPicture_268 : decode cX0_beginPicture 268 = .ok (.invokevirtual 258, 3) := by decide +kernel
theorem dX0_beginPicture_271 : decode cX0_beginPicture 271 = .ok (.istore 6, 2) := by decide +kernel
theorem dX0_beginPicture_273 : decode cX0_beginPicture 273 = .ok (.aload 5, 2) := by decide +kernel
theorem dX0_beginPicture_275 : decode cX0_beginPicture 275 = .ok (.bipush 9, 2) := by decide +kernel
theorem dX0_beginPicture_277 : decode cX0_beginPicture 277 = .ok (.iload 6, 2) := by decide +kernel
theorem dX0_beginPicture_279 : decode cX0_beginPicture 279 = .ok (.aload_n 0, 1) := by decide +kernel
theorem dX0_beginPicture_280 : decode cX0_beginPicture 280 = .ok (.getfield 23, 3) := by decide +kernel
theorem dX0_beginPicture_283 : decode cX0_beginPicture 283 = .ok (.bipush 7, 2) := by decide +kernel
theorem dX0_beginPicture_285 : decode cX0_beginPicture 285 = .ok (.iaload, 1) := by decide +kernel
theorem dX0_beginPicture_286 : decode cX0_beginPicture 286 = .ok (.if_icmp .ge 8, 3) := by decide +kernel
theorem dX0_beginPicture_289 : decode cX0_beginPicture 289 = .ok (.iload 6, 2) := by decide +kernel
theorem dX0_beginPicture_291 : decode cX0_beginPicture 291 = .ok (.goto 10, 3) := by decide +kernel
theorem dX0_beginPicture_294 : decode cX0_beginPicture 294 = .ok (.aload_n 0, 1) := by decide +kernel
theorem dX0_beginPicture_295 : decode cX0_beginPicture 295 = .ok (.getfield 23, 3) := by decide +kernel
theorem dX0_beginPicture_298 : decode cX0_beginPicture 298 = .ok (.bipush 7, 2) := by decide +kernel
theorem dX0_beginPicture_300 : decode cX0_beginPicture 300 = .ok (.iaload, 1) := by decide +kernel
theorem dX0_beginPicture_301 : decode cX0_beginPicture 301 = .ok (.iastore, 1) := by decide +kernel
theorem dX0_beginPicture_302 : decode cX0_beginPicture 302 = .ok (.aload 5, 2) := by decide +kernel
theorem dX0_beginPicture_304 : decode cX0_beginPicture 304 = .ok (.bipush 10, 2) := by decide +kernel
theorem dX0_beginPicture_306 : decode cX0_beginPicture 306 = .ok (.iload_n 2, 1) := by decide +kernel
theorem dX0_beginPicture_307 : decode cX0_beginPicture 307 = .ok (.iconst 1, 1) := by decide +kernel
theorem dX0_beginPicture_308 : decode cX0_beginPicture 308 = .ok (.if_icmp .ne 7, 3) := by decide +kernel
theorem dX0_beginPicture_311 : decode cX0_beginPicture 311 = .ok (.iconst 1, 1) := by decide +kernel
theorem dX0_beginPicture_312 : decode cX0_beginPicture 312 = .ok (.goto 4, 3) := by decide +kernel
theorem dX0_beginPicture_315 : decode cX0_beginPicture 315 = .ok (.iconst 0, 1) := by decide +kernel
theorem dX0_beginPicture_316 : decode cX0_beginPicture 316 = .ok (.iastore, 1) := by decide +kernel
theorem dX0_beginPicture_317 : decode cX0_beginPicture 317 = .ok (.iconst 0, 1) := by decide +kernel
theorem dX0_beginPicture_318 : decode cX0_beginPicture 318 = .ok (.istore 6, 2) := by decide +kernel
theorem dX0_beginPicture_320 : decode cX0_beginPicture 320 = .ok (.iload 6, 2) := by decide +kernel
theorem dX0_beginPicture_322 : decode cX0_beginPicture 322 = .ok (.iconst 3, 1) := by decide +kernel
theorem dX0_beginPicture_323 : decode cX0_beginPicture 323 = .ok (.if_icmp .ge 27, 3) := by decide +kernel
theorem dX0_beginPicture_326 : decode cX0_beginPicture 326 = .ok (.aload_n 0, 1) := by decide +kernel
theorem dX0_beginPicture_327 : decode cX0_beginPicture 327 = .ok (.getfield 69, 3) := by decide +kernel
theorem dX0_beginPicture_330 : decode cX0_beginPicture 330 = .ok (.iload 6, 2) := by decide +kernel
theorem dX0_beginPicture_332 : decode cX0_beginPicture 332 = .ok (.aload_n 0, 1) := by decide +kernel
theorem dX0_beginPicture_333 : decode cX0_beginPicture 333 = .ok (.getfield 66, 3) := by decide +kernel
theorem dX0_beginPicture_336 : decode cX0_beginPicture 336 = .ok (.iconst 3, 1) := by decide +kernel
theorem dX0_beginPicture_337 : decode cX0_beginPicture 337 = .ok (.iload_n 1, 1) := by decide +kernel
theorem dX0_beginPicture_338 : decode cX0_beginPicture 338 = .ok (.imul, 1) := by decide +kernel
theorem dX0_beginPicture_339 : decode cX0_beginPicture 339 = .ok (.iload 6, 2) := by decide +kernel
theorem dX0_beginPicture_341 : decode cX0_beginPicture 341 = .ok (.iadd, 1) := by decide +kernel
theorem dX0_beginPicture_342 : decode cX0_beginPicture 342 = .ok (.aaload, 1) := by decide +kernel
theorem dX0_beginPicture_343 : decode cX0_beginPicture 343 = .ok (.aastore, 1) := by decide +kernel
theorem dX0_beginPicture_344 : decode cX0_beginPicture 344 = .ok (.iinc 6 1, 3) := by decide +kernel
theorem dX0_beginPicture_347 : decode cX0_beginPicture 347 = .ok (.goto (-27), 3) := by decide +kernel
theorem dX0_beginPicture_350 : decode cX0_beginPicture 350 = .ok (.aload_n 0, 1) := by decide +kernel
theorem dX0_beginPicture_351 : decode cX0_beginPicture 351 = .ok (.getfield 36, 3) := by decide +kernel
theorem dX0_beginPicture_354 : decode cX0_beginPicture 354 = .ok (.aload_n 0, 1) := by decide +kernel
theorem dX0_beginPicture_355 : decode cX0_beginPicture 355 = .ok (.getfield 57, 3) := by decide +kernel
theorem dX0_beginPicture_358 : decode cX0_beginPicture 358 = .ok (.aload_n 0, 1) := by decide +kernel
theorem dX0_beginPicture_359 : decode cX0_beginPicture 359 = .ok (.getfield 23, 3) := by decide +kernel
theorem dX0_beginPicture_362 : decode cX0_beginPicture 362 = .ok (.iconst 0, 1) := by decide +kernel
theorem dX0_beginPicture_363 : decode cX0_beginPicture 363 = .ok (.iaload, 1) := by decide +kernel
theorem dX0_beginPicture_364 : decode cX0_beginPicture 364 = .ok (.aload_n 0, 1) := by decide +kernel
theorem dX0_beginPicture_365 : decode cX0_beginPicture 365 = .ok (.getfield 23, 3) := by decide +kernel
theorem dX0_beginPicture_368 : decode cX0_beginPicture 368 = .ok (.iconst 1, 1) := by decide +kernel
theorem dX0_beginPicture_369 : decode cX0_beginPicture 369 = .ok (.iaload, 1) := by decide +kernel
theorem dX0_beginPicture_370 : decode cX0_beginPicture 370 = .ok (.invokevirtual 262, 3) := by decide +kernel
theorem dX0_beginPicture_373 : decode cX0_beginPicture 373 = .ok (.putfield 266, 3) := by decide +kernel
theorem dX0_beginPicture_376 : decode cX0_beginPicture 376 = .ok (.aload_n 0, 1) := by decide +kernel
theorem dX0_beginPicture_377 : decode cX0_beginPicture 377 = .ok (.getfield 36, 3) := by decide +kernel
theorem dX0_beginPicture_380 : decode cX0_beginPicture 380 = .ok (.getfield 266, 3) := by decide +kernel
theorem dX0_beginPicture_383 : decode cX0_beginPicture 383 = .ok (.aload 5, 2) := by decide +kernel
theorem dX0_beginPicture_385 : decode cX0_beginPicture 385 = .ok (.iconst 3, 1) := by decide +kernel
theorem dX0_beginPicture_386 : decode cX0_beginPicture 386 = .ok (.iaload, 1) := by decide +kernel
theorem dX0_beginPicture_387 : decode cX0_beginPicture 387 = .ok (.putfield 270, 3) := by decide +kernel
theorem dX0_beginPicture_390 : decode cX0_beginPicture 390 = .ok (.aload_n 0, 1) := by decide +kernel
theorem dX0_beginPicture_391 : decode cX0_beginPicture 391 = .ok (.getfield 36, 3) := by decide +kernel
theorem dX0_beginPicture_394 : decode cX0_beginPicture 394 = .ok (.getfield 266, 3) := by decide +kernel
theorem dX0_beginPicture_397 : decode cX0_beginPicture 397 = .ok (.aload 5, 2) := by decide +kernel
theorem dX0_beginPicture_399 : decode cX0_beginPicture 399 = .ok (.bipush 17, 2) := by decide +kernel
theorem dX0_beginPicture_401 : decode cX0_beginPicture 401 = .ok (.iaload, 1) := by decide +kernel
theorem dX0_beginPicture_402 : decode cX0_beginPicture 402 = .ok (.putfield 275, 3) := by decide +kernel
theorem dX0_beginPicture_405 : decode cX0_beginPicture 405 = .ok (.return_, 1) := by decide +kernel
noncomputable def FX0_beginPicture (G : GG) (M : DD) (a : Nat) (p0 : Int32) (p1 : Int32) : Option (NN × DD) :=
  ltt (M.1 a 11) fun x1 =>
  ltt (M.1 a 10) fun x2 =>
  ltt ((x1 - x2)) fun x3 =>
  ltt ((x3 + p0)) fun x4 =>
  bnd (if p1 = ((2 : Int32)) then (some ((1 : Int32))) else
  (some ((0 : Int32)))) fun (y5 : Int32) =>
  dr (xt G []) 9 ((M.2 a 3)) fun b6 =>
  dr (xt G []) 3 ((M.2 b6 1)) fun b7 =>
  bnd (FJ7_fill_53178 (xt G []) M ((M.2 b7 0)) ((0 : Int32))) fun y8 =>
  bnd (if y5 = ((0 : Int32)) then (ltt (y8.1 a 12) fun x107 =>
  some (x107)) else
  (some (x4))) fun (y9 : Int32) =>
  ltt (uI y8 a 12 y9) fun M10 =>
  bnd (if y5 = ((0 : Int32)) then (some ((1 : Int32))) else
  (some ((5 : Int32)))) fun (y11 : Int32) =>
  dr (xt G []) 13 ((M.2 b7 0)) fun b12 =>
  chk (¬ (((18 : Int32)) < 0 ∨ (xt G []).2.2 b12 ≤ ((18 : Int32)).toNatClampNeg)) <|
  ltt (uI M10 b12 ((18 : Int32)).toNatClampNeg y11) fun M13 =>
  chk (¬ (((1 : Int32)) < 0 ∨ (xt G []).2.2 b12 ≤ ((1 : Int32)).toNatClampNeg)) <|
  ltt (uI M13 b12 ((1 : Int32)).toNatClampNeg p1) fun M14 =>
  bnd (if p1 = ((1 : Int32)) then (some ((0 : Int32))) else
  (some ((1 : Int32)))) fun (y15 : Int32) =>
  chk (¬ (((11 : Int32)) < 0 ∨ (xt G []).2.2 b12 ≤ ((11 : Int32)).toNatClampNeg)) <|
  ltt (uI M14 b12 ((11 : Int32)).toNatClampNeg y15) fun M16 =>
  bnd (if y5 = ((0 : Int32)) then (dr (xt G []) 7 ((M16.2 a 6)) fun b100 =>
  ltt (M16.1 b100 5) fun x101 =>
  ltt ((x101 + ((1 : Int32)))) fun x102 =>
  ltt (x102 - x102 / ((256 : Int32)) * ((256 : Int32))) fun x103 =>
  some (x103)) else
  (some ((0 : Int32)))) fun (y17 : Int32) =>
  chk (¬ (((3 : Int32)) < 0 ∨ (xt G []).2.2 b12 ≤ ((3 : Int32)).toNatClampNeg)) <|
  ltt (uI M16 b12 ((3 : Int32)).toNatClampNeg y17) fun M18 =>
  ltt (M18.1 a 12) fun x19 =>
  ltt ((x4 - x19)) fun x20 =>
  ltt ((((2 : Int32)) * x20)) fun x21 =>
  chk (¬ (((17 : Int32)) < 0 ∨ (xt G []).2.2 b12 ≤ ((17 : Int32)).toNatClampNeg)) <|
  ltt (uI M18 b12 ((17 : Int32)).toNatClampNeg x21) fun M22 =>
  dr (xt G []) 13 ((M22.2 a 1)) fun b23 =>
  chk (¬ (((18 : Int32)) < 0 ∨ (xt G []).2.2 b23 ≤ ((18 : Int32)).toNatClampNeg)) <|
  ltt (M22.1 b23 ((18 : Int32)).toNatClampNeg) fun x24 =>
  bnd (if x24 = ((0 : Int32)) then (chk (¬ (((17 : Int32)) < 0 ∨ (xt G []).2.2 b12 ≤ ((17 : Int32)).toNatClampNeg)) <|
  ltt (M22.1 b12 ((17 : Int32)).toNatClampNeg) fun x97 =>
  ltt ((x97 &&& ((255 : Int32)))) fun x98 =>
  some (x98)) else
  (some ((0 : Int32)))) fun (y25 : Int32) =>
  chk (¬ (((5 : Int32)) < 0 ∨ (xt G []).2.2 b12 ≤ ((5 : Int32)).toNatClampNeg)) <|
  ltt (uI M22 b12 ((5 : Int32)).toNatClampNeg y25) fun M26 =>
  dr (xt G []) 13 ((M26.2 a 1)) fun b27 =>
  chk (¬ (((22 : Int32)) < 0 ∨ (xt G []).2.2 b27 ≤ ((22 : Int32)).toNatClampNeg)) <|
  ltt (M26.1 b27 ((22 : Int32)).toNatClampNeg) fun x28 =>
  chk (¬ (((8 : Int32)) < 0 ∨ (xt G []).2.2 b12 ≤ ((8 : Int32)).toNatClampNeg)) <|
  ltt (uI M26 b12 ((8 : Int32)).toNatClampNeg x28) fun M29 =>
  dr (xt G []) 13 ((M29.2 a 1)) fun b30 =>
  chk (¬ (((13 : Int32)) < 0 ∨ (xt G []).2.2 b30 ≤ ((13 : Int32)).toNatClampNeg)) <|
  ltt (M29.1 b30 ((13 : Int32)).toNatClampNeg) fun x31 =>
  chk (¬ (((13 : Int32)) < 0 ∨ (xt G []).2.2 b12 ≤ ((13 : Int32)).toNatClampNeg)) <|
  ltt (uI M29 b12 ((13 : Int32)).toNatClampNeg x31) fun M32 =>
  dr (xt G []) 13 ((M32.2 a 1)) fun b33 =>
  chk (¬ (((13 : Int32)) < 0 ∨ (xt G []).2.2 b33 ≤ ((13 : Int32)).toNatClampNeg)) <|
  ltt (M32.1 b33 ((13 : Int32)).toNatClampNeg) fun x34 =>
  bnd (if x34 = ((1 : Int32)) then (some ((0 : Int32))) else
  (chk (¬ (((14 : Int32)) < 0 ∨ (xt G []).2.2 b33 ≤ ((14 : Int32)).toNatClampNeg)) <|
  ltt (M32.1 b33 ((14 : Int32)).toNatClampNeg) fun x95 =>
  some (x95))) fun (y35 : Int32) =>
  chk (¬ (((14 : Int32)) < 0 ∨ (xt G []).2.2 b12 ≤ ((14 : Int32)).toNatClampNeg)) <|
  ltt (uI M32 b12 ((14 : Int32)).toNatClampNeg y35) fun M36 =>
  dr (xt G []) 13 ((M36.2 a 1)) fun b37 =>
  chk (¬ (((13 : Int32)) < 0 ∨ (xt G []).2.2 b37 ≤ ((13 : Int32)).toNatClampNeg)) <|
  ltt (M36.1 b37 ((13 : Int32)).toNatClampNeg) fun x38 =>
  bnd (if x38 = ((1 : Int32)) then (some ((0 : Int32))) else
  (chk (¬ (((15 : Int32)) < 0 ∨ (xt G []).2.2 b37 ≤ ((15 : Int32)).toNatClampNeg)) <|
  ltt (M36.1 b37 ((15 : Int32)).toNatClampNeg) fun x93 =>
  some (x93))) fun (y39 : Int32) =>
  chk (¬ (((15 : Int32)) < 0 ∨ (xt G []).2.2 b12 ≤ ((15 : Int32)).toNatClampNeg)) <|
  ltt (uI M36 b12 ((15 : Int32)).toNatClampNeg y39) fun M40 =>
  bnd (if y5 = ((0 : Int32)) then (dr (xt G []) 7 ((M40.2 a 6)) fun b76 =>
  bnd (FX7_shorts (xt G []) M40 b76) fun y77 =>
  dr (xt G []) 13 ((y77.1.2 a 1)) fun b78 =>
  chk (¬ (((7 : Int32)) < 0 ∨ (xt G []).2.2 b78 ≤ ((7 : Int32)).toNatClampNeg)) <|
  ltt (y77.1.1 b78 ((7 : Int32)).toNatClampNeg) fun x79 =>
  bnd (if x79 ≤ y77.2 then (chk (¬ (((7 : Int32)) < 0 ∨ (xt G []).2.2 b78 ≤ ((7 : Int32)).toNatClampNeg)) <|
  ltt (y77.1.1 b78 ((7 : Int32)).toNatClampNeg) fun x86 =>
  some (x86)) else
  (some (y77.2))) fun (y80 : Int32) =>
  chk (¬ (((9 : Int32)) < 0 ∨ (xt G []).2.2 b12 ≤ ((9 : Int32)).toNatClampNeg)) <|
  ltt (uI y77.1 b12 ((9 : Int32)).toNatClampNeg y80) fun M81 =>
  bnd (if p1 = ((1 : Int32)) then (some ((1 : Int32))) else
  (some ((0 : Int32)))) fun (y82 : Int32) =>
  chk (¬ (((10 : Int32)) < 0 ∨ (xt G []).2.2 b12 ≤ ((10 : Int32)).toNatClampNeg)) <|
  ltt (uI M81 b12 ((10 : Int32)).toNatClampNeg y82) fun M83 =>
  some (M83)) else
  (ltt (M40.1 a 13) fun x87 =>
  chk (¬ (((4 : Int32)) < 0 ∨ (xt G []).2.2 b12 ≤ ((4 : Int32)).toNatClampNeg)) <|
  ltt (uI M40 b12 ((4 : Int32)).toNatClampNeg x87) fun M88 =>
  ltt (M88.1 a 13) fun x89 =>
  ltt ((((1 : Int32)) - x89)) fun x90 =>
  ltt (uI M88 a 13 x90) fun M91 =>
  some (M91))) fun (y41 : DD) =>
  bnd (itr (fun (s43 : Int32 × DD) => ((if ((3 : Int32)) ≤ s43.1 then (some (.inr (s43.1, s43.2))) else
  (ltt ((((3 : Int32)) * p0)) fun x68 =>
  ltt ((x68 + s43.1)) fun x69 =>
  dr (xt G []) 15 ((s43.2.2 a 8)) fun b70 =>
  chk (¬ (x69 < 0 ∨ (xt G []).2.2 b70 ≤ x69.toNatClampNeg)) <|
  dr (xt G []) 15 ((s43.2.2 a 9)) fun b71 =>
  dr (xt G []) 13 ((s43.2.2 b70 x69.toNatClampNeg)) fun b72 =>
  chk (¬ (s43.1 < 0 ∨ (xt G []).2.2 b71 ≤ s43.1.toNatClampNeg)) <|
  ltt (uP s43.2 b71 s43.1.toNatClampNeg (some b72)) fun M73 =>
  ltt (s43.1 + (1 : Int32)) fun x74 =>
  some (.inl (x74, M73)))) : Option ((Int32 × DD) ⊕ (Int32 × DD)))) 1000000 ((0 : Int32), y41)) fun (y42 : Int32 × DD) =>
  dr (xt G []) 13 ((y42.2.2 a 1)) fun b45 =>
  chk (¬ (((0 : Int32)) < 0 ∨ (xt G []).2.2 b45 ≤ ((0 : Int32)).toNatClampNeg)) <|
  ltt (y42.2.1 b45 ((0 : Int32)).toNatClampNeg) fun x46 =>
  chk (¬ (((1 : Int32)) < 0 ∨ (xt G []).2.2 b45 ≤ ((1 : Int32)).toNatClampNeg)) <|
  ltt (y42.2.1 b45 ((1 : Int32)).toNatClampNeg) fun x47 =>
  dr (xt G []) 7 ((y42.2.2 a 6)) fun b48 =>
  chk (okd (xt G []) ((M.2 b7 0)) = true) <|
  chk (okd (xt G []) ((y42.2.2 a 3)) = true) <|
  bnd (FX7_fresh (xt G []) y42.2 b48 x46 x47) fun y49 =>
  app y49.1 <|
  ltt ([] ++ y49.1) fun L53 =>
  dr (xt G L53) 9 ((y42.2.2 a 3)) fun b56 =>
  ltt (uP y49.2.1 b56 0 y49.2.2) fun M57 =>
  dr (xt G L53) 9 ((M57.2 a 3)) fun b58 =>
  chk (¬ (((3 : Int32)) < 0 ∨ (xt G L53).2.2 b12 ≤ ((3 : Int32)).toNatClampNeg)) <|
  ltt (M57.1 b12 ((3 : Int32)).toNatClampNeg) fun x59 =>
  dr (xt G L53) 4 ((M57.2 b58 0)) fun b60 =>
  ltt (uI M57 b60 8 x59) fun M61 =>
  dr (xt G L53) 9 ((M61.2 a 3)) fun b62 =>
  chk (¬ (((17 : Int32)) < 0 ∨ (xt G L53).2.2 b12 ≤ ((17 : Int32)).toNatClampNeg)) <|
  ltt (M61.1 b12 ((17 : Int32)).toNatClampNeg) fun x63 =>
  dr (xt G L53) 4 ((M61.2 b62 0)) fun b64 =>
  ltt (uI M61 b64 9 x63) fun M65 =>
  some ([], M65)
set_option maxHeartbeats 4000000 in
set_option maxRecDepth 100000 in
theorem kX0_beginPicture (l : Launch) (D : va_G) (ct : CT) (ad : Nat → Nat) (Z : Nat → Nat) (G : GG) (M : DD) (sz : Nat) (a : Nat) (p0 : Int32) (p1 : Int32) (y : NN × DD) (hc : a < G.1) (hk : G.2.1 a = 0) (hF : FX0_beginPicture G M a p0 p1 = some y) : Met l yX0_beginPicture wuX0_beginPicture ({ frames := 3, cells := y.1.length, slots := wt y.1, locals := 72 }) (va_Pc [.ref (ad a), .int p0, .int p1] (kB D ct ad Z G M sz)) (va_Qv (fun (u : Nat → Nat) => agr G.1 ad u) (fun u t => kE D ct u (xt G y.1) (wA ad G sz) y.2 t) (wA ad G sz)) y.1.length (wt y.1) (wA ad G sz) := by
  refine Met.ofW (cc := cX0_beginPicture) (maxL := 7) (ret := none) (by decide) rfl ?_
  intro p e s m args below meth c s₁ B hml hv
  obtain ⟨rfl, hsz, hP, hK, hD0, hZ, hN⟩ := hv
  have hx := B.exec
  have hb := B.bytes
  have hr := B.returns
  have hts := atoms_spec (ws := wuX0_beginPicture) B.pre
  have hown : s.vm.findClass RX0 = some m.cls := findClass_of_methodNamed B.named
  have hlocks := B.notSynchronized
  subst hsz
  have hD := wD_self (sz := s.heap.size) hD0
  have hA9 : ∀ q, s.heap.size ≤ q → wA ad G s.heap.size q := fun q h => Or.inr h
  generalize hAe : wA ad G s.heap.size = A at hD hA9 hZ ⊢
  have hS : va_S A s.heap s.heap [] := va_S.rf
  have hl := lv_entry ([.ref (ad a), .int p0, .int p1]) (n := 7) (Nat.le_of_ble_eq_true rfl)
  rw [lg_entry_eq]
  generalize (lg_sl ([.ref (ad a), .int p0, .int p1]) ++ List.replicate (7 - (lg_sl ([.ref (ad a), .int p0, .int p1])).length) Slot.unset).toArray = ls at hl ⊢
  have hl : lv_has ls 7 [(0, .ref (ad a)), (1, .int p0), (2, .int p1)] := hl
  unfold FX0_beginPicture at hF
  rw [← wld_0 ct ad G M] at hP hD
  have hk := xt_k0 hc hk
  have hc := xt_l0 hc
  have hag := agr_rf G.1 ad
  obtain ⟨w0, hw0⟩ : ∃ z, z = y := ⟨_, rfl⟩
  rw [← hw0] at hF
  have hT : y.1 = [] ++ w0.1 := by rw [hw0]; rfl
  have h2 : y.2 = w0.2 := by rw [hw0]
  have hbl : y.1.length ≤ y.1.length ∧ wt y.1 ≤ wt y.1 := ⟨Nat.le_refl _, Nat.le_refl _⟩
  refine lv_aload_n hx hb dX0_beginPicture_0 rfl (lv_at hl 0 rfl) ?_
  refine va_get (D := D) (ci := 0) (v := .int (M.1 a 11)) (C := RX0) (T := TX0) (N := 21) hx hb hts (mus hf_X0) hown hK hP a (wld_o ct ad (xt G []) M hc hk (by decide)) rfl 11 (by decide) (hts (.fieldLink RX0 104 "VideoSuite$Coder" "come" "I") (mu mw_826)) (fun _ h9 => h9) rfl dX0_beginPicture_1 ?_
  obtain ⟨x1, ex1, hF⟩ := ltt_some hF
  refine lv_topi (fun zx1 ezx1 => ?_)
  obtain rfl : x1 = zx1 := ex1.trans ezx1.symm
  refine lv_aload_n hx hb dX0_beginPicture_4 rfl (lv_at hl 0 rfl) ?_
  refine va_get (D := D) (ci := 0) (v := .int (M.1 a 10)) (C := RX0) (T := TX0) (N := 21) hx hb hts (mus hf_X0) hown hK hP a (wld_o ct ad (xt G []) M hc hk (by decide)) rfl 10 (by decide) (hts (.fieldLink RX0 100 "VideoSuite$Coder" "waiting" "I") (mu mw_824)) (fun _ h9 => h9) rfl dX0_beginPicture_5 ?_
  obtain ⟨x2, ex2, hF⟩ := ltt_some hF
  refine lv_topi (fun zx2 ezx2 => ?_)
  obtain rfl : x2 = zx2 := ex2.trans ezx2.symm
  refine lv_isub hx hb dX0_beginPicture_8 ?_
  obtain ⟨x3, ex3, hF⟩ := ltt_some hF
  refine lv_topi (fun zx3 ezx3 => ?_)
  obtain rfl : x3 = zx3 := ex3.trans ezx3.symm
  refine lv_iload_n hx hb dX0_beginPicture_9 rfl (lv_at hl 1 rfl) ?_
  refine lv_iadd hx hb dX0_beginPicture_10 ?_
  obtain ⟨x4, ex4, hF⟩ := ltt_some hF
  refine lv_topi (fun zx4 ezx4 => ?_)
  obtain rfl : x4 = zx4 := ex4.trans ezx4.symm
  refine lv_istore_n (lv' := [(3, .int x4), (0, .ref (ad a)), (1, .int p0), (2, .int p1)]) hx hb dX0_beginPicture_11 rfl hl (by decide) rfl (fun ls hl => ?_)
  refine lv_iload_n hx hb dX0_beginPicture_12 rfl (lv_at hl 3 rfl) ?_
  refine lv_iconst (v := (2 : Int32)) hx hb dX0_beginPicture_13 (by decide) ?_
  obtain ⟨y5, hy5, hF⟩ := bnd_some hF
  have J5 : ∀ (H : Heap) (locs : List Loc) (ls : Array Slot), va_P D classes (wld ct ad (xt G []) M) H → va_D A (wld ct ad (xt G []) M) → va_S A s.heap H locs → lv_has ls 7 [(3, .int x4), (0, .ref (ad a)), (1, .int p0), (2, .int p1)] → W p l e (headSpec wuX0_beginPicture ({ frames := 3, cells := y.1.length, slots := wt y.1, locals := 72 })).room s m ([.ref (ad a), .int p0, .int p1] : List Value).toArray below meth c H locs ([] : NN).length (wt []) (MQ below (va_Qv (fun (u : Nat → Nat) => agr G.1 ad u) (fun u t => kE D ct u (xt G y.1) A y.2 t) A) ([.ref (ad a), .int p0, .int p1] : List Value).toArray s y.1.length (wt y.1) A) (F0 m 22 ls [.int y5]) := by
    intro H locs ls hP hD hS hl
    refine lv_istore (lv' := [(4, .int y5), (3, .int x4), (0, .ref (ad a)), (1, .int p0), (2, .int p1)]) hx hb dX0_beginPicture_22 hl (by decide) rfl (fun ls hl => ?_)
    refine lv_aload_n hx hb dX0_beginPicture_24 rfl (lv_at hl 2 rfl) ?_
    refine va_get (D := D) (ci := 0) (v := va_re ad (M.2 a 3)) (C := RX0) (T := TX0) (N := 21) hx hb hts (mus hf_X0) hown hK hP a (wld_o ct ad (xt G []) M hc hk (by decide)) rfl 3 (by decide) (hts (.fieldLink RX0 36 "VideoSuite$Coder" "work" "LVideoSuite$Work;") (mu mw_817)) (fun _ h9 => h9) rfl dX0_beginPicture_25 ?_
    obtain ⟨b6, ho6, hc6, hk6, hF⟩ := dr_some hF
    refine W_st (st' := [.ref (ad b6)]) (by rw [va_some ho6]) ?_
    refine va_get (D := D) (ci := 9) (v := va_re ad (M.2 b6 1)) (C := RX9) (T := TX9) (N := 20) hx hb hts (mus hf_X9) hown hK hP b6 (wld_o ct ad (xt G []) M hc6 hk6 (by decide)) rfl 1 (by decide) (hts (.fieldLink RX0 81 "VideoSuite$Work" "head" "LVideoSuite$Header;") (mu mw_425)) (fun _ h9 => h9) rfl dX0_beginPicture_28 ?_
    obtain ⟨b7, ho7, hc7, hk7, hF⟩ := dr_some hF
    refine W_st (st' := [.ref (ad b7)]) (by rw [va_some ho7]) ?_
    refine va_get (D := D) (ci := 3) (v := va_re ad (M.2 b7 0)) (C := RX3) (T := TX3) (N := 4) hx hb hts (mus hf_X3) hown hK hP b7 (wld_o ct ad (xt G []) M hc7 hk7 (by decide)) rfl 0 (by decide) (hts (.fieldLink RX0 252 "VideoSuite$Header" "v" "[I") (mu mw_620)) (fun _ h9 => h9) rfl dX0_beginPicture_31 ?_
    refine lv_astoreq (lv' := [(5, va_re ad (M.2 b7 0)), (4, .int y5), (3, .int x4), (0, .ref (ad a)), (1, .int p0), (2, .int p1)]) hx hb dX0_beginPicture_34 hl (by decide) rfl (fun ls hl => ?_)
    refine lv_aloadq hx hb dX0_beginPicture_36 (lv_at hl 0 rfl) ?_
    refine lv_iconst (v := (0 : Int32)) hx hb dX0_beginPicture_38 (by decide) ?_
    obtain ⟨y8, hy8, hF⟩ := bnd_some hF
    have hf9 := wA_in hD hA9 hS
    refine va_callv (va_runS (As := [va_re ad (M.2 b7 0), .int (0 : Int32)]) (rest := []) ⟨hx, hb, hml, hown, hts⟩ (kJ7_fill_53178 l D ct ad Z (xt G []) M H.size ((M.2 b7 0)) ((0 : Int32)) y8 hy8) (va_cwS 2 hts gX0_beginPicture_J7_fill_53178 rfl rfl rfl (by decide +kernel) ⟨Nat.le_of_ble_eq_true rfl, Nat.le_of_ble_eq_true rfl⟩) ⟨fun a U g mk q => by obtain ⟨q0, q1, qP, qK, qD, qZ, qN⟩ := q; exact ⟨q0, q1, qP, va_K.moved (u := U) (U := U.calling g mk a) (Vm.Alike.refl U.vm) qK, qD, sF.moved (u := U) (U := U.calling g mk a) (Vm.Alike.refl U.vm) qZ, nF.same rfl qN⟩, fun U hU hW => ⟨rfl, by rw [hU], by rw [hU]; exact hP, va_K.moved hW.alike hK, hD.weaken (fun _ _ _ _ => trivial), by rw [hU]; exact ((hZ.kept hS.2.1).narrow hf9).moved hW.alike, hN.warm hW⟩⟩ rfl rfl hl.1 rfl (lv_room (Nat.le_of_ble_eq_true rfl)) dX0_beginPicture_39 (room_d hT hbl)) hS (fun q _ h => hf9 q h) hf9 (fun u t H locs ht hvm hw hB hz1 hk1 hS => ?_)
    obtain ⟨hP, hK9, hD9⟩ := hB
    rw [ht] at hP
    refine W_cs (k := ([] : NN).length) (n := wt []) rfl rfl ?_
    have hD := hD9.weaken (fun _ q _ h => hf9 q.1 h)
    refine lv_aload_n hx hb dX0_beginPicture_42 rfl (lv_at hl 3 rfl) ?_
    refine lv_iload hx hb dX0_beginPicture_43 (lv_at hl 1 rfl) ?_
    obtain ⟨y9, hy9, hF⟩ := bnd_some hF
    have J9 : ∀ (H : Heap) (locs : List Loc) (ls : Array Slot), va_P D classes (wld ct ad (xt G []) y8) H → va_D A (wld ct ad (xt G []) y8) → va_S A s.heap H locs → lv_has ls 7 [(5, va_re ad (M.2 b7 0)), (4, .int y5), (3, .int x4), (0, .ref (ad a)), (1, .int p0), (2, .int p1)] → W p l e (headSpec wuX0_beginPicture ({ frames := 3, cells := y.1.length, slots := wt y.1, locals := 72 })).room s m ([.ref (ad a), .int p0, .int p1] : List Value).toArray below meth c H locs ([] : NN).length (wt []) (MQ below (va_Qv (fun (u : Nat → Nat) => agr G.1 ad u) (fun u t => kE D ct u (xt G y.1) A y.2 t) A) ([.ref (ad a), .int p0, .int p1] : List Value).toArray s y.1.length (wt y.1) A) (F0 m 56 ls [.int y9, .ref (ad a)]) := by
      intro H locs ls hP hD hS hl
      refine va_put (D := D) (ci := 0) (v := .int y9) (ty := .int) (C := RX0) (T := TX0) (N := 21) hx hb hts (mus hf_X0) tyX0 tyX0_ok nmX0 hown hK hP hD hS a (wld_o ct ad (xt G []) y8 hc hk (by decide)) rfl 12 (by decide) (hts (.fieldLink RX0 107 "VideoSuite$Coder" "ownAt" "I") (mu mw_827)) (fun _ h9 => h9) rfl (by decide +kernel) rfl rfl (Nat.le_of_ble_eq_true rfl) dX0_beginPicture_56 (fun H locs hP hD hS => ?_)
      obtain ⟨M10, eM10, hF⟩ := ltt_some hF
      rw [set_oI ct ad (xt G []) y8 hc hk (by decide) (by rfl), ← eM10] at hP hD
      refine lv_aloadq hx hb dX0_beginPicture_59 (lv_at hl 0 rfl) ?_
      refine lv_bipush (v := (18 : Int32)) hx hb dX0_beginPicture_61 (by decide) ?_
      refine lv_iload hx hb dX0_beginPicture_63 (lv_at hl 1 rfl) ?_
      obtain ⟨y11, hy11, hF⟩ := bnd_some hF
      have J11 : ∀ (H : Heap) (locs : List Loc) (ls : Array Slot), va_P D classes (wld ct ad (xt G []) M10) H → va_D A (wld ct ad (xt G []) M10) → va_S A s.heap H locs → lv_has ls 7 [(5, va_re ad (M.2 b7 0)), (4, .int y5), (3, .int x4), (0, .ref (ad a)), (1, .int p0), (2, .int p1)] → W p l e (headSpec wuX0_beginPicture ({ frames := 3, cells := y.1.length, slots := wt y.1, locals := 72 })).room s m ([.ref (ad a), .int p0, .int p1] : List Value).toArray below meth c H locs ([] : NN).length (wt []) (MQ below (va_Qv (fun (u : Nat → Nat) => agr G.1 ad u) (fun u t => kE D ct u (xt G y.1) A y.2 t) A) ([.ref (ad a), .int p0, .int p1] : List Value).toArray s y.1.length (wt y.1) A) (F0 m 73 ls [.int y11, .int (18 : Int32), va_re ad (M.2 b7 0)]) := by
        intro H locs ls hP hD hS hl
        obtain ⟨b12, ho12, hc12, hk12, hF⟩ := dr_some hF
        refine W_st (st' := [.int y11, .int (18 : Int32), .ref (ad b12)]) (by rw [va_some ho12]) ?_
        obtain ⟨hvc, hF⟩ := chk_some hF
        refine va_iast hx hb hK hP hD hS b12 1 (wld_i ct ad (xt G []) M10 hc12 hk12) rfl hvc dX0_beginPicture_73 (fun H locs hP hD hS => ?_)
        obtain ⟨M13, eM13, hF⟩ := ltt_some hF
        rw [set_i ct ad (xt G []) M10 hc12 hk12, ← eM13] at hP hD
        refine lv_aloadq hx hb dX0_beginPicture_74 (lv_at hl 0 rfl) ?_
        refine lv_iconst (v := (1 : Int32)) hx hb dX0_beginPicture_76 (by decide) ?_
        refine lv_iload_n hx hb dX0_beginPicture_77 rfl (lv_at hl 5 rfl) ?_
        refine W_st (st' := [.int p1, .int (1 : Int32), .ref (ad b12)]) (by rw [va_some ho12]) ?_
        obtain ⟨hvc, hF⟩ := chk_some hF
        refine va_iast hx hb hK hP hD hS b12 1 (wld_i ct ad (xt G []) M13 hc12 hk12) rfl hvc dX0_beginPicture_78 (fun H locs hP hD hS => ?_)
        obtain ⟨M14, eM14, hF⟩ := ltt_some hF
        rw [set_i ct ad (xt G []) M13 hc12 hk12, ← eM14] at hP hD
        refine lv_aloadq hx hb dX0_beginPicture_79 (lv_at hl 0 rfl) ?_
        refine lv_bipush (v := (11 : Int32)) hx hb dX0_beginPicture_81 (by decide) ?_
        refine lv_iload_n hx hb dX0_beginPicture_83 rfl (lv_at hl 5 rfl) ?_
        refine lv_iconst (v := (1 : Int32)) hx hb dX0_beginPicture_84 (by decide) ?_
        obtain ⟨y15, hy15, hF⟩ := bnd_some hF
        have J15 : ∀ (H : Heap) (locs : List Loc) (ls : Array Slot), va_P D classes (wld ct ad (xt G []) M14) H → va_D A (wld ct ad (xt G []) M14) → va_S A s.heap H locs → lv_has ls 7 [(5, va_re ad (M.2 b7 0)), (4, .int y5), (3, .int x4), (0, .ref (ad a)), (1, .int p0), (2, .int p1)] → W p l e (headSpec wuX0_beginPicture ({ frames := 3, cells := y.1.length, slots := wt y.1, locals := 72 })).room s m ([.ref (ad a), .int p0, .int p1] : List Value).toArray below meth c H locs ([] : NN).length (wt []) (MQ below (va_Qv (fun (u : Nat → Nat) => agr G.1 ad u) (fun u t => kE D ct u (xt G y.1) A y.2 t) A) ([.ref (ad a), .int p0, .int p1] : List Value).toArray s y.1.length (wt y.1) A) (F0 m 93 ls [.int y15, .int (11 : Int32), va_re ad (M.2 b7 0)]) := by
          intro H locs ls hP hD hS hl
          refine W_st (st' := [.int y15, .int (11 : Int32), .ref (ad b12)]) (by rw [va_some ho12]) ?_
          obtain ⟨hvc, hF⟩ := chk_some hF
          refine va_iast hx hb hK hP hD hS b12 1 (wld_i ct ad (xt G []) M14 hc12 hk12) rfl hvc dX0_beginPicture_93 (fun H locs hP hD hS => ?_)
          obtain ⟨M16, eM16, hF⟩ := ltt_some hF
          rw [set_i ct ad (xt G []) M14 hc12 hk12, ← eM16] at hP hD
          refine lv_aloadq hx hb dX0_beginPicture_94 (lv_at hl 0 rfl) ?_
          refine lv_iconst (v := (3 : Int32)) hx hb dX0_beginPicture_96 (by decide) ?_
          refine lv_iload hx hb dX0_beginPicture_97 (lv_at hl 1 rfl) ?_
          obtain ⟨y17, hy17, hF⟩ := bnd_some hF
          have J17 : ∀ (H : Heap) (locs : List Loc) (ls : Array Slot), va_P D classes (wld ct ad (xt G []) M16) H → va_D A (wld ct ad (xt G []) M16) → va_S A s.heap H locs → lv_has ls 7 [(5, va_re ad (M.2 b7 0)), (4, .int y5), (3, .int x4), (0, .ref (ad a)), (1, .int p0), (2, .int p1)] → W p l e (headSpec wuX0_beginPicture ({ frames := 3, cells := y.1.length, slots := wt y.1, locals := 72 })).room s m ([.ref (ad a), .int p0, .int p1] : List Value).toArray below meth c H locs ([] : NN).length (wt []) (MQ below (va_Qv (fun (u : Nat → Nat) => agr G.1 ad u) (fun u t => kE D ct u (xt G y.1) A y.2 t) A) ([.ref (ad a), .int p0, .int p1] : List Value).toArray s y.1.length (wt y.1) A) (F0 m 119 ls [.int y17, .int (3 : Int32), va_re ad (M.2 b7 0)]) := by
            intro H locs ls hP hD hS hl
            refine W_st (st' := [.int y17, .int (3 : Int32), .ref (ad b12)]) (by rw [va_some ho12]) ?_
            obtain ⟨hvc, hF⟩ := chk_some hF
            refine va_iast hx hb hK hP hD hS b12 1 (wld_i ct ad (xt G []) M16 hc12 hk12) rfl hvc dX0_beginPicture_119 (fun H locs hP hD hS => ?_)
            obtain ⟨M18, eM18, hF⟩ := ltt_some hF
            rw [set_i ct ad (xt G []) M16 hc12 hk12, ← eM18] at hP hD
            refine lv_aloadq hx hb dX0_beginPicture_120 (lv_at hl 0 rfl) ?_
            refine lv_bipush (v := (17 : Int32)) hx hb dX0_beginPicture_122 (by decide) ?_
            refine lv_iconst (v := (2 : Int32)) hx hb dX0_beginPicture_124 (by decide) ?_
            refine lv_iload_n hx hb dX0_beginPicture_125 rfl (lv_at hl 2 rfl) ?_
            refine lv_aload_n hx hb dX0_beginPicture_126 rfl (lv_at hl 3 rfl) ?_
            refine va_get (D := D) (ci := 0) (v := .int (M18.1 a 12)) (C := RX0) (T := TX0) (N := 21) hx hb hts (mus hf_X0) hown hK hP a (wld_o ct ad (xt G []) M18 hc hk (by decide)) rfl 12 (by decide) (hts (.fieldLink RX0 107 "VideoSuite$Coder" "ownAt" "I") (mu mw_827)) (fun _ h9 => h9) rfl dX0_beginPicture_127 ?_
            obtain ⟨x19, ex19, hF⟩ := ltt_some hF
            refine lv_topi (fun zx19 ezx19 => ?_)
            obtain rfl : x19 = zx19 := ex19.trans ezx19.symm
            refine lv_isub hx hb dX0_beginPicture_130 ?_
            obtain ⟨x20, ex20, hF⟩ := ltt_some hF
            refine lv_topi (fun zx20 ezx20 => ?_)
            obtain rfl : x20 = zx20 := ex20.trans ezx20.symm
            refine lv_imul hx hb dX0_beginPicture_131 ?_
            obtain ⟨x21, ex21, hF⟩ := ltt_some hF
            refine lv_topi (fun zx21 ezx21 => ?_)
            obtain rfl : x21 = zx21 := ex21.trans ezx21.symm
            refine W_st (st' := [.int x21, .int (17 : Int32), .ref (ad b12)]) (by rw [va_some ho12]) ?_
            obtain ⟨hvc, hF⟩ := chk_some hF
            refine va_iast hx hb hK hP hD hS b12 1 (wld_i ct ad (xt G []) M18 hc12 hk12) rfl hvc dX0_beginPicture_132 (fun H locs hP hD hS => ?_)
            obtain ⟨M22, eM22, hF⟩ := ltt_some hF
            rw [set_i ct ad (xt G []) M18 hc12 hk12, ← eM22] at hP hD
            refine lv_aloadq hx hb dX0_beginPicture_133 (lv_at hl 0 rfl) ?_
            refine lv_iconst (v := (5 : Int32)) hx hb dX0_beginPicture_135 (by decide) ?_
            refine lv_aload_n hx hb dX0_beginPicture_136 rfl (lv_at hl 3 rfl) ?_
            refine va_get (D := D) (ci := 0) (v := va_re ad (M22.2 a 1)) (C := RX0) (T := TX0) (N := 21) hx hb hts (mus hf_X0) hown hK hP a (wld_o ct ad (xt G []) M22 hc hk (by decide)) rfl 1 (by decide) (hts (.fieldLink RX0 23 "VideoSuite$Coder" "now" "[I") (mu mw_813)) (fun _ h9 => h9) rfl dX0_beginPicture_137 ?_
            refine lv_bipush (v := (18 : Int32)) hx hb dX0_beginPicture_140 (by decide) ?_
            obtain ⟨b23, ho23, hc23, hk23, hF⟩ := dr_some hF
            refine W_st (st' := [.int (18 : Int32), .ref (ad b23), .int (5 : Int32), va_re ad (M.2 b7 0)]) (by rw [va_some ho23]) ?_
            obtain ⟨hvc, hF⟩ := chk_some hF
            refine va_iald hx hb hK hP b23 1 (wld_i ct ad (xt G []) M22 hc23 hk23) rfl hvc dX0_beginPicture_142 ?_
            obtain ⟨x24, ex24, hF⟩ := ltt_some hF
            refine lv_topi (fun zx24 ezx24 => ?_)
            obtain rfl : x24 = zx24 := ex24.trans ezx24.symm
            obtain ⟨y25, hy25, hF⟩ := bnd_some hF
            have J25 : ∀ (H : Heap) (locs : List Loc) (ls : Array Slot), va_P D classes (wld ct ad (xt G []) M22) H → va_D A (wld ct ad (xt G []) M22) → va_S A s.heap H locs → lv_has ls 7 [(5, va_re ad (M.2 b7 0)), (4, .int y5), (3, .int x4), (0, .ref (ad a)), (1, .int p0), (2, .int p1)] → W p l e (headSpec wuX0_beginPicture ({ frames := 3, cells := y.1.length, slots := wt y.1, locals := 72 })).room s m ([.ref (ad a), .int p0, .int p1] : List Value).toArray below meth c H locs ([] : NN).length (wt []) (MQ below (va_Qv (fun (u : Nat → Nat) => agr G.1 ad u) (fun u t => kE D ct u (xt G y.1) A y.2 t) A) ([.ref (ad a), .int p0, .int p1] : List Value).toArray s y.1.length (wt y.1) A) (F0 m 159 ls [.int y25, .int (5 : Int32), va_re ad (M.2 b7 0)]) := by
              intro H locs ls hP hD hS hl
              refine W_st (st' := [.int y25, .int (5 : Int32), .ref (ad b12)]) (by rw [va_some ho12]) ?_
              obtain ⟨hvc, hF⟩ := chk_some hF
              refine va_iast hx hb hK hP hD hS b12 1 (wld_i ct ad (xt G []) M22 hc12 hk12) rfl hvc dX0_beginPicture_159 (fun H locs hP hD hS => ?_)
              obtain ⟨M26, eM26, hF⟩ := ltt_some hF
              rw [set_i ct ad (xt G []) M22 hc12 hk12, ← eM26] at hP hD
              refine lv_aloadq hx hb dX0_beginPicture_160 (lv_at hl 0 rfl) ?_
              refine lv_bipush (v := (8 : Int32)) hx hb dX0_beginPicture_162 (by decide) ?_
              refine lv_aload_n hx hb dX0_beginPicture_164 rfl (lv_at hl 3 rfl) ?_
              refine va_get (D := D) (ci := 0) (v := va_re ad (M26.2 a 1)) (C := RX0) (T := TX0) (N := 21) hx hb hts (mus hf_X0) hown hK hP a (wld_o ct ad (xt G []) M26 hc hk (by decide)) rfl 1 (by decide) (hts (.fieldLink RX0 23 "VideoSuite$Coder" "now" "[I") (mu mw_813)) (fun _ h9 => h9) rfl dX0_beginPicture_165 ?_
              refine lv_bipush (v := (22 : Int32)) hx hb dX0_beginPicture_168 (by decide) ?_
              obtain ⟨b27, ho27, hc27, hk27, hF⟩ := dr_some hF
              refine W_st (st' := [.int (22 : Int32), .ref (ad b27), .int (8 : Int32), va_re ad (M.2 b7 0)]) (by rw [va_some ho27]) ?_
              obtain ⟨hvc, hF⟩ := chk_some hF
              refine va_iald hx hb hK hP b27 1 (wld_i ct ad (xt G []) M26 hc27 hk27) rfl hvc dX0_beginPicture_170 ?_
              obtain ⟨x28, ex28, hF⟩ := ltt_some hF
              refine lv_topi (fun zx28 ezx28 => ?_)
              obtain rfl : x28 = zx28 := ex28.trans ezx28.symm
              refine W_st (st' := [.int x28, .int (8 : Int32), .ref (ad b12)]) (by rw [va_some ho12]) ?_
              obtain ⟨hvc, hF⟩ := chk_some hF
              refine va_iast hx hb hK hP hD hS b12 1 (wld_i ct ad (xt G []) M26 hc12 hk12) rfl hvc dX0_beginPicture_171 (fun H locs hP hD hS => ?_)
              obtain ⟨M29, eM29, hF⟩ := ltt_some hF
              rw [set_i ct ad (xt G []) M26 hc12 hk12, ← eM29] at hP hD
              refine lv_aloadq hx hb dX0_beginPicture_172 (lv_at hl 0 rfl) ?_
              refine lv_bipush (v := (13 : Int32)) hx hb dX0_beginPicture_174 (by decide) ?_
              refine lv_aload_n hx hb dX0_beginPicture_176 rfl (lv_at hl 3 rfl) ?_
              refine va_get (D := D) (ci := 0) (v := va_re ad (M29.2 a 1)) (C := RX0) (T := TX0) (N := 21) hx hb hts (mus hf_X0) hown hK hP a (wld_o ct ad (xt G []) M29 hc hk (by decide)) rfl 1 (by decide) (hts (.fieldLink RX0 23 "VideoSuite$Coder" "now" "[I") (mu mw_813)) (fun _ h9 => h9) rfl dX0_beginPicture_177 ?_
              refine lv_bipush (v := (13 : Int32)) hx hb dX0_beginPicture_180 (by decide) ?_
              obtain ⟨b30, ho30, hc30, hk30, hF⟩ := dr_some hF
              refine W_st (st' := [.int (13 : Int32), .ref (ad b30), .int (13 : Int32), va_re ad (M.2 b7 0)]) (by rw [va_some ho30]) ?_
              obtain ⟨hvc, hF⟩ := chk_some hF
              refine va_iald hx hb hK hP b30 1 (wld_i ct ad (xt G []) M29 hc30 hk30) rfl hvc dX0_beginPicture_182 ?_
              obtain ⟨x31, ex31, hF⟩ := ltt_some hF
              refine lv_topi (fun zx31 ezx31 => ?_)
              obtain rfl : x31 = zx31 := ex31.trans ezx31.symm
              refine W_st (st' := [.int x31, .int (13 : Int32), .ref (ad b12)]) (by rw [va_some ho12]) ?_
              obtain ⟨hvc, hF⟩ := chk_some hF
              refine va_iast hx hb hK hP hD hS b12 1 (wld_i ct ad (xt G []) M29 hc12 hk12) rfl hvc dX0_beginPicture_183 (fun H locs hP hD hS => ?_)
              obtain ⟨M32, eM32, hF⟩ := ltt_some hF
              rw [set_i ct ad (xt G []) M29 hc12 hk12, ← eM32] at hP hD
              refine lv_aloadq hx hb dX0_beginPicture_184 (lv_at hl 0 rfl) ?_
              refine lv_bipush (v := (14 : Int32)) hx hb dX0_beginPicture_186 (by decide) ?_
              refine lv_aload_n hx hb dX0_beginPicture_188 rfl (lv_at hl 3 rfl) ?_
              refine va_get (D := D) (ci := 0) (v := va_re ad (M32.2 a 1)) (C := RX0) (T := TX0) (N := 21) hx hb hts (mus hf_X0) hown hK hP a (wld_o ct ad (xt G []) M32 hc hk (by decide)) rfl 1 (by decide) (hts (.fieldLink RX0 23 "VideoSuite$Coder" "now" "[I") (mu mw_813)) (fun _ h9 => h9) rfl dX0_beginPicture_189 ?_
              refine lv_bipush (v := (13 : Int32)) hx hb dX0_beginPicture_192 (by decide) ?_
              obtain ⟨b33, ho33, hc33, hk33, hF⟩ := dr_some hF
              refine W_st (st' := [.int (13 : Int32), .ref (ad b33), .int (14 : Int32), va_re ad (M.2 b7 0)]) (by rw [va_some ho33]) ?_
              obtain ⟨hvc, hF⟩ := chk_some hF
              refine va_iald hx hb hK hP b33 1 (wld_i ct ad (xt G []) M32 hc33 hk33) rfl hvc dX0_beginPicture_194 ?_
              obtain ⟨x34, ex34, hF⟩ := ltt_some hF
              refine lv_topi (fun zx34 ezx34 => ?_)
              obtain rfl : x34 = zx34 := ex34.trans ezx34.symm
              refine lv_iconst (v := (1 : Int32)) hx hb dX0_beginPicture_195 (by decide) ?_
              obtain ⟨y35, hy35, hF⟩ := bnd_some hF
              have J35 : ∀ (H : Heap) (locs : List Loc) (ls : Array Slot), va_P D classes (wld ct ad (xt G []) M32) H → va_D A (wld ct ad (xt G []) M32) → va_S A s.heap H locs → lv_has ls 7 [(5, va_re ad (M.2 b7 0)), (4, .int y5), (3, .int x4), (0, .ref (ad a)), (1, .int p0), (2, .int p1)] → W p l e (headSpec wuX0_beginPicture ({ frames := 3, cells := y.1.length, slots := wt y.1, locals := 72 })).room s m ([.ref (ad a), .int p0, .int p1] : List Value).toArray below meth c H locs ([] : NN).length (wt []) (MQ below (va_Qv (fun (u : Nat → Nat) => agr G.1 ad u) (fun u t => kE D ct u (xt G y.1) A y.2 t) A) ([.ref (ad a), .int p0, .int p1] : List Value).toArray s y.1.length (wt y.1) A) (F0 m 210 ls [.int y35, .int (14 : Int32), va_re ad (M.2 b7 0)]) := by
                intro H locs ls hP hD hS hl
                refine W_st (st' := [.int y35, .int (14 : Int32), .ref (ad b12)]) (by rw [va_some ho12]) ?_
                obtain ⟨hvc, hF⟩ := chk_some hF
                refine va_iast hx hb hK hP hD hS b12 1 (wld_i ct ad (xt G []) M32 hc12 hk12) rfl hvc dX0_beginPicture_210 (fun H locs hP hD hS => ?_)
                obtain ⟨M36, eM36, hF⟩ := ltt_some hF
                rw [set_i ct ad (xt G []) M32 hc12 hk12, ← eM36] at hP hD
                refine lv_aloadq hx hb dX0_beginPicture_211 (lv_at hl 0 rfl) ?_
                refine lv_bipush (v := (15 : Int32)) hx hb dX0_beginPicture_213 (by decide) ?_
                refine lv_aload_n hx hb dX0_beginPicture_215 rfl (lv_at hl 3 rfl) ?_
                refine va_get (D := D) (ci := 0) (v := va_re ad (M36.2 a 1)) (C := RX0) (T := TX0) (N := 21) hx hb hts (mus hf_X0) hown hK hP a (wld_o ct ad (xt G []) M36 hc hk (by decide)) rfl 1 (by decide) (hts (.fieldLink RX0 23 "VideoSuite$Coder" "now" "[I") (mu mw_813)) (fun _ h9 => h9) rfl dX0_beginPicture_216 ?_
                refine lv_bipush (v := (13 : Int32)) hx hb dX0_beginPicture_219 (by decide) ?_
                obtain ⟨b37, ho37, hc37, hk37, hF⟩ := dr_some hF
                refine W_st (st' := [.int (13 : Int32), .ref (ad b37), .int (15 : Int32), va_re ad (M.2 b7 0)]) (by rw [va_some ho37]) ?_
                obtain ⟨hvc, hF⟩ := chk_some hF
                refine va_iald hx hb hK hP b37 1 (wld_i ct ad (xt G []) M36 hc37 hk37) rfl hvc dX0_beginPicture_221 ?_
                obtain ⟨x38, ex38, hF⟩ := ltt_some hF
                refine lv_topi (fun zx38 ezx38 => ?_)
                obtain rfl : x38 = zx38 := ex38.trans ezx38.symm
                refine lv_iconst (v := (1 : Int32)) hx hb dX0_beginPicture_222 (by decide) ?_
                obtain ⟨y39, hy39, hF⟩ := bnd_some hF
                have J39 : ∀ (H : Heap) (locs : List Loc) (ls : Array Slot), va_P D classes (wld ct ad (xt G []) M36) H → va_D A (wld ct ad (xt G []) M36) → va_S A s.heap H locs → lv_has ls 7 [(5, va_re ad (M.2 b7 0)), (4, .int y5), (3, .int x4), (0, .ref (ad a)), (1, .int p0), (2, .int p1)] → W p l e (headSpec wuX0_beginPicture ({ frames := 3, cells := y.1.length, slots := wt y.1, locals := 72 })).room s m ([.ref (ad a), .int p0, .int p1] : List Value).toArray below meth c H locs ([] : NN).length (wt []) (MQ below (va_Qv (fun (u : Nat → Nat) => agr G.1 ad u) (fun u t => kE D ct u (xt G y.1) A y.2 t) A) ([.ref (ad a), .int p0, .int p1] : List Value).toArray s y.1.length (wt y.1) A) (F0 m 237 ls [.int y39, .int (15 : Int32), va_re ad (M.2 b7 0)]) := by
                  intro H locs ls hP hD hS hl
                  refine W_st (st' := [.int y39, .int (15 : Int32), .ref (ad b12)]) (by rw [va_some ho12]) ?_
                  obtain ⟨hvc, hF⟩ := chk_some hF
                  refine va_iast hx hb hK hP hD hS b12 1 (wld_i ct ad (xt G []) M36 hc12 hk12) rfl hvc dX0_beginPicture_237 (fun H locs hP hD hS => ?_)
                  obtain ⟨M40, eM40, hF⟩ := ltt_some hF
                  rw [set_i ct ad (xt G []) M36 hc12 hk12, ← eM40] at hP hD
                  refine lv_iload hx hb dX0_beginPicture_238 (lv_at hl 1 rfl) ?_
                  obtain ⟨y41, hy41, hF⟩ := bnd_some hF
                  have J41 : ∀ (H : Heap) (locs : List Loc) (ls : Array Slot), va_P D classes (wld ct ad (xt G []) y41) H → va_D A (wld ct ad (xt G []) y41) → va_S A s.heap H locs → lv_has ls 7 [(5, va_re ad (M.2 b7 0)), (4, .int y5), (3, .int x4), (0, .ref (ad a)), (1, .int p0), (2, .int p1)] → W p l e (headSpec wuX0_beginPicture ({ frames := 3, cells := y.1.length, slots := wt y.1, locals := 72 })).room s m ([.ref (ad a), .int p0, .int p1] : List Value).toArray below meth c H locs ([] : NN).length (wt []) (MQ below (va_Qv (fun (u : Nat → Nat) => agr G.1 ad u) (fun u t => kE D ct u (xt G y.1) A y.2 t) A) ([.ref (ad a), .int p0, .int p1] : List Value).toArray s y.1.length (wt y.1) A) (F0 m 317 ls []) := by
                    intro H locs ls hP hD hS hl
                    refine lv_iconst (v := (0 : Int32)) hx hb dX0_beginPicture_317 (by decide) ?_
                    refine lv_istore (lv' := [(6, .int (0 : Int32)), (5, va_re ad (M.2 b7 0)), (4, .int y5), (3, .int x4), (0, .ref (ad a)), (1, .int p0), (2, .int p1)]) hx hb dX0_beginPicture_318 hl (by decide) (by generalize ((M.2 b7 0)) = o9; cases o9 <;> rfl) (fun ls hl => ?_)
                    obtain ⟨y42, hy42, hF⟩ := bnd_some hF
                    have K42 : ∀ (H : Heap) (locs : List Loc) (ls : Array Slot), va_P D classes (wld ct ad (xt G []) y42.2) H → va_D A (wld ct ad (xt G []) y42.2) → va_S A s.heap H locs → lv_has ls 7 [(6, .int y42.1), (5, va_re ad (M.2 b7 0)), (4, .int y5), (3, .int x4), (0, .ref (ad a)), (1, .int p0), (2, .int p1)] → W p l e (headSpec wuX0_beginPicture ({ frames := 3, cells := y.1.length, slots := wt y.1, locals := 72 })).room s m ([.ref (ad a), .int p0, .int p1] : List Value).toArray below meth c H locs ([] : NN).length (wt []) (MQ below (va_Qv (fun (u : Nat → Nat) => agr G.1 ad u) (fun u t => kE D ct u (xt G y.1) A y.2 t) A) ([.ref (ad a), .int p0, .int p1] : List Value).toArray s y.1.length (wt y.1) A) (F0 m 350 ls []) := by
                      intro H locs ls hP hD hS hl
                      refine lv_aload_n hx hb dX0_beginPicture_350 rfl (lv_at hl 4 rfl) ?_
                      refine va_get (D := D) (ci := 0) (v := va_re ad (y42.2.2 a 3)) (C := RX0) (T := TX0) (N := 21) hx hb hts (mus hf_X0) hown hK hP a (wld_o ct ad (xt G []) y42.2 hc hk (by decide)) rfl 3 (by decide) (hts (.fieldLink RX0 36 "VideoSuite$Coder" "work" "LVideoSuite$Work;") (mu mw_817)) (fun _ h9 => h9) rfl dX0_beginPicture_351 ?_
                      refine lv_aload_n hx hb dX0_beginPicture_354 rfl (lv_at hl 4 rfl) ?_
                      refine va_get (D := D) (ci := 0) (v := va_re ad (y42.2.2 a 6)) (C := RX0) (T := TX0) (N := 21) hx hb hts (mus hf_X0) hown hK hP a (wld_o ct ad (xt G []) y42.2 hc hk (by decide)) rfl 6 (by decide) (hts (.fieldLink RX0 57 "VideoSuite$Coder" "store" "LVideoSuite$Store;") (mu mw_820)) (fun _ h9 => h9) rfl dX0_beginPicture_355 ?_
                      refine lv_aload_n hx hb dX0_beginPicture_358 rfl (lv_at hl 4 rfl) ?_
                      refine va_get (D := D) (ci := 0) (v := va_re ad (y42.2.2 a 1)) (C := RX0) (T := TX0) (N := 21) hx hb hts (mus hf_X0) hown hK hP a (wld_o ct ad (xt G []) y42.2 hc hk (by decide)) rfl 1 (by decide) (hts (.fieldLink RX0 23 "VideoSuite$Coder" "now" "[I") (mu mw_813)) (fun _ h9 => h9) rfl dX0_beginPicture_359 ?_
                      refine lv_iconst (v := (0 : Int32)) hx hb dX0_beginPicture_362 (by decide) ?_
                      obtain ⟨b45, ho45, hc45, hk45, hF⟩ := dr_some hF
                      refine W_st (st' := [.int (0 : Int32), .ref (ad b45), va_re ad (y42.2.2 a 6), va_re ad (y42.2.2 a 3)]) (by rw [va_some ho45]) ?_
                      obtain ⟨hvc, hF⟩ := chk_some hF
                      refine va_iald hx hb hK hP b45 1 (wld_i ct ad (xt G []) y42.2 hc45 hk45) rfl hvc dX0_beginPicture_363 ?_
                      obtain ⟨x46, ex46, hF⟩ := ltt_some hF
                      refine lv_topi (fun zx46 ezx46 => ?_)
                      obtain rfl : x46 = zx46 := ex46.trans ezx46.symm
                      refine lv_aload_n hx hb dX0_beginPicture_364 rfl (lv_at hl 4 rfl) ?_
                      refine va_get (D := D) (ci := 0) (v := va_re ad (y42.2.2 a 1)) (C := RX0) (T := TX0) (N := 21) hx hb hts (mus hf_X0) hown hK hP a (wld_o ct ad (xt G []) y42.2 hc hk (by decide)) rfl 1 (by decide) (hts (.fieldLink RX0 23 "VideoSuite$Coder" "now" "[I") (mu mw_813)) (fun _ h9 => h9) rfl dX0_beginPicture_365 ?_
                      refine lv_iconst (v := (1 : Int32)) hx hb dX0_beginPicture_368 (by decide) ?_
                      refine W_st (st' := [.int (1 : Int32), .ref (ad b45), .int x46, va_re ad (y42.2.2 a 6), va_re ad (y42.2.2 a 3)]) (by rw [va_some ho45]) ?_
                      obtain ⟨hvc, hF⟩ := chk_some hF
                      refine va_iald hx hb hK hP b45 1 (wld_i ct ad (xt G []) y42.2 hc45 hk45) rfl hvc dX0_beginPicture_369 ?_
                      obtain ⟨x47, ex47, hF⟩ := ltt_some hF
                      refine lv_topi (fun zx47 ezx47 => ?_)
                      obtain rfl : x47 = zx47 := ex47.trans ezx47.symm
                      obtain ⟨b48, ho48, hc48, hk48, hF⟩ := dr_some hF
                      refine W_st (st' := [.int x47, .int x46, .ref (ad b48), va_re ad (y42.2.2 a 3)]) (by rw [va_some ho48]) ?_
                      obtain ⟨hq50, hF⟩ := chk_some hF
                      obtain ⟨hq51, hF⟩ := chk_some hF
                      obtain ⟨y49, hy49, hF⟩ := bnd_some hF
                      obtain ⟨w52, hF, ew52⟩ := app_some hF
                      obtain ⟨L53, eL53, hF⟩ := ltt_some hF
                      have hT53 : y.1 = ([] ++ y49.1) ++ w52.1 := by rw [hT, ew52]; simp only [List.append_assoc]
                      have hf9 := wA_in hD hA9 hS
                      refine va_callr (va_runV (As := [.int x46, .int x47]) (rest := [va_re ad (y42.2.2 a 3)]) ⟨hx, hb, hml, hown, hts⟩ (kX7_fresh l D ct ad Z (xt G []) y42.2 _ b48 x46 x47 y49 hc48 hk48 hy49) (cwV 2 hts gX0_beginPicture_X7_fresh rfl rfl rfl (by decide +kernel) ⟨Nat.le_of_ble_eq_true rfl, Nat.le_of_ble_eq_true rfl⟩) ⟨fun a U g mk q => by obtain ⟨q0, q1, qP, qK, qD, qZ, qN⟩ := q; exact ⟨q0, q1, qP, va_K.moved (u := U) (U := U.calling g mk a) (Vm.Alike.refl U.vm) qK, qD, sF.moved (u := U) (U := U.calling g mk a) (Vm.Alike.refl U.vm) qZ, nF.same rfl qN⟩, va_recv hK hP (ci := 7) (q0 := b48) rfl (wld_o ct ad (xt G []) y42.2 hc48 hk48 (by decide)), fun U hU hW => ⟨rfl, by rw [hU], by rw [hU]; exact hP, va_K.moved hW.alike hK, hD.weaken (fun _ _ _ _ => trivial), by rw [hU]; exact ((hZ.kept hS.2.1).narrow hf9).moved hW.alike, hN.warm hW⟩⟩ rfl rfl hl.1 rfl (lv_room (by simp only [List.map, va_re_cat]; exact Nat.le_of_ble_eq_true rfl)) dX0_beginPicture_370 (room_s hT53 hbl)) hS (fun q _ h => hf9 q h) hf9 (fun ad54 ra t H locs ht hvm hw hB hz1 hk1 hS => ?_)
                      obtain ⟨⟨rb, hrb, rfl⟩, hB⟩ := hB
                      have hn55 := hw
                      obtain ⟨hP, hK9, hD9⟩ := hB
                      rw [ht] at hP
                      have hD := hD9.weaken (fun _ q _ h => hf9 q.1 h)
                      rw [xt_xt, ← eL53] at hP hD
                      refine W_cs (k := L53.length) (n := wt L53) (by rw [eL53]; exact (len_s [] y49.1).symm) (by rw [eL53]; exact (wt_app [] y49.1).symm) ?_
                      refine W_st (st' := [va_re ad54 y49.2.2, va_re ad (y42.2.2 a 3)]) (by rw [hrb]; rfl) ?_
                      have hT : y.1 = L53 ++ w52.1 := by rw [hT53, eL53]
                      have h2 : y.2 = w52.2 := by rw [h2, ew52]
                      have hl := lv_sub (l' := [(5, va_re ad (M.2 b7 0)), (0, .ref (ad a))]) hl [1, 4] rfl
                      have e9 : ([(5, va_re ad (M.2 b7 0)), (0, .ref (ad a))] : List (Nat × Value)) = [(5, va_re ad54 (M.2 b7 0)), (0, .ref (ad54 a))] := (by first | rfl | simp only [agr_re hn55 hq50, hn55 a hc])
                      rw [e9] at hl
                      clear e9
                      refine W_st (st' := [va_re ad54 y49.2.2, va_re ad54 (y42.2.2 a 3)]) (by first | rfl | simp only [agr_re hn55 hq51]) ?_
                      have hk : (xt G L53).2.1 a = 0 := by rw [eL53]; exact xt_k _ hc hk
                      have hc : a < (xt G L53).1 := by rw [eL53]; exact xt_l _ hc
                      have hk6 : (xt G L53).2.1 b6 = 9 := by rw [eL53]; exact xt_k _ hc6 hk6
                      have hc6 : b6 < (xt G L53).1 := by rw [eL53]; exact xt_l _ hc6
                      have hk7 : (xt G L53).2.1 b7 = 3 := by rw [eL53]; exact xt_k _ hc7 hk7
                      have hc7 : b7 < (xt G L53).1 := by rw [eL53]; exact xt_l _ hc7
                      have hk12 : (xt G L53).2.1 b12 = 13 := by rw [eL53]; exact xt_k _ hc12 hk12
                      have hc12 : b12 < (xt G L53).1 := by rw [eL53]; exact xt_l _ hc12
                      have hk23 : (xt G L53).2.1 b23 = 13 := by rw [eL53]; exact xt_k _ hc23 hk23
                      have hc23 : b23 < (xt G L53).1 := by rw [eL53]; exact xt_l _ hc23
                      have hk27 : (xt G L53).2.1 b27 = 13 := by rw [eL53]; exact xt_k _ hc27 hk27
                      have hc27 : b27 < (xt G L53).1 := by rw [eL53]; exact xt_l _ hc27
                      have hk30 : (xt G L53).2.1 b30 = 13 := by rw [eL53]; exact xt_k _ hc30 hk30
                      have hc30 : b30 < (xt G L53).1 := by rw [eL53]; exact xt_l _ hc30
                      have hk33 : (xt G L53).2.1 b33 = 13 := by rw [eL53]; exact xt_k _ hc33 hk33
                      have hc33 : b33 < (xt G L53).1 := by rw [eL53]; exact xt_l _ hc33
                      have hk37 : (xt G L53).2.1 b37 = 13 := by rw [eL53]; exact xt_k _ hc37 hk37
                      have hc37 : b37 < (xt G L53).1 := by rw [eL53]; exact xt_l _ hc37
                      have hk45 : (xt G L53).2.1 b45 = 13 := by rw [eL53]; exact xt_k _ hc45 hk45
                      have hc45 : b45 < (xt G L53).1 := by rw [eL53]; exact xt_l _ hc45
                      have hk48 : (xt G L53).2.1 b48 = 7 := by rw [eL53]; exact xt_k _ hc48 hk48
                      have hc48 : b48 < (xt G L53).1 := by rw [eL53]; exact xt_l _ hc48
                      have hag := agr_t (xt_ge _ _) hag hn55
                      obtain ⟨b56, ho56, hc56, hk56, hF⟩ := dr_some hF
                      refine W_st (st' := [va_re ad54 y49.2.2, .ref (ad54 b56)]) (by rw [va_some ho56]) ?_
                      refine va_put (D := D) (ci := 9) (v := va_re ad54 y49.2.2) (ty := (.object "VideoSuite$Picture")) (C := RX9) (T := TX9) (N := 20) hx hb hts (mus hf_X9) tyX9 tyX9_ok nmX9 hown hK hP hD hS b56 (wld_o ct ad54 (xt G L53) y49.2.1 hc56 hk56 (by decide)) rfl 0 (by decide) (hts (.fieldLink RX0 266 "VideoSuite$Work" "pic" "LVideoSuite$Picture;") (mu mw_424)) (fun _ h9 => h9) rfl (by decide +kernel) (nar_q ad54 (Or.inl ⟨_, rfl⟩) y49.2.2).1 (nar_q ad54 (Or.inl ⟨_, rfl⟩) y49.2.2).2 (Nat.le_of_ble_eq_true rfl) dX0_beginPicture_373 (fun H locs hP hD hS => ?_)
                      obtain ⟨M57, eM57, hF⟩ := ltt_some hF
                      rw [set_oP ct ad54 (xt G L53) y49.2.1 hc56 hk56 (by decide) (by rfl), ← eM57] at hP hD
                      refine lv_aload_n hx hb dX0_beginPicture_376 rfl (lv_at hl 1 rfl) ?_
                      refine va_get (D := D) (ci := 0) (v := va_re ad54 (M57.2 a 3)) (C := RX0) (T := TX0) (N := 21) hx hb hts (mus hf_X0) hown hK hP a (wld_o ct ad54 (xt G L53) M57 hc hk (by decide)) rfl 3 (by decide) (hts (.fieldLink RX0 36 "VideoSuite$Coder" "work" "LVideoSuite$Work;") (mu mw_817)) (fun _ h9 => h9) rfl dX0_beginPicture_377 ?_
                      obtain ⟨b58, ho58, hc58, hk58, hF⟩ := dr_some hF
                      refine W_st (st' := [.ref (ad54 b58)]) (by rw [va_some ho58]) ?_
                      refine va_get (D := D) (ci := 9) (v := va_re ad54 (M57.2 b58 0)) (C := RX9) (T := TX9) (N := 20) hx hb hts (mus hf_X9) hown hK hP b58 (wld_o ct ad54 (xt G L53) M57 hc58 hk58 (by decide)) rfl 0 (by decide) (hts (.fieldLink RX0 266 "VideoSuite$Work" "pic" "LVideoSuite$Picture;") (mu mw_424)) (fun _ h9 => h9) rfl dX0_beginPicture_380 ?_
                      refine lv_aloadq hx hb dX0_beginPicture_383 (lv_at hl 0 rfl) ?_
                      refine lv_iconst (v := (3 : Int32)) hx hb dX0_beginPicture_385 (by decide) ?_
                      refine W_st (st' := [.int (3 : Int32), .ref (ad54 b12), va_re ad54 (M57.2 b58 0)]) (by rw [va_some ho12]) ?_
                      obtain ⟨hvc, hF⟩ := chk_some hF
                      refine va_iald hx hb hK hP b12 1 (wld_i ct ad54 (xt G L53) M57 hc12 hk12) rfl hvc dX0_beginPicture_386 ?_
                      obtain ⟨x59, ex59, hF⟩ := ltt_some hF
                      refine lv_topi (fun zx59 ezx59 => ?_)
                      obtain rfl : x59 = zx59 := ex59.trans ezx59.symm
                      obtain ⟨b60, ho60, hc60, hk60, hF⟩ := dr_some hF
                      refine W_st (st' := [.int x59, .ref (ad54 b60)]) (by rw [va_some ho60]) ?_
                      refine va_put (D := D) (ci := 4) (v := .int x59) (ty := .int) (C := RX4) (T := TX4) (N := 18) hx hb hts (mus hf_X4) tyX4 tyX4_ok nmX4 hown hK hP hD hS b60 (wld_o ct ad54 (xt G L53) M57 hc60 hk60 (by decide)) rfl 8 (by decide) (hts (.fieldLink RX0 270 "VideoSuite$Picture" "frame" "I") (mu mw_1452)) (fun _ h9 => h9) rfl (by decide +kernel) rfl rfl (Nat.le_of_ble_eq_true rfl) dX0_beginPicture_387 (fun H locs hP hD hS => ?_)
                      obtain ⟨M61, eM61, hF⟩ := ltt_some hF
                      rw [set_oI ct ad54 (xt G L53) M57 hc60 hk60 (by decide) (by rfl), ← eM61] at hP hD
                      refine lv_aload_n hx hb dX0_beginPicture_390 rfl (lv_at hl 1 rfl) ?_
                      refine va_get (D := D) (ci := 0) (v := va_re ad54 (M61.2 a 3)) (C := RX0) (T := TX0) (N := 21) hx hb hts (mus hf_X0) hown hK hP a (wld_o ct ad54 (xt G L53) M61 hc hk (by decide)) rfl 3 (by decide) (hts (.fieldLink RX0 36 "VideoSuite$Coder" "work" "LVideoSuite$Work;") (mu mw_817)) (fun _ h9 => h9) rfl dX0_beginPicture_391 ?_
                      obtain ⟨b62, ho62, hc62, hk62, hF⟩ := dr_some hF
                      refine W_st (st' := [.ref (ad54 b62)]) (by rw [va_some ho62]) ?_
                      refine va_get (D := D) (ci := 9) (v := va_re ad54 (M61.2 b62 0)) (C := RX9) (T := TX9) (N := 20) hx hb hts (mus hf_X9) hown hK hP b62 (wld_o ct ad54 (xt G L53) M61 hc62 hk62 (by decide)) rfl 0 (by decide) (hts (.fieldLink RX0 266 "VideoSuite$Work" "pic" "LVideoSuite$Picture;") (mu mw_424)) (fun _ h9 => h9) rfl dX0_beginPicture_394 ?_
                      refine lv_aloadq hx hb dX0_beginPicture_397 (lv_at hl 0 rfl) ?_
                      refine lv_bipush (v := (17 : Int32)) hx hb dX0_beginPicture_399 (by decide) ?_
                      refine W_st (st' := [.int (17 : Int32), .ref (ad54 b12), va_re ad54 (M61.2 b62 0)]) (by rw [va_some ho12]) ?_
                      obtain ⟨hvc, hF⟩ := chk_some hF
                      refine va_iald hx hb hK hP b12 1 (wld_i ct ad54 (xt G L53) M61 hc12 hk12) rfl hvc dX0_beginPicture_401 ?_
                      obtain ⟨x63, ex63, hF⟩ := ltt_some hF
                      refine lv_topi (fun zx63 ezx63 => ?_)
                      obtain rfl : x63 = zx63 := ex63.trans ezx63.symm
                      obtain ⟨b64, ho64, hc64, hk64, hF⟩ := dr_some hF
                      refine W_st (st' := [.int x63, .ref (ad54 b64)]) (by rw [va_some ho64]) ?_
                      refine va_put (D := D) (ci := 4) (v := .int x63) (ty := .int) (C := RX4) (T := TX4) (N := 18) hx hb hts (mus hf_X4) tyX4 tyX4_ok nmX4 hown hK hP hD hS b64 (wld_o ct ad54 (xt G L53) M61 hc64 hk64 (by decide)) rfl 9 (by decide) (hts (.fieldLink RX0 275 "VideoSuite$Picture" "order" "I") (mu mw_1458)) (fun _ h9 => h9) rfl (by decide +kernel) rfl rfl (Nat.le_of_ble_eq_true rfl) dX0_beginPicture_402 (fun H locs hP hD hS => ?_)
                      obtain ⟨M65, eM65, hF⟩ := ltt_some hF
                      rw [set_oI ct ad54 (xt G L53) M61 hc64 hk64 (by decide) (by rfl), ← eM65] at hP hD
                      obtain rfl := Option.some.inj hF
                      have e1 : y.1 = L53 := by rw [hT]; exact List.append_nil _
                      have e2 : y.2 = M65 := h2
                      refine W.widen (k := y.1.length) (n := wt y.1) (Nat.le_of_eq (by rw [e1])) (Nat.le_of_eq (by rw [e1])) ?_
                      exact W.vret hx hb hr (fun t ht hW => ⟨⟨ad54, rfl, hag, (by unfold kE; rw [e1, e2]; exact ⟨by rw [ht]; exact hP, va_K.moved hW.alike hK, hD⟩)⟩, hS.F ht⟩) hS.2.2 dX0_beginPicture_405
                    clear hF
                    refine itr_rule (fun (s43 : Int32 × DD) => ∀ (H : Heap) (locs : List Loc) (ls : Array Slot), va_P D classes (wld ct ad (xt G []) s43.2) H → va_D A (wld ct ad (xt G []) s43.2) → va_S A s.heap H locs → lv_has ls 7 [(6, .int s43.1), (5, va_re ad (M.2 b7 0)), (4, .int y5), (3, .int x4), (0, .ref (ad a)), (1, .int p0), (2, .int p1)] → W p l e (headSpec wuX0_beginPicture ({ frames := 3, cells := y.1.length, slots := wt y.1, locals := 72 })).room s m ([.ref (ad a), .int p0, .int p1] : List Value).toArray below meth c H locs ([] : NN).length (wt []) (MQ below (va_Qv (fun (u : Nat → Nat) => agr G.1 ad u) (fun u t => kE D ct u (xt G y.1) A y.2 t) A) ([.ref (ad a), .int p0, .int p1] : List Value).toArray s y.1.length (wt y.1) A) (F0 m 320 ls [])) ?_ _ _ hy42 _ _ _ hP hD hS (lv_sub hl [0, 1, 2, 3, 4, 5, 6] rfl)
                    rintro s43 ⟨z66, hF, hwz66⟩ H locs ls hP hD hS hl
                    try dsimp only at hF
                    refine lv_iload hx hb dX0_beginPicture_320 (lv_at hl 0 rfl) ?_
                    refine lv_iconst (v := (3 : Int32)) hx hb dX0_beginPicture_322 (by decide) ?_
                    refine lv_icmp_ge (tgt := 350) hx hb dX0_beginPicture_323 (by decide) (fun c67 => ?_) (fun c67 => ?_)
                    · rw [if_pos c67] at hF
                      obtain rfl := Option.some.inj hF
                      subst hwz66
                      exact K42 _ _ _ hP hD hS (lv_sub hl [0, 1, 2, 3, 4, 5, 6] rfl)
                    · rw [if_neg c67] at hF
                      refine lv_aload_n hx hb dX0_beginPicture_326 rfl (lv_at hl 4 rfl) ?_
                      refine va_get (D := D) (ci := 0) (v := va_re ad (s43.2.2 a 9)) (C := RX0) (T := TX0) (N := 21) hx hb hts (mus hf_X0) hown hK hP a (wld_o ct ad (xt G []) s43.2 hc hk (by decide)) rfl 9 (by decide) (hts (.fieldLink RX0 69 "VideoSuite$Coder" "source" "[[I") (mu mw_823)) (fun _ h9 => h9) rfl dX0_beginPicture_327 ?_
                      refine lv_iload hx hb dX0_beginPicture_330 (lv_at hl 0 rfl) ?_
                      refine lv_aload_n hx hb dX0_beginPicture_332 rfl (lv_at hl 4 rfl) ?_
                      refine va_get (D := D) (ci := 0) (v := va_re ad (s43.2.2 a 8)) (C := RX0) (T := TX0) (N := 21) hx hb hts (mus hf_X0) hown hK hP a (wld_o ct ad (xt G []) s43.2 hc hk (by decide)) rfl 8 (by decide) (hts (.fieldLink RX0 66 "VideoSuite$Coder" "planes" "[[I") (mu mw_822)) (fun _ h9 => h9) rfl dX0_beginPicture_333 ?_
                      refine lv_iconst (v := (3 : Int32)) hx hb dX0_beginPicture_336 (by decide) ?_
                      refine lv_iload_n hx hb dX0_beginPicture_337 rfl (lv_at hl 5 rfl) ?_
                      refine lv_imul hx hb dX0_beginPicture_338 ?_
                      obtain ⟨x68, ex68, hF⟩ := ltt_some hF
                      refine lv_topi (fun zx68 ezx68 => ?_)
                      obtain rfl : x68 = zx68 := ex68.trans ezx68.symm
                      refine lv_iload hx hb dX0_beginPicture_339 (lv_at hl 0 rfl) ?_
                      refine lv_iadd hx hb dX0_beginPicture_341 ?_
                      obtain ⟨x69, ex69, hF⟩ := ltt_some hF
                      refine lv_topi (fun zx69 ezx69 => ?_)
                      obtain rfl : x69 = zx69 := ex69.trans ezx69.symm
                      obtain ⟨b70, ho70, hc70, hk70, hF⟩ := dr_some hF
                      refine W_st (st' := [.int x69, .ref (ad b70), .int s43.1, va_re ad (s43.2.2 a 9)]) (by rw [va_some ho70]) ?_
                      obtain ⟨hvc, hF⟩ := chk_some hF
                      refine ld_g hx hb hK hP hc70 hk70 hvc dX0_beginPicture_342 ?_
                      obtain ⟨b71, ho71, hc71, hk71, hF⟩ := dr_some hF
                      refine W_st (st' := [va_re ad (s43.2.2 b70 x69.toNatClampNeg), .int s43.1, .ref (ad b71)]) (by rw [va_some ho71]) ?_
                      obtain ⟨b72, ho72, hc72, hk72, hF⟩ := dr_some hF
                      refine W_st (st' := [.ref (ad b72), .int s43.1, .ref (ad b71)]) (by rw [va_some ho72]) ?_
                      obtain ⟨hvc, hF⟩ := chk_some hF
                      refine st_g hx hb hN hK hP hD hS hc71 hk71 hc72 hk72 hvc dX0_beginPicture_343 (fun H locs hP hD hS => ?_)
                      obtain ⟨M73, eM73, hF⟩ := ltt_some hF
                      rw [← eM73] at hP hD
                      obtain ⟨x74, ex74, hF⟩ := ltt_some hF
                      refine lv_iinc (v := x74) (lv' := [(6, .int x74), (5, va_re ad (M.2 b7 0)), (4, .int y5), (3, .int x4), (0, .ref (ad a)), (1, .int p0), (2, .int p1)]) hx hb dX0_beginPicture_344 hl (k := 0) rfl (by rw [ex74]; rfl) (by decide) (by generalize ((M.2 b7 0)) = o9; cases o9 <;> rfl) (fun ls hl => ?_)
                      refine lv_goto (tgt := 320) hx hb dX0_beginPicture_347 (by decide) ?_
                      obtain rfl := Option.some.inj hF
                      exact hwz66 _ _ _ hP hD hS (lv_sub hl [0, 1, 2, 3, 4, 5, 6] rfl)
                  clear hF
                  have hF := hy41
                  clear hy41
                  refine lv_if_eq (tgt := 264) hx hb dX0_beginPicture_240 (by decide) (fun c75 => ?_) (fun c75 => ?_)
                  · rw [if_pos c75] at hF
                    refine lv_aload_n hx hb dX0_beginPicture_264 rfl (lv_at hl 3 rfl) ?_
                    refine va_get (D := D) (ci := 0) (v := va_re ad (M40.2 a 6)) (C := RX0) (T := TX0) (N := 21) hx hb hts (mus hf_X0) hown hK hP a (wld_o ct ad (xt G []) M40 hc hk (by decide)) rfl 6 (by decide) (hts (.fieldLink RX0 57 "VideoSuite$Coder" "store" "LVideoSuite$Store;") (mu mw_820)) (fun _ h9 => h9) rfl dX0_beginPicture_265 ?_
                    obtain ⟨b76, ho76, hc76, hk76, hF⟩ := dr_some hF
                    refine W_st (st' := [.ref (ad b76)]) (by rw [va_some ho76]) ?_
                    obtain ⟨y77, hy77, hF⟩ := bnd_some hF
                    have hf9 := wA_in hD hA9 hS
                    refine va_calli (va_runV (As := []) (rest := []) ⟨hx, hb, hml, hown, hts⟩ (kX7_shorts l D ct ad Z (xt G []) M40 H.size b76 y77 hc76 hk76 hy77) (cwV 0 hts gX0_beginPicture_X7_shorts rfl rfl rfl (by decide +kernel) ⟨Nat.le_of_ble_eq_true rfl, Nat.le_of_ble_eq_true rfl⟩) ⟨fun a U g mk q => by obtain ⟨q0, q1, qP, qK, qD, qZ, qN⟩ := q; exact ⟨q0, q1, qP, va_K.moved (u := U) (U := U.calling g mk a) (Vm.Alike.refl U.vm) qK, qD, sF.moved (u := U) (U := U.calling g mk a) (Vm.Alike.refl U.vm) qZ, nF.same rfl qN⟩, va_recv hK hP (ci := 7) (q0 := b76) rfl (wld_o ct ad (xt G []) M40 hc76 hk76 (by decide)), fun U hU hW => ⟨rfl, by rw [hU], by rw [hU]; exact hP, va_K.moved hW.alike hK, hD.weaken (fun _ _ _ _ => trivial), by rw [hU]; exact ((hZ.kept hS.2.1).narrow hf9).moved hW.alike, hN.warm hW⟩⟩ rfl rfl hl.1 rfl (lv_room (Nat.le_of_ble_eq_true rfl)) dX0_beginPicture_268 (room_d hT hbl)) hS (fun q _ h => hf9 q h) hf9 (fun r u t H locs ht hvm hw hB hz1 hk1 hS => ?_)
                    obtain ⟨hP, hK9, hD9⟩ := hB
                    rw [ht] at hP
                    try dsimp only at hw
                    subst hw
                    refine W_cs (k := ([] : NN).length) (n := wt []) rfl rfl ?_
                    have hD := hD9.weaken (fun _ q _ h => hf9 q.1 h)
                    refine lv_istore (lv' := [(6, .int y77.2), (5, va_re ad (M.2 b7 0)), (4, .int y5), (3, .int x4), (0, .ref (ad a)), (1, .int p0), (2, .int p1)]) hx hb dX0_beginPicture_271 hl (by decide) (by generalize ((M.2 b7 0)) = o9; cases o9 <;> rfl) (fun ls hl => ?_)
                    refine lv_aloadq hx hb dX0_beginPicture_273 (lv_at hl 1 rfl) ?_
                    refine lv_bipush (v := (9 : Int32)) hx hb dX0_beginPicture_275 (by decide) ?_
                    refine lv_iload hx hb dX0_beginPicture_277 (lv_at hl 0 rfl) ?_
                    refine lv_aload_n hx hb dX0_beginPicture_279 rfl (lv_at hl 4 rfl) ?_
                    refine va_get (D := D) (ci := 0) (v := va_re ad (y77.1.2 a 1)) (C := RX0) (T := TX0) (N := 21) hx hb hts (mus hf_X0) hown hK hP a (wld_o ct ad (xt G []) y77.1 hc hk (by decide)) rfl 1 (by decide) (hts (.fieldLink RX0 23 "VideoSuite$Coder" "now" "[I") (mu mw_813)) (fun _ h9 => h9) rfl dX0_beginPicture_280 ?_
                    refine lv_bipush (v := (7 : Int32)) hx hb dX0_beginPicture_283 (by decide) ?_
                    obtain ⟨b78, ho78, hc78, hk78, hF⟩ := dr_some hF
                    refine W_st (st' := [.int (7 : Int32), .ref (ad b78), .int y77.2, .int (9 : Int32), va_re ad (M.2 b7 0)]) (by rw [va_some ho78]) ?_
                    obtain ⟨hvc, hF⟩ := chk_some hF
                    refine va_iald hx hb hK hP b78 1 (wld_i ct ad (xt G []) y77.1 hc78 hk78) rfl hvc dX0_beginPicture_285 ?_
                    obtain ⟨x79, ex79, hF⟩ := ltt_some hF
                    refine lv_topi (fun zx79 ezx79 => ?_)
                    obtain rfl : x79 = zx79 := ex79.trans ezx79.symm
                    obtain ⟨y80, hy80, hF⟩ := bnd_some hF
                    have J80 : ∀ (H : Heap) (locs : List Loc) (ls : Array Slot), va_P D classes (wld ct ad (xt G []) y77.1) H → va_D A (wld ct ad (xt G []) y77.1) → va_S A s.heap H locs → lv_has ls 7 [(6, .int y77.2), (5, va_re ad (M.2 b7 0)), (4, .int y5), (3, .int x4), (0, .ref (ad a)), (1, .int p0), (2, .int p1)] → W p l e (headSpec wuX0_beginPicture ({ frames := 3, cells := y.1.length, slots := wt y.1, locals := 72 })).room s m ([.ref (ad a), .int p0, .int p1] : List Value).toArray below meth c H locs ([] : NN).length (wt []) (MQ below (va_Qv (fun (u : Nat → Nat) => agr G.1 ad u) (fun u t => kE D ct u (xt G y.1) A y.2 t) A) ([.ref (ad a), .int p0, .int p1] : List Value).toArray s y.1.length (wt y.1) A) (F0 m 301 ls [.int y80, .int (9 : Int32), va_re ad (M.2 b7 0)]) := by
                      intro H locs ls hP hD hS hl
                      refine W_st (st' := [.int y80, .int (9 : Int32), .ref (ad b12)]) (by rw [va_some ho12]) ?_
                      obtain ⟨hvc, hF⟩ := chk_some hF
                      refine va_iast hx hb hK hP hD hS b12 1 (wld_i ct ad (xt G []) y77.1 hc12 hk12) rfl hvc dX0_beginPicture_301 (fun H locs hP hD hS => ?_)
                      obtain ⟨M81, eM81, hF⟩ := ltt_some hF
                      rw [set_i ct ad (xt G []) y77.1 hc12 hk12, ← eM81] at hP hD
                      refine lv_aloadq hx hb dX0_beginPicture_302 (lv_at hl 1 rfl) ?_
                      refine lv_bipush (v := (10 : Int32)) hx hb dX0_beginPicture_304 (by decide) ?_
                      refine lv_iload_n hx hb dX0_beginPicture_306 rfl (lv_at hl 6 rfl) ?_
                      refine lv_iconst (v := (1 : Int32)) hx hb dX0_beginPicture_307 (by decide) ?_
                      obtain ⟨y82, hy82, hF⟩ := bnd_some hF
                      have J82 : ∀ (H : Heap) (locs : List Loc) (ls : Array Slot), va_P D classes (wld ct ad (xt G []) M81) H → va_D A (wld ct ad (xt G []) M81) → va_S A s.heap H locs → lv_has ls 7 [(6, .int y77.2), (5, va_re ad (M.2 b7 0)), (4, .int y5), (3, .int x4), (0, .ref (ad a)), (1, .int p0), (2, .int p1)] → W p l e (headSpec wuX0_beginPicture ({ frames := 3, cells := y.1.length, slots := wt y.1, locals := 72 })).room s m ([.ref (ad a), .int p0, .int p1] : List Value).toArray below meth c H locs ([] : NN).length (wt []) (MQ below (va_Qv (fun (u : Nat → Nat) => agr G.1 ad u) (fun u t => kE D ct u (xt G y.1) A y.2 t) A) ([.ref (ad a), .int p0, .int p1] : List Value).toArray s y.1.length (wt y.1) A) (F0 m 316 ls [.int y82, .int (10 : Int32), va_re ad (M.2 b7 0)]) := by
                        intro H locs ls hP hD hS hl
                        refine W_st (st' := [.int y82, .int (10 : Int32), .ref (ad b12)]) (by rw [va_some ho12]) ?_
                        obtain ⟨hvc, hF⟩ := chk_some hF
                        refine va_iast hx hb hK hP hD hS b12 1 (wld_i ct ad (xt G []) M81 hc12 hk12) rfl hvc dX0_beginPicture_316 (fun H locs hP hD hS => ?_)
                        obtain ⟨M83, eM83, hF⟩ := ltt_some hF
                        rw [set_i ct ad (xt G []) M81 hc12 hk12, ← eM83] at hP hD
                        obtain rfl := Option.some.inj hF
                        exact J41 _ _ _ hP hD hS (lv_sub hl [1, 2, 3, 4, 5, 6] rfl)
                      clear hF
                      have hF := hy82
                      clear hy82
                      refine lv_icmp_ne (tgt := 315) hx hb dX0_beginPicture_308 (by decide) (fun c84 => ?_) (fun c84 => ?_)
                      · rw [if_neg c84] at hF
                        refine lv_iconst (v := (0 : Int32)) hx hb dX0_beginPicture_315 (by decide) ?_
                        obtain rfl := Option.some.inj hF
                        exact J82 _ _ _ hP hD hS (lv_sub hl [0, 1, 2, 3, 4, 5, 6] rfl)
                      · rw [if_pos c84] at hF
                        refine lv_iconst (v := (1 : Int32)) hx hb dX0_beginPicture_311 (by decide) ?_
                        refine lv_goto (tgt := 316) hx hb dX0_beginPicture_312 (by decide) ?_
                        obtain rfl := Option.some.inj hF
                        exact J82 _ _ _ hP hD hS (lv_sub hl [0, 1, 2, 3, 4, 5, 6] rfl)
                    clear hF
                    have hF := hy80
                    clear hy80
                    refine lv_icmp_ge (tgt := 294) hx hb dX0_beginPicture_286 (by decide) (fun c85 => ?_) (fun c85 => ?_)
                    · rw [if_pos c85] at hF
                      refine lv_aload_n hx hb dX0_beginPicture_294 rfl (lv_at hl 4 rfl) ?_
                      refine va_get (D := D) (ci := 0) (v := va_re ad (y77.1.2 a 1)) (C := RX0) (T := TX0) (N := 21) hx hb hts (mus hf_X0) hown hK hP a (wld_o ct ad (xt G []) y77.1 hc hk (by decide)) rfl 1 (by decide) (hts (.fieldLink RX0 23 "VideoSuite$Coder" "now" "[I") (mu mw_813)) (fun _ h9 => h9) rfl dX0_beginPicture_295 ?_
                      refine lv_bipush (v := (7 : Int32)) hx hb dX0_beginPicture_298 (by decide) ?_
                      refine W_st (st' := [.int (7 : Int32), .ref (ad b78), .int (9 : Int32), va_re ad (M.2 b7 0)]) (by rw [va_some ho78]) ?_
                      obtain ⟨hvc, hF⟩ := chk_some hF
                      refine va_iald hx hb hK hP b78 1 (wld_i ct ad (xt G []) y77.1 hc78 hk78) rfl hvc dX0_beginPicture_300 ?_
                      obtain ⟨x86, ex86, hF⟩ := ltt_some hF
                      refine lv_topi (fun zx86 ezx86 => ?_)
                      obtain rfl : x86 = zx86 := ex86.trans ezx86.symm
                      obtain rfl := Option.some.inj hF
                      exact J80 _ _ _ hP hD hS (lv_sub hl [0, 1, 2, 3, 4, 5, 6] rfl)
                    · rw [if_neg c85] at hF
                      refine lv_iload hx hb dX0_beginPicture_289 (lv_at hl 0 rfl) ?_
                      refine lv_goto (tgt := 301) hx hb dX0_beginPicture_291 (by decide) ?_
                      obtain rfl := Option.some.inj hF
                      exact J80 _ _ _ hP hD hS (lv_sub hl [0, 1, 2, 3, 4, 5, 6] rfl)
                  · rw [if_neg c75] at hF
                    refine lv_aloadq hx hb dX0_beginPicture_243 (lv_at hl 0 rfl) ?_
                    refine lv_iconst (v := (4 : Int32)) hx hb dX0_beginPicture_245 (by decide) ?_
                    refine lv_aload_n hx hb dX0_beginPicture_246 rfl (lv_at hl 3 rfl) ?_
                    refine va_get (D := D) (ci := 0) (v := .int (M40.1 a 13)) (C := RX0) (T := TX0) (N := 21) hx hb hts (mus hf_X0) hown hK hP a (wld_o ct ad (xt G []) M40 hc hk (by decide)) rfl 13 (by decide) (hts (.fieldLink RX0 110 "VideoSuite$Coder" "ownId" "I") (mu mw_828)) (fun _ h9 => h9) rfl dX0_beginPicture_247 ?_
                    obtain ⟨x87, ex87, hF⟩ := ltt_some hF
                    refine lv_topi (fun zx87 ezx87 => ?_)
                    obtain rfl : x87 = zx87 := ex87.trans ezx87.symm
                    refine W_st (st' := [.int x87, .int (4 : Int32), .ref (ad b12)]) (by rw [va_some ho12]) ?_
                    obtain ⟨hvc, hF⟩ := chk_some hF
                    refine va_iast hx hb hK hP hD hS b12 1 (wld_i ct ad (xt G []) M40 hc12 hk12) rfl hvc dX0_beginPicture_250 (fun H locs hP hD hS => ?_)
                    obtain ⟨M88, eM88, hF⟩ := ltt_some hF
                    rw [set_i ct ad (xt G []) M40 hc12 hk12, ← eM88] at hP hD
                    refine lv_aload_n hx hb dX0_beginPicture_251 rfl (lv_at hl 3 rfl) ?_
                    refine lv_iconst (v := (1 : Int32)) hx hb dX0_beginPicture_252 (by decide) ?_
                    refine lv_aload_n hx hb dX0_beginPicture_253 rfl (lv_at hl 3 rfl) ?_
                    refine va_get (D := D) (ci := 0) (v := .int (M88.1 a 13)) (C := RX0) (T := TX0) (N := 21) hx hb hts (mus hf_X0) hown hK hP a (wld_o ct ad (xt G []) M88 hc hk (by decide)) rfl 13 (by decide) (hts (.fieldLink RX0 110 "VideoSuite$Coder" "ownId" "I") (mu mw_828)) (fun _ h9 => h9) rfl dX0_beginPicture_254 ?_
                    obtain ⟨x89, ex89, hF⟩ := ltt_some hF
                    refine lv_topi (fun zx89 ezx89 => ?_)
                    obtain rfl : x89 = zx89 := ex89.trans ezx89.symm
                    refine lv_isub hx hb dX0_beginPicture_257 ?_
                    obtain ⟨x90, ex90, hF⟩ := ltt_some hF
                    refine lv_topi (fun zx90 ezx90 => ?_)
                    obtain rfl : x90 = zx90 := ex90.trans ezx90.symm
                    refine va_put (D := D) (ci := 0) (v := .int x90) (ty := .int) (C := RX0) (T := TX0) (N := 21) hx hb hts (mus hf_X0) tyX0 tyX0_ok nmX0 hown hK hP hD hS a (wld_o ct ad (xt G []) M88 hc hk (by decide)) rfl 13 (by decide) (hts (.fieldLink RX0 110 "VideoSuite$Coder" "ownId" "I") (mu mw_828)) (fun _ h9 => h9) rfl (by decide +kernel) rfl rfl (Nat.le_of_ble_eq_true rfl) dX0_beginPicture_258 (fun H locs hP hD hS => ?_)
                    obtain ⟨M91, eM91, hF⟩ := ltt_some hF
                    rw [set_oI ct ad (xt G []) M88 hc hk (by decide) (by rfl), ← eM91] at hP hD
                    refine lv_goto (tgt := 317) hx hb dX0_beginPicture_261 (by decide) ?_
                    obtain rfl := Option.some.inj hF
                    exact J41 _ _ _ hP hD hS (lv_sub hl [0, 1, 2, 3, 4, 5] rfl)
                clear hF
                have hF := hy39
                clear hy39
                refine lv_icmp_ne (tgt := 230) hx hb dX0_beginPicture_223 (by decide) (fun c92 => ?_) (fun c92 => ?_)
                · rw [if_neg c92] at hF
                  refine lv_aload_n hx hb dX0_beginPicture_230 rfl (lv_at hl 3 rfl) ?_
                  refine va_get (D := D) (ci := 0) (v := va_re ad (M36.2 a 1)) (C := RX0) (T := TX0) (N := 21) hx hb hts (mus hf_X0) hown hK hP a (wld_o ct ad (xt G []) M36 hc hk (by decide)) rfl 1 (by decide) (hts (.fieldLink RX0 23 "VideoSuite$Coder" "now" "[I") (mu mw_813)) (fun _ h9 => h9) rfl dX0_beginPicture_231 ?_
                  refine lv_bipush (v := (15 : Int32)) hx hb dX0_beginPicture_234 (by decide) ?_
                  refine W_st (st' := [.int (15 : Int32), .ref (ad b37), .int (15 : Int32), va_re ad (M.2 b7 0)]) (by rw [va_some ho37]) ?_
                  obtain ⟨hvc, hF⟩ := chk_some hF
                  refine va_iald hx hb hK hP b37 1 (wld_i ct ad (xt G []) M36 hc37 hk37) rfl hvc dX0_beginPicture_236 ?_
                  obtain ⟨x93, ex93, hF⟩ := ltt_some hF
                  refine lv_topi (fun zx93 ezx93 => ?_)
                  obtain rfl : x93 = zx93 := ex93.trans ezx93.symm
                  obtain rfl := Option.some.inj hF
                  exact J39 _ _ _ hP hD hS (lv_sub hl [0, 1, 2, 3, 4, 5] rfl)
                · rw [if_pos c92] at hF
                  refine lv_iconst (v := (0 : Int32)) hx hb dX0_beginPicture_226 (by decide) ?_
                  refine lv_goto (tgt := 237) hx hb dX0_beginPicture_227 (by decide) ?_
                  obtain rfl := Option.some.inj hF
                  exact J39 _ _ _ hP hD hS (lv_sub hl [0, 1, 2, 3, 4, 5] rfl)
              clear hF
              have hF := hy35
              clear hy35
              refine lv_icmp_ne (tgt := 203) hx hb dX0_beginPicture_196 (by decide) (fun c94 => ?_) (fun c94 => ?_)
              · rw [if_neg c94] at hF
                refine lv_aload_n hx hb dX0_beginPicture_203 rfl (lv_at hl 3 rfl) ?_
                refine va_get (D := D) (ci := 0) (v := va_re ad (M32.2 a 1)) (C := RX0) (T := TX0) (N := 21) hx hb hts (mus hf_X0) hown hK hP a (wld_o ct ad (xt G []) M32 hc hk (by decide)) rfl 1 (by decide) (hts (.fieldLink RX0 23 "VideoSuite$Coder" "now" "[I") (mu mw_813)) (fun _ h9 => h9) rfl dX0_beginPicture_204 ?_
                refine lv_bipush (v := (14 : Int32)) hx hb dX0_beginPicture_207 (by decide) ?_
                refine W_st (st' := [.int (14 : Int32), .ref (ad b33), .int (14 : Int32), va_re ad (M.2 b7 0)]) (by rw [va_some ho33]) ?_
                obtain ⟨hvc, hF⟩ := chk_some hF
                refine va_iald hx hb hK hP b33 1 (wld_i ct ad (xt G []) M32 hc33 hk33) rfl hvc dX0_beginPicture_209 ?_
                obtain ⟨x95, ex95, hF⟩ := ltt_some hF
                refine lv_topi (fun zx95 ezx95 => ?_)
                obtain rfl : x95 = zx95 := ex95.trans ezx95.symm
                obtain rfl := Option.some.inj hF
                exact J35 _ _ _ hP hD hS (lv_sub hl [0, 1, 2, 3, 4, 5] rfl)
              · rw [if_pos c94] at hF
                refine lv_iconst (v := (0 : Int32)) hx hb dX0_beginPicture_199 (by decide) ?_
                refine lv_goto (tgt := 210) hx hb dX0_beginPicture_200 (by decide) ?_
                obtain rfl := Option.some.inj hF
                exact J35 _ _ _ hP hD hS (lv_sub hl [0, 1, 2, 3, 4, 5] rfl)
            clear hF
            have hF := hy25
            clear hy25
            refine lv_if_ne (tgt := 158) hx hb dX0_beginPicture_143 (by decide) (fun c96 => ?_) (fun c96 => ?_)
            · rw [if_neg c96] at hF
              refine lv_iconst (v := (0 : Int32)) hx hb dX0_beginPicture_158 (by decide) ?_
              obtain rfl := Option.some.inj hF
              exact J25 _ _ _ hP hD hS (lv_sub hl [0, 1, 2, 3, 4, 5] rfl)
            · rw [if_pos c96] at hF
              refine lv_aloadq hx hb dX0_beginPicture_146 (lv_at hl 0 rfl) ?_
              refine lv_bipush (v := (17 : Int32)) hx hb dX0_beginPicture_148 (by decide) ?_
              refine W_st (st' := [.int (17 : Int32), .ref (ad b12), .int (5 : Int32), .ref (ad b12)]) (by rw [va_some ho12]) ?_
              obtain ⟨hvc, hF⟩ := chk_some hF
              refine va_iald hx hb hK hP b12 1 (wld_i ct ad (xt G []) M22 hc12 hk12) rfl hvc dX0_beginPicture_150 ?_
              obtain ⟨x97, ex97, hF⟩ := ltt_some hF
              refine lv_topi (fun zx97 ezx97 => ?_)
              obtain rfl : x97 = zx97 := ex97.trans ezx97.symm
              refine lv_sipush (v := (255 : Int32)) hx hb dX0_beginPicture_151 (by decide) ?_
              refine lv_iand hx hb dX0_beginPicture_154 ?_
              obtain ⟨x98, ex98, hF⟩ := ltt_some hF
              refine lv_topi (fun zx98 ezx98 => ?_)
              obtain rfl : x98 = zx98 := ex98.trans ezx98.symm
              refine lv_goto (tgt := 159) hx hb dX0_beginPicture_155 (by decide) ?_
              obtain rfl := Option.some.inj hF
              refine W_st (st' := [.int x98, .int (5 : Int32), va_re ad (M.2 b7 0)]) (by rw [va_some ho12]) ?_
              exact J25 _ _ _ hP hD hS (lv_sub hl [0, 1, 2, 3, 4, 5] rfl)
          clear hF
          have hF := hy17
          clear hy17
          refine lv_if_eq (tgt := 106) hx hb dX0_beginPicture_99 (by decide) (fun c99 => ?_) (fun c99 => ?_)
          · rw [if_pos c99] at hF
            refine lv_aload_n hx hb dX0_beginPicture_106 rfl (lv_at hl 3 rfl) ?_
            refine va_get (D := D) (ci := 0) (v := va_re ad (M16.2 a 6)) (C := RX0) (T := TX0) (N := 21) hx hb hts (mus hf_X0) hown hK hP a (wld_o ct ad (xt G []) M16 hc hk (by decide)) rfl 6 (by decide) (hts (.fieldLink RX0 57 "VideoSuite$Coder" "store" "LVideoSuite$Store;") (mu mw_820)) (fun _ h9 => h9) rfl dX0_beginPicture_107 ?_
            obtain ⟨b100, ho100, hc100, hk100, hF⟩ := dr_some hF
            refine W_st (st' := [.ref (ad b100), .int (3 : Int32), va_re ad (M.2 b7 0)]) (by rw [va_some ho100]) ?_
            refine va_get (D := D) (ci := 7) (v := .int (M16.1 b100 5)) (C := RX7) (T := TX7) (N := 17) hx hb hts (mus hf_X7) hown hK hP b100 (wld_o ct ad (xt G []) M16 hc100 hk100 (by decide)) rfl 5 (by decide) (hts (.fieldLink RX0 255 "VideoSuite$Store" "last" "I") (mu mw_363)) (fun _ h9 => h9) rfl dX0_beginPicture_110 ?_
            obtain ⟨x101, ex101, hF⟩ := ltt_some hF
            refine lv_topi (fun zx101 ezx101 => ?_)
            obtain rfl : x101 = zx101 := ex101.trans ezx101.symm
            refine lv_iconst (v := (1 : Int32)) hx hb dX0_beginPicture_113 (by decide) ?_
            refine lv_iadd hx hb dX0_beginPicture_114 ?_
            obtain ⟨x102, ex102, hF⟩ := ltt_some hF
            refine lv_topi (fun zx102 ezx102 => ?_)
            obtain rfl : x102 = zx102 := ex102.trans ezx102.symm
            refine lv_sipush (v := (256 : Int32)) hx hb dX0_beginPicture_115 (by decide) ?_
            refine lv_irem hx hb dX0_beginPicture_118 (by decide) ?_
            obtain ⟨x103, ex103, hF⟩ := ltt_some hF
            refine lv_topi (fun zx103 ezx103 => ?_)
            obtain rfl : x103 = zx103 := ex103.trans ezx103.symm
            obtain rfl := Option.some.inj hF
            exact J17 _ _ _ hP hD hS (lv_sub hl [0, 1, 2, 3, 4, 5] rfl)
          · rw [if_neg c99] at hF
            refine lv_iconst (v := (0 : Int32)) hx hb dX0_beginPicture_102 (by decide) ?_
            refine lv_goto (tgt := 119) hx hb dX0_beginPicture_103 (by decide) ?_
            obtain rfl := Option.some.inj hF
            exact J17 _ _ _ hP hD hS (lv_sub hl [0, 1, 2, 3, 4, 5] rfl)
        clear hF
        have hF := hy15
        clear hy15
        refine lv_icmp_ne (tgt := 92) hx hb dX0_beginPicture_85 (by decide) (fun c104 => ?_) (fun c104 => ?_)
        · rw [if_neg c104] at hF
          refine lv_iconst (v := (1 : Int32)) hx hb dX0_beginPicture_92 (by decide) ?_
          obtain rfl := Option.some.inj hF
          exact J15 _ _ _ hP hD hS (lv_sub hl [0, 1, 2, 3, 4, 5] rfl)
        · rw [if_pos c104] at hF
          refine lv_iconst (v := (0 : Int32)) hx hb dX0_beginPicture_88 (by decide) ?_
          refine lv_goto (tgt := 93) hx hb dX0_beginPicture_89 (by decide) ?_
          obtain rfl := Option.some.inj hF
          exact J15 _ _ _ hP hD hS (lv_sub hl [0, 1, 2, 3, 4, 5] rfl)
      clear hF
      have hF := hy11
      clear hy11
      refine lv_if_eq (tgt := 72) hx hb dX0_beginPicture_65 (by decide) (fun c105 => ?_) (fun c105 => ?_)
      · rw [if_pos c105] at hF
        refine lv_iconst (v := (1 : Int32)) hx hb dX0_beginPicture_72 (by decide) ?_
        obtain rfl := Option.some.inj hF
        exact J11 _ _ _ hP hD hS (lv_sub hl [0, 1, 2, 3, 4, 5] rfl)
      · rw [if_neg c105] at hF
        refine lv_iconst (v := (5 : Int32)) hx hb dX0_beginPicture_68 (by decide) ?_
        refine lv_goto (tgt := 73) hx hb dX0_beginPicture_69 (by decide) ?_
        obtain rfl := Option.some.inj hF
        exact J11 _ _ _ hP hD hS (lv_sub hl [0, 1, 2, 3, 4, 5] rfl)
    clear hF
    have hF := hy9
    clear hy9
    refine lv_if_eq (tgt := 52) hx hb dX0_beginPicture_45 (by decide) (fun c106 => ?_) (fun c106 => ?_)
    · rw [if_pos c106] at hF
      refine lv_aload_n hx hb dX0_beginPicture_52 rfl (lv_at hl 3 rfl) ?_
      refine va_get (D := D) (ci := 0) (v := .int (y8.1 a 12)) (C := RX0) (T := TX0) (N := 21) hx hb hts (mus hf_X0) hown hK hP a (wld_o ct ad (xt G []) y8 hc hk (by decide)) rfl 12 (by decide) (hts (.fieldLink RX0 107 "VideoSuite$Coder" "ownAt" "I") (mu mw_827)) (fun _ h9 => h9) rfl dX0_beginPicture_53 ?_
      obtain ⟨x107, ex107, hF⟩ := ltt_some hF
      refine lv_topi (fun zx107 ezx107 => ?_)
      obtain rfl : x107 = zx107 := ex107.trans ezx107.symm
      obtain rfl := Option.some.inj hF
      exact J9 _ _ _ hP hD hS (lv_sub hl [0, 1, 2, 3, 4, 5] rfl)
    · rw [if_neg c106] at hF
      refine lv_iload_n hx hb dX0_beginPicture_48 rfl (lv_at hl 2 rfl) ?_
      refine lv_goto (tgt := 56) hx hb dX0_beginPicture_49 (by decide) ?_
      obtain rfl := Option.some.inj hF
      exact J9 _ _ _ hP hD hS (lv_sub hl [0, 1, 2, 3, 4, 5] rfl)
  clear hF
  have hF := hy5
  clear hy5
  refine lv_icmp_ne (tgt := 21) hx hb dX0_beginPicture_14 (by decide) (fun c108 => ?_) (fun c108 => ?_)
  · rw [if_neg c108] at hF
    refine lv_iconst (v := (0 : Int32)) hx hb dX0_beginPicture_21 (by decide) ?_
    obtain rfl := Option.some.inj hF
    exact J5 _ _ _ hP hD hS (lv_sub hl [0, 1, 2, 3] rfl)
  · rw [if_pos c108] at hF
    refine lv_iconst (v := (1 : Int32)) hx hb dX0_beginPicture_17 (by decide) ?_
    refine lv_goto (tgt := 22) hx hb dX0_beginPicture_18 (by decide) ?_
    obtain rfl := Option.some.inj hF
    exact J5 _ _ _ hP hD hS (lv_sub hl [0, 1, 2, 3] rfl)
