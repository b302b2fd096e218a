set_option maxRecDepth 20000 in
theorem gX1_readTurns_X5_fixed : GoodIn wuX1_readTurns (wsV RX1 183 RX5 yX5_fixed wuX5_fixed) := gu_V mw_1355 mw_1356 mw_1357 mw_169 mw_1358
set_option maxRecDepth 20000 in
set_option maxRecDepth 20000 in
theorem gX1_readTurns_X1_signed : GoodIn wuX1_readTurns (wsV RX1 209 RX1 yX1_signed wuX1_signed) := gu_V mw_1364 mw_1366 mw_36 mw_168 mw_1367
set_option maxRecDepth 20000 in
set_option maxRecDepth 20000 in
theorem gX1_readTurns_X1_unsigned : GoodIn wuX1_readTurns (wsV RX1 186 RX1 yX1_unsigned wuX1_unsigned) := gu_V mw_1350 mw_1352 mw_34 mw_168 mw_1353
theorem dX1_readTurns_0 : decode cX1_readTurns 0 = .ok (.aload_n 1, 1) := by decide +kernel
theorem dX1_readTurns_1 : decode cX1_readTurns 1 = .ok (.bipush 11, 2) := by decide +kernel
theorem dX1_readTurns_3 : decode cX1_readTurns 3 = .ok (.aload_n 0, 1) := by decide +kernel
theorem dX1_readTurns_4 : decode cX1_readTurns 4 = .ok (.getfield 12, 3) := by decide +kernel
theorem dX1_readTurns_7 : decode cX1_readTurns 7 = .ok (.iconst 0, 1) := by decide +kernel
theorem dX1_readTurns_8 : decode cX1_readTurns 8 = .ok (.iconst 1, 1) := by decide +kernel
theorem dX1_readTurns_9 : decode cX1_readTurns 9 = .ok (.invokevirtual 183, 3) := by decide +kernel
theorem dX1_readTurns_12 : decode cX1_readTurns 12 = .ok (.iastore, 1) := by decide +kernel
theorem dX1_readTurns_13 : decode cX1_readTurns 13 = .ok (.aload_n 1, 1) := by decide +kernel
theorem dX1_readTurns_14 : decode cX1_readTurns 14 = .ok (.bipush 12, 2) := by decide +kernel
theorem dX1_readTurns_16 : decode cX1_readTurns 16 = .ok (.aload_n 0, 1) := by decide +kernel
theorem dX1_readTurns_17 : decode cX1_readTurns 17 = .ok (.sipush (-32768), 3) := by decide +kernel
theorem dX1_readTurns_20 : decode cX1_readTurns 20 = .ok (.sipush 32767, 3) := by decide +kernel
theorem dX1_readTurns_23 : decode cX1_readTurns 23 = .ok (.invokevirtual 209, 3) := by decide +kernel
theorem dX1_readTurns_26 : decode cX1_readTurns 26 = .ok (.iastore, 1) := by decide +kernel
theorem dX1_readTurns_27 : decode cX1_readTurns 27 = .ok (.aload_n 1, 1) := by decide +kernel
theorem dX1_readTurns_28 : decode cX1_readTurns 28 = .ok (.bipush 13, 2) := by decide +kernel
theorem dX1_readTurns_30 : decode cX1_readTurns 30 = .ok (.aload_n 0, 1) := by decide +kernel
theorem dX1_readTurns_31 : decode cX1_readTurns 31 = .ok (.sipush (-32768), 3) := by decide +kernel
theorem dX1_readTurns_34 : decode cX1_readTurns 34 = .ok (.sipush 32767, 3) := by decide +kernel
theorem dX1_readTurns_37 : decode cX1_readTurns 37 = .ok (.invokevirtual 209, 3) := by decide +kernel
theorem dX1_readTurns_40 : decode cX1_readTurns 40 = .ok (.iastore, 1) := by decide +kernel
theorem dX1_readTurns_41 : decode cX1_readTurns 41 = .ok (.aload_n 1, 1) := by decide +kernel
theorem dX1_readTurns_42 : decode cX1_readTurns 42 = .ok (.bipush 14, 2) := by decide +kernel
theorem dX1_readTurns_44 : decode cX1_readTurns 44 = .ok (.aload_n 0, 1) := by decide +kernel
theorem dX1_readTurns_45 : decode cX1_readTurns 45 = .ok (.bipush 8, 2) := by decide +kernel
theorem dX1_readTurns_47 : decode cX1_readTurns 47 = .ok (.invokevirtual 186, 3) := by decide +kernel
theorem dX1_readTurns_50 : decode cX1_readTurns 50 = .ok (.iastore, 1) := by decide +kernel
theorem dX1_readTurns_51 : decode cX1_readTurns 51 = .ok (.iconst 0, 1) := by decide +kernel
theorem dX1_readTurns_52 : decode cX1_readTurns 52 = .ok (.istore_n 2, 1) := by decide +kernel
theorem dX1_readTurns_53 : decode cX1_readTurns 53 = .ok (.iload_n 2, 1) := by decide +kernel
theorem dX1_readTurns_54 : decode cX1_readTurns 54 = .ok (.aload_n 1, 1) := by decide +kernel
theorem dX1_readTurns_55 : decode cX1_readTurns 55 = .ok (.bipush 14, 2) := by decide +kernel
theorem dX1_readTurns_57 : decode cX1_readTurns 57 = .ok (.iaload, 1) := by decide +kernel
theorem dX1_readTurns_58 : decode cX1_readTurns 58 = .ok (.if_icmp .ge 34, 3) := by decide +kernel
theorem dX1_readTurns_61 : decode cX1_readTurns 61 = .ok (.bipush 15, 2) := by decide +kernel
theorem dX1_readTurns_63 : decode cX1_readTurns 63 = .ok (.iload_n 2, 1) := by decide +kernel
theorem dX1_readTurns_64 : decode cX1_readTurns 64 = .ok (.iadd, 1) := by decide +kernel
theorem dX1_readTurns_65 : decode cX1_readTurns 65 = .ok (.bipush 23, 2) := by decide +kernel
theorem dX1_readTurns_67 : decode cX1_readTurns 67 = .ok (.if_icmp .ge 25, 3) := by decide +kernel
theorem dX1_readTurns_70 : decode cX1_readTurns 70 = .ok (.aload_n 1, 1) := by decide +kernel
theorem dX1_readTurns_71 : decode cX1_readTurns 71 = .ok (.bipush 15, 2) := by decide +kernel
theorem dX1_readTurns_73 : decode cX1_readTurns 73 = .ok (.iload_n 2, 1) := by decide +kernel
theorem dX1_readTurns_74 : decode cX1_readTurns 74 = .ok (.iadd, 1) := by decide +kernel
theorem dX1_readTurns_75 : decode cX1_readTurns 75 = .ok (.aload_n 0, 1) := by decide +kernel
theorem dX1_readTurns_76 : decode cX1_readTurns 76 = .ok (.sipush (-32768), 3) := by decide +kernel
theorem dX1_readTurns_79 : decode cX1_readTurns 79 = .ok (.sipush 32767, 3) := by decide +kernel
theorem dX1_readTurns_82 : decode cX1_readTurns 82 = .ok (.invokevirtual 209, 3) := by decide +kernel
theorem dX1_readTurns_85 : decode cX1_readTurns 85 = .ok (.iastore, 1) := by decide +kernel
theorem dX1_readTurns_86 : decode cX1_readTurns 86 = .ok (.iinc 2 1, 3) := by decide +kernel
theorem dX1_readTurns_89 : decode cX1_readTurns 89 = .ok (.goto (-36), 3) := by decide +kernel
theorem dX1_readTurns_92 : decode cX1_readTurns 92 = .ok (.return_, 1) := by decide +kernel
def FX1_readTurns (G : GG) (M : DD) (a : Nat) (p0 : Option Nat) : Option (DD) :=
  dr G 5 ((M.2 a 0)) fun b2 =>
  bnd (FX5_fixed G M b2 ((0 : Int32)) ((1 : Int32))) fun y3 =>
  dr G 13 p0 fun b4 =>
  chk (¬ (((11 : Int32)) < 0 ∨ G.2.2 b4 ≤ ((11 : Int32)).toNatClampNeg)) <|
  ltt (uI y3.1 b4 ((11 : Int32)).toNatClampNeg y3.2) fun M5 =>
  bnd (FX1_signed G M5 a ((-32768 : Int32)) ((32767 : Int32))) fun y6 =>
  chk (¬ (((12 : Int32)) < 0 ∨ G.2.2 b4 ≤ ((12 : Int32)).toNatClampNeg)) <|
  ltt (uI y6.1 b4 ((12 : Int32)).toNatClampNeg y6.2) fun M7 =>
  bnd (FX1_signed G M7 a ((-32768 : Int32)) ((32767 : Int32))) fun y8 =>
  chk (¬ (((13 : Int32)) < 0 ∨ G.2.2 b4 ≤ ((13 : Int32)).toNatClampNeg)) <|
  ltt (uI y8.1 b4 ((13 : Int32)).toNatClampNeg y8.2) fun M9 =>
  bnd (FX1_unsigned G M9 a ((8 : Int32))) fun y10 =>
  chk (¬ (((14 : Int32)) < 0 ∨ G.2.2 b4 ≤ ((14 : Int32)).toNatClampNeg)) <|
  ltt (uI y10.1 b4 ((14 : Int32)).toNatClampNeg y10.2) fun M11 =>
  bnd (itr (fun (s13 : Int32 × DD) => ((chk (¬ (((14 : Int32)) < 0 ∨ G.2.2 b4 ≤ ((14 : Int32)).toNatClampNeg)) <|
  ltt (s13.2.1 b4 ((14 : Int32)).toNatClampNeg) fun x16 =>
  if x16 ≤ s13.1 then (some (.inr (s13.1, s13.2))) else
  (ltt ((((15 : Int32)) + s13.1)) fun x18 =>
  if ((23 : Int32)) ≤ x18 then (some (.inr (s13.1, s13.2))) else
  (ltt ((((15 : Int32)) + s13.1)) fun x20 =>
  bnd (FX1_signed G s13.2 a ((-32768 : Int32)) ((32767 : Int32))) fun y21 =>
  chk (¬ (x20 < 0 ∨ G.2.2 b4 ≤ x20.toNatClampNeg)) <|
  ltt (uI y21.1 b4 x20.toNatClampNeg y21.2) fun M22 =>
  ltt (s13.1 + (1 : Int32)) fun x23 =>
  some (.inl (x23, M22))))) : Option ((Int32 × DD) ⊕ (Int32 × DD)))) 1000000 ((0 : Int32), M11)) fun (y12 : Int32 × DD) =>
  some y12.2
set_option maxHeartbeats 4000000 in
set_option maxRecDepth 100000 in
theorem kX1_readTurns (l : Launch) (D : va_G) (ct : CT) (ad : Nat → Nat) (Z : Nat → Nat) (G : GG) (M : DD) (sz : Nat) (a : Nat) (p0 : Option Nat) (y : DD) (hc : a < G.1) (hk : G.2.1 a = 1) (hF : FX1_readTurns G M a p0 = some y) : Met l yX1_readTurns wuX1_readTurns ({ frames := 3, cells := 0, slots := 0, locals := 81 }) (va_Pc [.ref (ad a), va_re ad p0] (kB D ct ad Z G M sz)) (va_Qv (fun (_ : Unit) => True) (fun _ t => kE D ct ad G (wA ad G sz) y t) (wA ad G sz)) 0 0 (wA ad G sz) := by
  refine Met.ofW (cc := cX1_readTurns) (maxL := 3) (ret := none) (by decide) rfl ?_
  intro p e s m args below meth c s₁ B hml hv
  obtain ⟨rfl, hsz, hP, hK, hD0, hZ, hN⟩ := hv
  have hx := B.exec
  have hb := B.bytes
  have hr := B.returns
  have hts := atoms_spec (ws := wuX1_readTurns) B.pre
  have hown : s.vm.findClass RX1 = some m.cls := findClass_of_methodNamed B.named
  have hlocks := B.notSynchronized
  subst hsz
  have hD := wD_self (sz := s.heap.size) hD0
  have hA9 : ∀ q, s.heap.size ≤ q → wA ad G s.heap.size q := fun q h => Or.inr h
  generalize hAe : wA ad G s.heap.size = A at hD hA9 hZ ⊢
  have hS : va_S A s.heap s.heap [] := va_S.rf
  have hl := lv_entry ([.ref (ad a), va_re ad p0]) (n := 3) (by cases p0 <;> exact Nat.le_of_ble_eq_true rfl)
  rw [lg_entry_eq]
  generalize (lg_sl ([.ref (ad a), va_re ad p0]) ++ List.replicate (3 - (lg_sl ([.ref (ad a), va_re ad p0])).length) Slot.unset).toArray = ls at hl ⊢
  have hl : lv_has ls 3 [(0, .ref (ad a)), (1, va_re ad p0)] := by have e9 : lv_args 0 [.ref (ad a), va_re ad p0] = [(0, .ref (ad a)), (1, va_re ad p0)] := (by cases p0 <;> rfl); rw [e9] at hl; exact hl
  unfold FX1_readTurns at hF
  refine lv_aloadq_n hx hb dX1_readTurns_0 rfl (lv_at hl 1 rfl) ?_
  refine lv_bipush (v := (11 : Int32)) hx hb dX1_readTurns_1 (by decide) ?_
  refine lv_aload_n hx hb dX1_readTurns_3 rfl (lv_at hl 0 rfl) ?_
  refine va_get (D := D) (ci := 1) (v := va_re ad (M.2 a 0)) (C := RX1) (T := TX1) (N := 22) hx hb hts (mus hf_X1) hown hK hP a (wld_o ct ad G M hc hk (by decide)) rfl 0 (by decide) (hts (.fieldLink RX1 12 "VideoSuite$Decoder" "reader" "LVideoSuite$Reader;") (mu mw_640)) (fun _ h9 => h9) rfl dX1_readTurns_4 ?_
  refine lv_iconst (v := (0 : Int32)) hx hb dX1_readTurns_7 (by decide) ?_
  refine lv_iconst (v := (1 : Int32)) hx hb dX1_readTurns_8 (by decide) ?_
  obtain ⟨b2, ho2, hc2, hk2, hF⟩ := dr_some hF
  refine W_st (st' := [.int (1 : Int32), .int (0 : Int32), .ref (ad b2), .int (11 : Int32), va_re ad p0]) (by rw [va_some ho2]) ?_
  obtain ⟨y3, hy3, hF⟩ := bnd_some hF
  have hf9 := wA_in hD hA9 hS
  refine va_calli (va_runV (As := [.int (0 : Int32), .int (1 : Int32)]) (rest := [.int (11 : Int32), va_re ad p0]) ⟨hx, hb, hml, hown, hts⟩ (kX5_fixed l D ct ad Z G M s.heap.size b2 ((0 : Int32)) ((1 : Int32)) y3 hc2 hk2 hy3) (cwV 2 hts gX1_readTurns_X5_fixed rfl rfl rfl (by decide +kernel) ⟨Nat.le_of_ble_eq_true rfl, Nat.le_of_ble_eq_true rfl⟩) ⟨fun a U g mk q => by obtain ⟨q0, q1, qP, qK, qD, qZ, qN⟩ := q; exact ⟨q0, q1, qP, va_K.moved (u := U) (U := U.calling g mk a) (Vm.Alike.refl U.vm) qK, qD, sF.moved (u := U) (U := U.calling g mk a) (Vm.Alike.refl U.vm) qZ, nF.same rfl qN⟩, va_recv hK hP (ci := 5) (q0 := b2) rfl (wld_o ct ad G M hc2 hk2 (by decide)), fun U hU hW => ⟨rfl, by rw [hU], by rw [hU]; exact hP, va_K.moved hW.alike hK, hD.weaken (fun _ _ _ _ => trivial), by rw [hU]; exact ((hZ.kept hS.2.1).narrow hf9).moved hW.alike, hN.warm hW⟩⟩ rfl rfl hl.1 rfl (lv_room (by simp only [List.map, va_re_cat]; exact Nat.le_of_ble_eq_true rfl)) dX1_readTurns_9 ⟨(Nat.zero_le _), (Nat.zero_le _)⟩) hS (fun q _ h => hf9 q h) hf9 (fun r u t H locs ht hvm hw hB hz1 hk1 hS => ?_)
  obtain ⟨hP, hK9, hD9⟩ := hB
  rw [ht] at hP
  try dsimp only at hw
  subst hw
  have hD := hD9.weaken (fun _ q _ h => hf9 q.1 h)
  obtain ⟨b4, ho4, hc4, hk4, hF⟩ := dr_some hF
  refine W_st (st' := [.int y3.2, .int (11 : Int32), .ref (ad b4)]) (by rw [va_some ho4]) ?_
  obtain ⟨hvc, hF⟩ := chk_some hF
  refine va_iast hx hb hK hP hD hS b4 1 (wld_i ct ad G y3.1 hc4 hk4) rfl hvc dX1_readTurns_12 (fun H locs hP hD hS => ?_)
  obtain ⟨M5, eM5, hF⟩ := ltt_some hF
  rw [set_i ct ad G y3.1 hc4 hk4, ← eM5] at hP hD
  refine lv_aloadq_n hx hb dX1_readTurns_13 rfl (lv_at hl 1 rfl) ?_
  refine lv_bipush (v := (12 : Int32)) hx hb dX1_readTurns_14 (by decide) ?_
  refine lv_aload_n hx hb dX1_readTurns_16 rfl (lv_at hl 0 rfl) ?_
  refine lv_sipush (v := (-32768 : Int32)) hx hb dX1_readTurns_17 (by decide) ?_
  refine lv_sipush (v := (32767 : Int32)) hx hb dX1_readTurns_20 (by decide) ?_
  obtain ⟨y6, hy6, hF⟩ := bnd_some hF
  have hf9 := wA_in hD hA9 hS
  refine va_calli (va_runV (As := [.int (-32768 : Int32), .int (32767 : Int32)]) (rest := [.int (12 : Int32), va_re ad p0]) ⟨hx, hb, hml, hown, hts⟩ (kX1_signed l D ct ad Z G M5 H.size a ((-32768 : Int32)) ((32767 : Int32)) y6 hc hk hy6) (cwV 2 hts gX1_readTurns_X1_signed rfl rfl rfl (by decide +kernel) ⟨Nat.le_of_ble_eq_true rfl, Nat.le_of_ble_eq_true rfl⟩) ⟨fun a U g mk q => by obtain ⟨q0, q1, qP, qK, qD, qZ, qN⟩ := q; exact ⟨q0, q1, qP, va_K.moved (u := U) (U := U.calling g mk a) (Vm.Alike.refl U.vm) qK, qD, sF.moved (u := U) (U := U.calling g mk a) (Vm.Alike.refl U.vm) qZ, nF.same rfl qN⟩, va_recv hK hP (ci := 1) (q0 := a) rfl (wld_o ct ad G M5 hc hk (by decide)), fun U hU hW => ⟨rfl, by rw [hU], by rw [hU]; exact hP, va_K.moved hW.alike hK, hD.weaken (fun _ _ _ _ => trivial), by rw [hU]; exact ((hZ.kept hS.2.1).narrow hf9).moved hW.alike, hN.warm hW⟩⟩ rfl rfl hl.1 rfl (lv_room (by simp only [List.map, va_re_cat]; exact Nat.le_of_ble_eq_true rfl)) dX1_readTurns_23 ⟨(Nat.zero_le _), (Nat.zero_le _)⟩) hS (fun q _ h => hf9 q h) hf9 (fun r u t H locs ht hvm hw hB hz1 hk1 hS => ?_)
  obtain ⟨hP, hK9, hD9⟩ := hB
  rw [ht] at hP
  try dsimp only at hw
  subst hw
  have hD := hD9.weaken (fun _ q _ h => hf9 q.1 h)
  refine W_st (st' := [.int y6.2, .int (12 : Int32), .ref (ad b4)]) (by rw [va_some ho4]) ?_
  obtain ⟨hvc, hF⟩ := chk_some hF
  refine va_iast hx hb hK hP hD hS b4 1 (wld_i ct ad G y6.1 hc4 hk4) rfl hvc dX1_readTurns_26 (fun H locs hP hD hS => ?_)
  obtain ⟨M7, eM7, hF⟩ := ltt_some hF
  rw [set_i ct ad G y6.1 hc4 hk4, ← eM7] at hP hD
  refine lv_aloadq_n hx hb dX1_readTurns_27 rfl (lv_at hl 1 rfl) ?_
  refine lv_bipush (v := (13 : Int32)) hx hb dX1_readTurns_28 (by decide) ?_
  refine lv_aload_n hx hb dX1_readTurns_30 rfl (lv_at hl 0 rfl) ?_
  refine lv_sipush (v := (-32768 : Int32)) hx hb dX1_readTurns_31 (by decide) ?_
  refine lv_sipush (v := (32767 : Int32)) hx hb dX1_readTurns_34 (by decide) ?_
  obtain ⟨y8, hy8, hF⟩ := bnd_some hF
  have hf9 := wA_in hD hA9 hS
  refine va_calli (va_runV (As := [.int (-32768 : Int32), .int (32767 : Int32)]) (rest := [.int (13 : Int32), va_re ad p0]) ⟨hx, hb, hml, hown, hts⟩ (kX1_signed l D ct ad Z G M7 H.size a ((-32768 : Int32)) ((32767 : Int32)) y8 hc hk hy8) (cwV 2 hts gX1_readTurns_X1_signed rfl rfl rfl (by decide +kernel) ⟨Nat.le_of_ble_eq_true rfl, Nat.le_of_ble_eq_true rfl⟩) ⟨fun a U g mk q => by obtain ⟨q0, q1, qP, qK, qD, qZ, qN⟩ := q; exact ⟨q0, q1, qP, va_K.moved (u := U) (U := U.calling g mk a) (Vm.Alike.refl U.vm) qK, qD, sF.moved (u := U) (U := U.calling g mk a) (Vm.Alike.refl U.vm) qZ, nF.same rfl qN⟩, va_recv hK hP (ci := 1) (q0 := a) rfl (wld_o ct ad G M7 hc hk (by decide)), fun U hU hW => ⟨rfl, by rw [hU], by rw [hU]; exact hP, va_K.moved hW.alike hK, hD.weaken (fun _ _ _ _ => trivial), by rw [hU]; exact ((hZ.kept hS.2.1).narrow hf9).moved hW.alike, hN.warm hW⟩⟩ rfl rfl hl.1 rfl (lv_room (by simp only [List.map, va_re_cat]; exact Nat.le_of_ble_eq_true rfl)) dX1_readTurns_37 ⟨(Nat.zero_le _), (Nat.zero_le _)⟩) hS (fun q _ h => hf9 q h) hf9 (fun r u t H locs ht hvm hw hB hz1 hk1 hS => ?_)
  obtain ⟨hP, hK9, hD9⟩ := hB
  rw [ht] at hP
  try dsimp only at hw
  subst hw
  have hD := hD9.weaken (fun _ q _ h => hf9 q.1 h)
  refine W_st (st' := [.int y8.2, .int (13 : Int32), .ref (ad b4)]) (by rw [va_some ho4]) ?_
  obtain ⟨hvc, hF⟩ := chk_some hF
  refine va_iast hx hb hK hP hD hS b4 1 (wld_i ct ad G y8.1 hc4 hk4) rfl hvc dX1_readTurns_40 (fun H locs hP hD hS => ?_)
  obtain ⟨M9, eM9, hF⟩ := ltt_some hF
  rw [set_i ct ad G y8.1 hc4 hk4, ← eM9] at hP hD
  refine lv_aloadq_n hx hb dX1_readTurns_41 rfl (lv_at hl 1 rfl) ?_
  refine lv_bipush (v := (14 : Int32)) hx hb dX1_readTurns_42 (by decide) ?_
  refine lv_aload_n hx hb dX1_readTurns_44 rfl (lv_at hl 0 rfl) ?_
  refine lv_bipush (v := (8 : Int32)) hx hb dX1_readTurns_45 (by decide) ?_
  obtain ⟨y10, hy10, hF⟩ := bnd_some hF
  have hf9 := wA_in hD hA9 hS
  refine va_calli (va_runV (As := [.int (8 : Int32)]) (rest := [.int (14 : Int32), va_re ad p0]) ⟨hx, hb, hml, hown, hts⟩ (kX1_unsigned l D ct ad Z G M9 H.size a ((8 : Int32)) y10 hc hk hy10) (cwV 1 hts gX1_readTurns_X1_unsigned rfl rfl rfl (by decide +kernel) ⟨Nat.le_of_ble_eq_true rfl, Nat.le_of_ble_eq_true rfl⟩) ⟨fun a U g mk q => by obtain ⟨q0, q1, qP, qK, qD, qZ, qN⟩ := q; exact ⟨q0, q1, qP, va_K.moved (u := U) (U := U.calling g mk a) (Vm.Alike.refl U.vm) qK, qD, sF.moved (u := U) (U := U.calling g mk a) (Vm.Alike.refl U.vm) qZ, nF.same rfl qN⟩, va_recv hK hP (ci := 1) (q0 := a) rfl (wld_o ct ad G M9 hc hk (by decide)), fun U hU hW => ⟨rfl, by rw [hU], by rw [hU]; exact hP, va_K.moved hW.alike hK, hD.weaken (fun _ _ _ _ => trivial), by rw [hU]; exact ((hZ.kept hS.2.1).narrow hf9).moved hW.alike, hN.warm hW⟩⟩ rfl rfl hl.1 rfl (lv_room (by simp only [List.map, va_re_cat]; exact Nat.le_of_ble_eq_true rfl)) dX1_readTurns_47 ⟨(Nat.zero_le _), (Nat.zero_le _)⟩) hS (fun q _ h => hf9 q h) hf9 (fun r u t H locs ht hvm hw hB hz1 hk1 hS => ?_)
  obtain ⟨hP, hK9, hD9⟩ := hB
  rw [ht] at hP
  try dsimp only at hw
  subst hw
  have hD := hD9.weaken (fun _ q _ h => hf9 q.1 h)
  refine W_st (st' := [.int y10.2, .int (14 : Int32), .ref (ad b4)]) (by rw [va_some ho4]) ?_
  obtain ⟨hvc, hF⟩ := chk_some hF
  refine va_iast hx hb hK hP hD hS b4 1 (wld_i ct ad G y10.1 hc4 hk4) rfl hvc dX1_readTurns_50 (fun H locs hP hD hS => ?_)
  obtain ⟨M11, eM11, hF⟩ := ltt_some hF
  rw [set_i ct ad G y10.1 hc4 hk4, ← eM11] at hP hD
  refine lv_iconst (v := (0 : Int32)) hx hb dX1_readTurns_51 (by decide) ?_
  refine lv_istore_n (lv' := [(2, .int (0 : Int32)), (0, .ref (ad a)), (1, va_re ad p0)]) hx hb dX1_readTurns_52 rfl hl (by decide) (by generalize p0 = o9; cases o9 <;> rfl) (fun ls hl => ?_)
  obtain ⟨y12, hy12, hF⟩ := bnd_some hF
  have K12 : ∀ (H : Heap) (locs : List Loc) (ls : Array Slot), va_P D classes (wld ct ad G y12.2) H → va_D A (wld ct ad G y12.2) → va_S A s.heap H locs → lv_has ls 3 [(2, .int y12.1), (0, .ref (ad a)), (1, va_re ad p0)] → W p l e (headSpec wuX1_readTurns ({ frames := 3, cells := 0, slots := 0, locals := 81 })).room s m ([.ref (ad a), va_re ad p0] : List Value).toArray below meth c H locs 0 0 (MQ below (va_Qv (fun (_ : Unit) => True) (fun _ t => kE D ct ad G A y t) A) ([.ref (ad a), va_re ad p0] : List Value).toArray s 0 0 A) (F0 m 92 ls []) := by
    intro H locs ls hP hD hS hl
    obtain rfl := Option.some.inj hF
    exact W.vret hx hb hr (fun t ht hW => ⟨⟨(), rfl, trivial, ⟨by rw [ht]; exact hP, va_K.moved hW.alike hK, hD⟩⟩, hS.F ht⟩) hS.2.2 dX1_readTurns_92
  clear hF
  refine itr_rule (fun (s13 : Int32 × DD) => ∀ (H : Heap) (locs : List Loc) (ls : Array Slot), va_P D classes (wld ct ad G s13.2) H → va_D A (wld ct ad G s13.2) → va_S A s.heap H locs → lv_has ls 3 [(2, .int s13.1), (0, .ref (ad a)), (1, va_re ad p0)] → W p l e (headSpec wuX1_readTurns ({ frames := 3, cells := 0, slots := 0, locals := 81 })).room s m ([.ref (ad a), va_re ad p0] : List Value).toArray below meth c H locs 0 0 (MQ below (va_Qv (fun (_ : Unit) => True) (fun _ t => kE D ct ad G A y t) A) ([.ref (ad a), va_re ad p0] : List Value).toArray s 0 0 A) (F0 m 53 ls [])) ?_ _ _ hy12 _ _ _ hP hD hS (lv_sub hl [0, 1, 2] rfl)
  rintro s13 ⟨z15, hF, hwz15⟩ H locs ls hP hD hS hl
  try dsimp only at hF
  refine lv_iload_n hx hb dX1_readTurns_53 rfl (lv_at hl 0 rfl) ?_
  refine lv_aloadq_n hx hb dX1_readTurns_54 rfl (lv_at hl 2 rfl) ?_
  refine lv_bipush (v := (14 : Int32)) hx hb dX1_readTurns_55 (by decide) ?_
  refine W_st (st' := [.int (14 : Int32), .ref (ad b4), .int s13.1]) (by rw [va_some ho4]) ?_
  obtain ⟨hvc, hF⟩ := chk_some hF
  refine va_iald hx hb hK hP b4 1 (wld_i ct ad G s13.2 hc4 hk4) rfl hvc dX1_readTurns_57 ?_
  obtain ⟨x16, ex16, hF⟩ := ltt_some hF
  refine lv_topi (fun zx16 ezx16 => ?_)
  obtain rfl : x16 = zx16 := ex16.trans ezx16.symm
  refine lv_icmp_ge (tgt := 92) hx hb dX1_readTurns_58 (by decide) (fun c17 => ?_) (fun c17 => ?_)
  · rw [if_pos c17] at hF
    obtain rfl := Option.some.inj hF
    subst hwz15
    exact K12 _ _ _ hP hD hS (lv_sub hl [0, 1, 2] rfl)
  · rw [if_neg c17] at hF
    refine lv_bipush (v := (15 : Int32)) hx hb dX1_readTurns_61 (by decide) ?_
    refine lv_iload_n hx hb dX1_readTurns_63 rfl (lv_at hl 0 rfl) ?_
    refine lv_iadd hx hb dX1_readTurns_64 ?_
    obtain ⟨x18, ex18, hF⟩ := ltt_some hF
    refine lv_topi (fun zx18 ezx18 => ?_)
    obtain rfl : x18 = zx18 := ex18.trans ezx18.symm
    refine lv_bipush (v := (23 : Int32)) hx hb dX1_readTurns_65 (by decide) ?_
    refine lv_icmp_ge (tgt := 92) hx hb dX1_readTurns_67 (by decide) (fun c19 => ?_) (fun c19 => ?_)
    · rw [if_pos c19] at hF
      obtain rfl := Option.some.inj hF
      subst hwz15
      exact K12 _ _ _ hP hD hS (lv_sub hl [0, 1, 2] rfl)
    · rw [if_neg c19] at hF
      refine lv_aloadq_n hx hb dX1_readTurns_70 rfl (lv_at hl 2 rfl) ?_
      refine lv_bipush (v := (15 : Int32)) hx hb dX1_readTurns_71 (by decide) ?_
      refine lv_iload_n hx hb dX1_readTurns_73 rfl (lv_at hl 0 rfl) ?_
      refine lv_iadd hx hb dX1_readTurns_74 ?_
      obtain ⟨x20, ex20, hF⟩ := ltt_some hF
      refine lv_topi (fun zx20 ezx20 => ?_)
      obtain rfl : x20 = zx20 := ex20.trans ezx20.symm
      refine lv_aload_n hx hb dX1_readTurns_75 rfl (lv_at hl 1 rfl) ?_
      refine lv_sipush (v := (-32768 : Int32)) hx hb dX1_readTurns_76 (by decide) ?_
      refine lv_sipush (v := (32767 : Int32)) hx hb dX1_readTurns_79 (by decide) ?_
      obtain ⟨y21, hy21, hF⟩ := bnd_some hF
      have hf9 := wA_in hD hA9 hS
      refine va_calli (va_runV (As := [.int (-32768 : Int32), .int (32767 : Int32)]) (rest := [.int x20, va_re ad p0]) ⟨hx, hb, hml, hown, hts⟩ (kX1_signed l D ct ad Z G s13.2 H.size a ((-32768 : Int32)) ((32767 : Int32)) y21 hc hk hy21) (cwV 2 hts gX1_readTurns_X1_signed rfl rfl rfl (by decide +kernel) ⟨Nat.le_of_ble_eq_true rfl, Nat.le_of_ble_eq_true rfl⟩) ⟨fun a U g mk q => by obtain ⟨q0, q1, qP, qK, qD, qZ, qN⟩ := q; exact ⟨q0, q1, qP, va_K.moved (u := U) (U := U.calling g mk a) (Vm.Alike.refl U.vm) qK, qD, sF.moved (u := U) (U := U.calling g mk a) (Vm.Alike.refl U.vm) qZ, nF.same rfl qN⟩, va_recv hK hP (ci := 1) (q0 := a) rfl (wld_o ct ad G s13.2 hc hk (by decide)), fun U hU hW => ⟨rfl, by rw [hU], by rw [hU]; exact hP, va_K.moved hW.alike hK, hD.weaken (fun _ _ _ _ => trivial), by rw [hU]; exact ((hZ.kept hS.2.1).narrow hf9).moved hW.alike, hN.warm hW⟩⟩ rfl rfl hl.1 rfl (lv_room (by simp only [List.map, va_re_cat]; exact Nat.le_of_ble_eq_true rfl)) dX1_readTurns_82 ⟨(Nat.zero_le _), (Nat.zero_le _)⟩) hS (fun q _ h => hf9 q h) hf9 (fun r u t H locs ht hvm hw hB hz1 hk1 hS => ?_)
      obtain ⟨hP, hK9, hD9⟩ := hB
      rw [ht] at hP
      try dsimp only at hw
      subst hw
      have hD := hD9.weaken (fun _ q _ h => hf9 q.1 h)
      refine W_st (st' := [.int y21.2, .int x20, .ref (ad b4)]) (by rw [va_some ho4]) ?_
      obtain ⟨hvc, hF⟩ := chk_some hF
      refine va_iast hx hb hK hP hD hS b4 1 (wld_i ct ad G y21.1 hc4 hk4) rfl hvc dX1_readTurns_85 (fun H locs hP hD hS => ?_)
      obtain ⟨M22, eM22, hF⟩ := ltt_some hF
      rw [set_i ct ad G y21.1 hc4 hk4, ← eM22] at hP hD
      obtain ⟨x23, ex23, hF⟩ := ltt_some hF
      refine lv_iinc (v := x23) (lv' := [(2, .int x23), (0, .ref (ad a)), (1, va_re ad p0)]) hx hb dX1_readTurns_86 hl (k := 0) rfl (by rw [ex23]; rfl) (by decide) (by generalize p0 = o9; cases o9 <;> rfl) (fun ls hl => ?_)
      refine lv_goto (tgt := 53) hx hb dX1_readTurns_89 (by decide) ?_
      obtain rfl := Option.some.inj hF
      exact hwz15 _ _ _ hP hD hS (lv_sub hl [0, 1, 2] rfl)
set_option maxRecDepth 20000 in
theorem gX1_readWeights_X3_weightAt : GoodIn wuX1_readWeights (va_wsS RX1 246 yX3_weightAt wuX3_weightAt) := gu_S mw_1384 mw_1385 mw_174 mw_1386
set_option maxRecDepth 20000 in
set_option maxRecDepth 20000 in
theorem gX1_readWeights_X1_signed : GoodIn wuX1_readWeights (wsV RX1 209 RX1 yX1_signed wuX1_signed) := gu_V mw_1364 mw_1366 mw_36 mw_168 mw_1367
set_option maxRecDepth 20000 in
theorem gX1_readWeights_X5_fixed : GoodIn wuX1_readWeights (wsV RX1 183 RX5 yX5_fixed wuX5_fixed) := gu_V mw_1355 mw_1356 mw_1357 mw_169 mw_1358
set_option maxRecDepth 20000 in
theorem dX1_readWeights_0 : decode cX1_readWeights 0 = .ok (.aload_n 0, 1) := by decide +kernel
theorem dX1_readWeights_1 : decode cX1_readWeights 1 = .ok (.getfield 68, 3) := by decide +kernel
theorem dX1_readWeights_4 : decode cX1_readWeights 4 = .ok (.getfield 212, 3) := by decide +kernel
theorem dX1_readWeights_7 : decode cX1_readWeights 7 = .ok (.bipush 9, 2) := by decide +kernel
theorem dX1_readWeights_9 : decode cX1_readWeights 9 = .ok (.iload_n 1, 1) := by decide +kernel
theorem dX1_readWeights_10 : decode cX1_readWeights 10 = .ok (.iadd, 1) := by decide +kernel
theorem dX1_readWeights_11 : decode cX1_readWeights 11 = .ok (.iaload, 1) := by decide +kernel
theorem dX1_readWeights_12 : decode cX1_readWeights 12 = .ok (.istore_n 2, 1) := by decide +kernel
theorem dX1_readWeights_13 : decode cX1_readWeights 13 = .ok (.iconst 0, 1) := by decide +kernel
theorem dX1_readWeights_14 : decode cX1_readWeights 14 = .ok (.istore_n 3, 1) := by decide +kernel
theorem dX1_readWeights_15 : decode cX1_readWeights 15 = .ok (.iload_n 3, 1) := by decide +kernel
theorem dX1_readWeights_16 : decode cX1_readWeights 16 = .ok (.iload_n 2, 1) := by decide +kernel
theorem dX1_readWeights_17 : decode cX1_readWeights 17 = .ok (.if_icmp .ge 116, 3) := by decide +kernel
theorem dX1_readWeights_20 : decode cX1_readWeights 20 = .ok (.iload_n 3, 1) := by decide +kernel
theorem dX1_readWeights_21 : decode cX1_readWeights 21 = .ok (.bipush 8, 2) := by decide +kernel
theorem dX1_readWeights_23 : decode cX1_readWeights 23 = .ok (.if_icmp .ge 110, 3) := by decide +kernel
theorem dX1_readWeights_26 : decode cX1_readWeights 26 = .ok (.iconst 0, 1) := by decide +kernel
theorem dX1_readWeights_27 : decode cX1_readWeights 27 = .ok (.istore 4, 2) := by decide +kernel
theorem dX1_readWeights_29 : decode cX1_readWeights 29 = .ok (.iconst 0, 1) := by decide +kernel
theorem dX1_readWeights_30 : decode cX1_readWeights 30 = .ok (.istore 5, 2) := by decide +kernel
theorem dX1_readWeights_32 : decode cX1_readWeights 32 = .ok (.iload 5, 2) := by decide +kernel
theorem dX1_readWeights_34 : decode cX1_readWeights 34 = .ok (.iconst 3, 1) := by decide +kernel
theorem dX1_readWeights_35 : decode cX1_readWeights 35 = .ok (.if_icmp .ge 92, 3) := by decide +kernel
theorem dX1_readWeights_38 : decode cX1_readWeights 38 = .ok (.iload 5, 2) := by decide +kernel
theorem dX1_readWeights_40 : decode cX1_readWeights 40 = .ok (.iconst 2, 1) := by decide +kernel
theorem dX1_readWeights_41 : decode cX1_readWeights 41 = .ok (.if_icmp .ge 24, 3) := by decide +kernel
theorem dX1_readWeights_44 : decode cX1_readWeights 44 = .ok (.aload_n 0, 1) := by decide +kernel
theorem dX1_readWeights_45 : decode cX1_readWeights 45 = .ok (.getfield 12, 3) := by decide +kernel
theorem dX1_readWeights_48 : decode cX1_readWeights 48 = .ok (.iconst 0, 1) := by decide +kernel
theorem dX1_readWeights_49 : decode cX1_readWeights 49 = .ok (.iconst 1, 1) := by decide +kernel
theorem dX1_readWeights_50 : decode cX1_readWeights 50 = .ok (.invokevirtual 183, 3) := by decide +kernel
theorem dX1_readWeights_53 : decode cX1_readWeights 53 = .ok (.iconst 1, 1) := by decide +kernel
theorem dX1_readWeights_54 : decode cX1_readWeights 54 = .ok (.if_icmp .ne 7, 3) := by decide +kernel
theorem dX1_readWeights_57 : decode cX1_readWeights 57 = .ok (.iconst 1, 1) := by decide +kernel
theorem dX1_readWeights_58 : decode cX1_readWeights 58 = .ok (.goto 9, 3) := by decide +kernel
theorem dX1_readWeights_61 : decode cX1_readWeights 61 = .ok (.iconst 0, 1) := by decide +kernel
theorem dX1_readWeights_62 : decode cX1_readWeights 62 = .ok (.goto 5, 3) := by decide +kernel
theorem dX1_readWeights_65 : decode cX1_readWeights 65 = .ok (.iload 4, 2) := by decide +kernel
theorem dX1_readWeights_67 : decode cX1_readWeights 67 = .ok (.istore 4, 2) := by decide +kernel
theorem dX1_readWeights_69 : decode cX1_readWeights 69 = .ok (.iload 4, 2) := by decide +kernel
theorem dX1_readWeights_71 : decode cX1_readWeights 71 = .ok (.ifCond .eq 50, 3) := by decide +kernel
theorem dX1_readWeights_74 : decode cX1_readWeights 74 = .ok (.iload_n 1, 1) := by decide +kernel
theorem dX1_readWeights_75 : decode cX1_readWeights 75 = .ok (.iload_n 3, 1) := by decide +kernel
theorem dX1_readWeights_76 : decode cX1_readWeights 76 = .ok (.iload 5, 2) := by decide +kernel
theorem dX1_readWeights_78 : decode cX1_readWeights 78 = .ok (.invokestatic 246, 3) := by decide +kernel
theorem dX1_readWeights_81 : decode cX1_readWeights 81 = .ok (.istore 6, 2) := by decide +kernel
theorem dX1_readWeights_83 : decode cX1_readWeights 83 = .ok (.aload_n 0, 1) := by decide +kernel
theorem dX1_readWeights_84 : decode cX1_readWeights 84 = .ok (.getfield 68, 3) := by decide +kernel
theorem dX1_readWeights_87 : decode cX1_readWeights 87 = .ok (.getfield 250, 3) := by decide +kernel
theorem dX1_readWeights_90 : decode cX1_readWeights 90 = .ok (.iload 6, 2) := by decide +kernel
theorem dX1_readWeights_92 : decode cX1_readWeights 92 = .ok (.aload_n 0, 1) := by decide +kernel
theorem dX1_readWeights_93 : decode cX1_readWeights 93 = .ok (.bipush (-128), 2) := by decide +kernel
theorem dX1_readWeights_95 : decode cX1_readWeights 95 = .ok (.bipush 127, 2) := by decide +kernel
theorem dX1_readWeights_97 : decode cX1_readWeights 97 = .ok (.invokevirtual 209, 3) := by decide +kernel
theorem dX1_readWeights_100 : decode cX1_readWeights 100 = .ok (.iastore, 1) := by decide +kernel
theorem dX1_readWeights_101 : decode cX1_readWeights 101 = .ok (.aload_n 0, 1) := by decide +kernel
theorem dX1_readWeights_102 : decode cX1_readWeights 102 = .ok (.getfield 68, 3) := by decide +kernel
theorem dX1_readWeights_105 : decode cX1_readWeights 105 = .ok (.getfield 250, 3) := by decide +kernel
theorem dX1_readWeights_108 : decode cX1_readWeights 108 = .ok (.iload 6, 2) := by decide +kernel
theorem dX1_readWeights_110 : decode cX1_readWeights 110 = .ok (.iconst 1, 1) := by decide +kernel
theorem dX1_readWeights_111 : decode cX1_readWeights 111 = .ok (.iadd, 1) := by decide +kernel
theorem dX1_readWeights_112 : decode cX1_readWeights 112 = .ok (.aload_n 0, 1) := by decide +kernel
theorem dX1_readWeights_113 : decode cX1_readWeights 113 = .ok (.bipush (-128), 2) := by decide +kernel
theorem dX1_readWeights_115 : decode cX1_readWeights 115 = .ok (.bipush 127, 2) := by decide +kernel
theorem dX1_readWeights_117 : decode cX1_readWeights 117 = .ok (.invokevirtual 209, 3) := by decide +kernel
theorem dX1_readWeights_120 : decode cX1_readWeights 120 = .ok (.iastore, 1) := by decide +kernel
theorem dX1_readWeights_121 : decode cX1_readWeights 121 = .ok (.iinc 5 1, 3) := by decide +kernel
theorem dX1_readWeights_124 : decode cX1_readWeights 124 = .ok (.goto (-92), 3) := by decide +kernel
theorem dX1_readWeights_127 : decode cX1_readWeights 127 = .ok (.iinc 3 1, 3) := by decide +kernel
theorem dX1_readWeights_130 : decode cX1_readWeights 130 = .ok (.goto (-115), 3) := by decide +kernel
theorem dX1_readWeights_133 : decode cX1_readWeights 133 = .ok (.return_, 1) := by decide +kernel
def FX1_readWeights (G : GG) (M : DD) (a : Nat) (p0 : Int32) : Option (DD) :=
  dr G 3 ((M.2 a 10)) fun b2 =>
  ltt ((((9 : Int32)) + p0)) fun x3 =>
  dr G 13 ((M.2 b2 0)) fun b4 =>
  chk (¬ (x3 < 0 ∨ G.2.2 b4 ≤ x3.toNatClampNeg)) <|
  ltt (M.1 b4 x3.toNatClampNeg) fun x5 =>
  bnd (itr (fun (s7 : Int32 × DD) => ((if x5 ≤ s7.1 then (some (.inr (s7.1, s7.2))) else
  (if ((8 : Int32)) ≤ s7.1 then (some (.inr (s7.1, s7.2))) else
  (bnd (itr (fun (s13 : Int32 × Int32 × DD) => ((if ((3 : Int32)) ≤ s13.2.1 then (some (.inr (s13.1, s13.2.1, s13.2.2))) else
  (bnd (if ((2 : Int32)) ≤ s13.2.1 then (some (s13.1, s13.2.2)) else
  (dr G 5 ((s13.2.2.2 a 0)) fun b33 =>
  bnd (FX5_fixed G s13.2.2 b33 ((0 : Int32)) ((1 : Int32))) fun y34 =>
  bnd (if y34.2 = ((1 : Int32)) then (some ((1 : Int32))) else
  (some ((0 : Int32)))) fun (y35 : Int32) =>
  some (y35, y34.1))) fun (y18 : Int32 × DD) =>
  bnd (if y18.1 = ((0 : Int32)) then (some (y18.2)) else
  (bnd (FX3_weightAt G y18.2 p0 s7.1 s13.2.1) fun y22 =>
  dr G 3 ((y22.1.2 a 10)) fun b23 =>
  bnd (FX1_signed G y22.1 a ((-128 : Int32)) ((127 : Int32))) fun y24 =>
  dr G 13 ((y22.1.2 b23 3)) fun b25 =>
  chk (¬ (y22.2 < 0 ∨ G.2.2 b25 ≤ y22.2.toNatClampNeg)) <|
  ltt (uI y24.1 b25 y22.2.toNatClampNeg y24.2) fun M26 =>
  dr G 3 ((M26.2 a 10)) fun b27 =>
  ltt ((y22.2 + ((1 : Int32)))) fun x28 =>
  bnd (FX1_signed G M26 a ((-128 : Int32)) ((127 : Int32))) fun y29 =>
  dr G 13 ((M26.2 b27 3)) fun b30 =>
  chk (¬ (x28 < 0 ∨ G.2.2 b30 ≤ x28.toNatClampNeg)) <|
  ltt (uI y29.1 b30 x28.toNatClampNeg y29.2) fun M31 =>
  some (M31))) fun (y19 : DD) =>
  ltt (s13.2.1 + (1 : Int32)) fun x20 =>
  some (.inl (y18.1, x20, y19)))) : Option ((Int32 × Int32 × DD) ⊕ (Int32 × Int32 × DD)))) 1000000 ((0 : Int32), (0 : Int32), s7.2)) fun (y12 : Int32 × Int32 × DD) =>
  ltt (s7.1 + (1 : Int32)) fun x15 =>
  some (.inl (x15, y12.2.2))))) : Option ((Int32 × DD) ⊕ (Int32 × DD)))) 1000000 ((0 : Int32), M)) fun (y6 : Int32 × DD) =>
  some y6.2
set_option maxHeartbeats 4000000 in
set_option maxRecDepth 100000 in
theorem kX1_readWeights (l : Launch) (D : va_G) (ct : CT) (ad : Nat → Nat) (Z : Nat → Nat) (G : GG) (M : DD) (sz : Nat) (a : Nat) (p0 : Int32) (y : DD) (hc : a < G.1) (hk : G.2.1 a = 1) (hF : FX1_readWeights G M a p0 = some y) : Met l yX1_readWeights wuX1_readWeights ({ frames := 3, cells := 0, slots := 0, locals := 81 }) (va_Pc [.ref (ad a), .int p0] (kB D ct ad Z G M sz)) (va_Qv (fun (_ : Unit) => True) (fun _ t => kE D ct ad G (wA ad G sz) y t) (wA ad G sz)) 0 0 (wA ad G sz) := by
  refine Met.ofW (cc := cX1_readWeights) (maxL := 7) (ret := none) (by decide) rfl ?_
  intro p e s m args below meth c s₁ B hml hv
  obtain ⟨rfl, hsz, hP, hK, hD0, hZ, hN⟩ := hv
  have hx := B.exec
  have hb := B.bytes
  have hr := B.returns
  have hts := atoms_spec (ws := wuX1_readWeights) B.pre
  have hown : s.vm.findClass RX1 = some m.cls := findClass_of_methodNamed B.named
  have hlocks := B.notSynchronized
  subst hsz
  have hD := wD_self (sz := s.heap.size) hD0
  have hA9 : ∀ q, s.heap.size ≤ q → wA ad G s.heap.size q := fun q h => Or.inr h
  generalize hAe : wA ad G s.heap.size = A at hD hA9 hZ ⊢
  have hS : va_S A s.heap s.heap [] := va_S.rf
  have hl := lv_entry ([.ref (ad a), .int p0]) (n := 7) (Nat.le_of_ble_eq_true rfl)
  rw [lg_entry_eq]
  generalize (lg_sl ([.ref (ad a), .int p0]) ++ List.replicate (7 - (lg_sl ([.ref (ad a), .int p0])).length) Slot.unset).toArray = ls at hl ⊢
  have hl : lv_has ls 7 [(0, .ref (ad a)), (1, .int p0)] := hl
  unfold FX1_readWeights at hF
  refine lv_aload_n hx hb dX1_readWeights_0 rfl (lv_at hl 0 rfl) ?_
  refine va_get (D := D) (ci := 1) (v := va_re ad (M.2 a 10)) (C := RX1) (T := TX1) (N := 22) hx hb hts (mus hf_X1) hown hK hP a (wld_o ct ad G M hc hk (by decide)) rfl 10 (by decide) (hts (.fieldLink RX1 68 "VideoSuite$Decoder" "head" "LVideoSuite$Header;") (mu mw_652)) (fun _ h9 => h9) rfl dX1_readWeights_1 ?_
  obtain ⟨b2, ho2, hc2, hk2, hF⟩ := dr_some hF
  refine W_st (st' := [.ref (ad b2)]) (by rw [va_some ho2]) ?_
  refine va_get (D := D) (ci := 3) (v := va_re ad (M.2 b2 0)) (C := RX3) (T := TX3) (N := 4) hx hb hts (mus hf_X3) hown hK hP b2 (wld_o ct ad G M hc2 hk2 (by decide)) rfl 0 (by decide) (hts (.fieldLink RX1 212 "VideoSuite$Header" "v" "[I") (mu mw_618)) (fun _ h9 => h9) rfl dX1_readWeights_4 ?_
  refine lv_bipush (v := (9 : Int32)) hx hb dX1_readWeights_7 (by decide) ?_
  refine lv_iload_n hx hb dX1_readWeights_9 rfl (lv_at hl 1 rfl) ?_
  refine lv_iadd hx hb dX1_readWeights_10 ?_
  obtain ⟨x3, ex3, hF⟩ := ltt_some hF
  refine lv_topi (fun zx3 ezx3 => ?_)
  obtain rfl : x3 = zx3 := ex3.trans ezx3.symm
  obtain ⟨b4, ho4, hc4, hk4, hF⟩ := dr_some hF
  refine W_st (st' := [.int x3, .ref (ad b4)]) (by rw [va_some ho4]) ?_
  obtain ⟨hvc, hF⟩ := chk_some hF
  refine va_iald hx hb hK hP b4 1 (wld_i ct ad G M hc4 hk4) rfl hvc dX1_readWeights_11 ?_
  obtain ⟨x5, ex5, hF⟩ := ltt_some hF
  refine lv_topi (fun zx5 ezx5 => ?_)
  obtain rfl : x5 = zx5 := ex5.trans ezx5.symm
  refine lv_istore_n (lv' := [(2, .int x5), (0, .ref (ad a)), (1, .int p0)]) hx hb dX1_readWeights_12 rfl hl (by decide) rfl (fun ls hl => ?_)
  refine lv_iconst (v := (0 : Int32)) hx hb dX1_readWeights_13 (by decide) ?_
  refine lv_istore_n (lv' := [(3, .int (0 : Int32)), (2, .int x5), (0, .ref (ad a)), (1, .int p0)]) hx hb dX1_readWeights_14 rfl hl (by decide) rfl (fun ls hl => ?_)
  obtain ⟨y6, hy6, hF⟩ := bnd_some hF
  have K6 : ∀ (H : Heap) (locs : List Loc) (ls : Array Slot), va_P D classes (wld ct ad G y6.2) H → va_D A (wld ct ad G y6.2) → va_S A s.heap H locs → lv_has ls 7 [(3, .int y6.1), (2, .int x5), (0, .ref (ad a)), (1, .int p0)] → W p l e (headSpec wuX1_readWeights ({ frames := 3, cells := 0, slots := 0, locals := 81 })).room s m ([.ref (ad a), .int p0] : List Value).toArray below meth c H locs 0 0 (MQ below (va_Qv (fun (_ : Unit) => True) (fun _ t => kE D ct ad G A y t) A) ([.ref (ad a), .int p0] : List Value).toArray s 0 0 A) (F0 m 133 ls []) := by
    intro H locs ls hP hD hS hl
    obtain rfl := Option.some.inj hF
    exact W.vret hx hb hr (fun t ht hW => ⟨⟨(), rfl, trivial, ⟨by rw [ht]; exact hP, va_K.moved hW.alike hK, hD⟩⟩, hS.F ht⟩) hS.2.2 dX1_readWeights_133
  clear hF
  refine itr_rule (fun (s7 : Int32 × DD) => ∀ (H : Heap) (locs : List Loc) (ls : Array Slot), va_P D classes (wld ct ad G s7.2) H → va_D A (wld ct ad G s7.2) → va_S A s.heap H locs → lv_has ls 7 [(3, .int s7.1), (2, .int x5), (0, .ref (ad a)), (1, .int p0)] → W p l e (headSpec wuX1_readWeights ({ frames := 3, cells := 0, slots := 0, locals := 81 })).room s m ([.ref (ad a), .int p0] : List Value).toArray below meth c H locs 0 0 (MQ below (va_Qv (fun (_ : Unit) => True) (fun _ t => kE D ct ad G A y t) A) ([.ref (ad a), .int p0] : List Value).toArray s 0 0 A) (F0 m 15 ls [])) ?_ _ _ hy6 _ _ _ hP hD hS (lv_sub hl [0, 1, 2, 3] rfl)
  rintro s7 ⟨z9, hF, hwz9⟩ H locs ls hP hD hS hl
  try dsimp only at hF
  refine lv_iload_n hx hb dX1_readWeights_15 rfl (lv_at hl 0 rfl) ?_
  refine lv_iload_n hx hb dX1_readWeights_16 rfl (lv_at hl 1 rfl) ?_
  refine lv_icmp_ge (tgt := 133) hx hb dX1_readWeights_17 (by decide) (fun c10 => ?_) (fun c10 => ?_)
  · rw [if_pos c10] at hF
    obtain rfl := Option.some.inj hF
    subst hwz9
    exact K6 _ _ _ hP hD hS (lv_sub hl [0, 1, 2, 3] rfl)
  · rw [if_neg c10] at hF
    refine lv_iload_n hx hb dX1_readWeights_20 rfl (lv_at hl 0 rfl) ?_
    refine lv_bipush (v := (8 : Int32)) hx hb dX1_readWeights_21 (by decide) ?_
    refine lv_icmp_ge (tgt := 133) hx hb dX1_readWeights_23 (by decide) (fun c11 => ?_) (fun c11 => ?_)
    · rw [if_pos c11] at hF
      obtain rfl := Option.some.inj hF
      subst hwz9
      exact K6 _ _ _ hP hD hS (lv_sub hl [0, 1, 2, 3] rfl)
    · rw [if_neg c11] at hF
      refine lv_iconst (v := (0 : Int32)) hx hb dX1_readWeights_26 (by decide) ?_
      refine lv_istore (lv' := [(4, .int (0 : Int32)), (3, .int s7.1), (2, .int x5), (0, .ref (ad a)), (1, .int p0)]) hx hb dX1_readWeights_27 hl (by decide) rfl (fun ls hl => ?_)
      refine lv_iconst (v := (0 : Int32)) hx hb dX1_readWeights_29 (by decide) ?_
      refine lv_istore (lv' := [(5, .int (0 : Int32)), (4, .int (0 : Int32)), (3, .int s7.1), (2, .int x5), (0, .ref (ad a)), (1, .int p0)]) hx hb dX1_readWeights_30 hl (by decide) rfl (fun ls hl => ?_)
      obtain ⟨y12, hy12, hF⟩ := bnd_some hF
      have K12 : ∀ (H : Heap) (locs : List Loc) (ls : Array Slot), va_P D classes (wld ct ad G y12.2.2) H → va_D A (wld ct ad G y12.2.2) → va_S A s.heap H locs → lv_has ls 7 [(5, .int y12.2.1), (4, .int y12.1), (3, .int s7.1), (2, .int x5), (0, .ref (ad a)), (1, .int p0)] → W p l e (headSpec wuX1_readWeights ({ frames := 3, cells := 0, slots := 0, locals := 81 })).room s m ([.ref (ad a), .int p0] : List Value).toArray below meth c H locs 0 0 (MQ below (va_Qv (fun (_ : Unit) => True) (fun _ t => kE D ct ad G A y t) A) ([.ref (ad a), .int p0] : List Value).toArray s 0 0 A) (F0 m 127 ls []) := by
        intro H locs ls hP hD hS hl
        obtain ⟨x15, ex15, hF⟩ := ltt_some hF
        refine lv_iinc (v := x15) (lv' := [(3, .int x15), (5, .int y12.2.1), (4, .int y12.1), (2, .int x5), (0, .ref (ad a)), (1, .int p0)]) hx hb dX1_readWeights_127 hl (k := 2) rfl (by rw [ex15]; rfl) (by decide) rfl (fun ls hl => ?_)
        refine lv_goto (tgt := 15) hx hb dX1_readWeights_130 (by decide) ?_
        obtain rfl := Option.some.inj hF
        exact hwz9 _ _ _ hP hD hS (lv_sub hl [0, 3, 4, 5] rfl)
      clear hF
      refine itr_rule (fun (s13 : Int32 × Int32 × DD) => ∀ (H : Heap) (locs : List Loc) (ls : Array Slot), va_P D classes (wld ct ad G s13.2.2) H → va_D A (wld ct ad G s13.2.2) → va_S A s.heap H locs → lv_has ls 7 [(5, .int s13.2.1), (4, .int s13.1), (3, .int s7.1), (2, .int x5), (0, .ref (ad a)), (1, .int p0)] → W p l e (headSpec wuX1_readWeights ({ frames := 3, cells := 0, slots := 0, locals := 81 })).room s m ([.ref (ad a), .int p0] : List Value).toArray below meth c H locs 0 0 (MQ below (va_Qv (fun (_ : Unit) => True) (fun _ t => kE D ct ad G A y t) A) ([.ref (ad a), .int p0] : List Value).toArray s 0 0 A) (F0 m 32 ls [])) ?_ _ _ hy12 _ _ _ hP hD hS (lv_sub hl [0, 1, 2, 3, 4, 5] rfl)
      rintro s13 ⟨z16, hF, hwz16⟩ H locs ls hP hD hS hl
      try dsimp only at hF
      refine lv_iload hx hb dX1_readWeights_32 (lv_at hl 0 rfl) ?_
      refine lv_iconst (v := (3 : Int32)) hx hb dX1_readWeights_34 (by decide) ?_
      refine lv_icmp_ge (tgt := 127) hx hb dX1_readWeights_35 (by decide) (fun c17 => ?_) (fun c17 => ?_)
      · rw [if_pos c17] at hF
        obtain rfl := Option.some.inj hF
        subst hwz16
        exact K12 _ _ _ hP hD hS (lv_sub hl [0, 1, 2, 3, 4, 5] rfl)
      · rw [if_neg c17] at hF
        refine lv_iload hx hb dX1_readWeights_38 (lv_at hl 0 rfl) ?_
        refine lv_iconst (v := (2 : Int32)) hx hb dX1_readWeights_40 (by decide) ?_
        obtain ⟨y18, hy18, hF⟩ := bnd_some hF
        have J18 : ∀ (H : Heap) (locs : List Loc) (ls : Array Slot), va_P D classes (wld ct ad G y18.2) H → va_D A (wld ct ad G y18.2) → va_S A s.heap H locs → lv_has ls 7 [(5, .int s13.2.1), (4, .int s13.1), (3, .int s7.1), (2, .int x5), (0, .ref (ad a)), (1, .int p0)] → W p l e (headSpec wuX1_readWeights ({ frames := 3, cells := 0, slots := 0, locals := 81 })).room s m ([.ref (ad a), .int p0] : List Value).toArray below meth c H locs 0 0 (MQ below (va_Qv (fun (_ : Unit) => True) (fun _ t => kE D ct ad G A y t) A) ([.ref (ad a), .int p0] : List Value).toArray s 0 0 A) (F0 m 67 ls [.int y18.1]) := by
          intro H locs ls hP hD hS hl
          refine lv_istore (lv' := [(4, .int y18.1), (5, .int s13.2.1), (3, .int s7.1), (2, .int x5), (0, .ref (ad a)), (1, .int p0)]) hx hb dX1_readWeights_67 hl (by decide) rfl (fun ls hl => ?_)
          refine lv_iload hx hb dX1_readWeights_69 (lv_at hl 0 rfl) ?_
          obtain ⟨y19, hy19, hF⟩ := bnd_some hF
          have J19 : ∀ (H : Heap) (locs : List Loc) (ls : Array Slot), va_P D classes (wld ct ad G y19) H → va_D A (wld ct ad G y19) → va_S A s.heap H locs → lv_has ls 7 [(4, .int y18.1), (5, .int s13.2.1), (3, .int s7.1), (2, .int x5), (0, .ref (ad a)), (1, .int p0)] → W p l e (headSpec wuX1_readWeights ({ frames := 3, cells := 0, slots := 0, locals := 81 })).room s m ([.ref (ad a), .int p0] : List Value).toArray below meth c H locs 0 0 (MQ below (va_Qv (fun (_ : Unit) => True) (fun _ t => kE D ct ad G A y t) A) ([.ref (ad a), .int p0] : List Value).toArray s 0 0 A) (F0 m 121 ls []) := by
            intro H locs ls hP hD hS hl
            obtain ⟨x20, ex20, hF⟩ := ltt_some hF
            refine lv_iinc (v := x20) (lv' := [(5, .int x20), (4, .int y18.1), (3, .int s7.1), (2, .int x5), (0, .ref (ad a)), (1, .int p0)]) hx hb dX1_readWeights_121 hl (k := 1) rfl (by rw [ex20]; rfl) (by decide) rfl (fun ls hl => ?_)
            refine lv_goto (tgt := 32) hx hb dX1_readWeights_124 (by decide) ?_
            obtain rfl := Option.some.inj hF
            exact hwz16 _ _ _ hP hD hS (lv_sub hl [0, 1, 2, 3, 4, 5] rfl)
          clear hF
          have hF := hy19
          clear hy19
          refine lv_if_eq (tgt := 121) hx hb dX1_readWeights_71 (by decide) (fun c21 => ?_) (fun c21 => ?_)
          · rw [if_pos c21] at hF
            obtain rfl := Option.some.inj hF
            exact J19 _ _ _ hP hD hS (lv_sub hl [0, 1, 2, 3, 4, 5] rfl)
          · rw [if_neg c21] at hF
            refine lv_iload_n hx hb dX1_readWeights_74 rfl (lv_at hl 5 rfl) ?_
            refine lv_iload_n hx hb dX1_readWeights_75 rfl (lv_at hl 2 rfl) ?_
            refine lv_iload hx hb dX1_readWeights_76 (lv_at hl 1 rfl) ?_
            obtain ⟨y22, hy22, hF⟩ := bnd_some hF
            have hf9 := wA_in hD hA9 hS
            refine va_calli (va_runS (As := [.int p0, .int s7.1, .int s13.2.1]) (rest := []) ⟨hx, hb, hml, hown, hts⟩ (kX3_weightAt l D ct ad Z G y18.2 H.size p0 s7.1 s13.2.1 y22 hy22) (va_cwS 3 hts gX1_readWeights_X3_weightAt rfl rfl rfl (by decide +kernel) ⟨Nat.le_of_ble_eq_true rfl, Nat.le_of_ble_eq_true rfl⟩) ⟨fun a U g mk q => by obtain ⟨q0, q1, qP, qK, qD, qZ, qN⟩ := q; exact ⟨q0, q1, qP, va_K.moved (u := U) (U := U.calling g mk a) (Vm.Alike.refl U.vm) qK, qD, sF.moved (u := U) (U := U.calling g mk a) (Vm.Alike.refl U.vm) qZ, nF.same rfl qN⟩, fun U hU hW => ⟨rfl, by rw [hU], by rw [hU]; exact hP, va_K.moved hW.alike hK, hD.weaken (fun _ _ _ _ => trivial), by rw [hU]; exact ((hZ.kept hS.2.1).narrow hf9).moved hW.alike, hN.warm hW⟩⟩ rfl rfl hl.1 rfl (lv_room (Nat.le_of_ble_eq_true rfl)) dX1_readWeights_78 ⟨(Nat.zero_le _), (Nat.zero_le _)⟩) hS (fun q _ h => hf9 q h) hf9 (fun r u t H locs ht hvm hw hB hz1 hk1 hS => ?_)
            obtain ⟨hP, hK9, hD9⟩ := hB
            rw [ht] at hP
            try dsimp only at hw
            subst hw
            have hD := hD9.weaken (fun _ q _ h => hf9 q.1 h)
            refine lv_istore (lv' := [(6, .int y22.2), (4, .int y18.1), (5, .int s13.2.1), (3, .int s7.1), (2, .int x5), (0, .ref (ad a)), (1, .int p0)]) hx hb dX1_readWeights_81 hl (by decide) rfl (fun ls hl => ?_)
            refine lv_aload_n hx hb dX1_readWeights_83 rfl (lv_at hl 5 rfl) ?_
            refine va_get (D := D) (ci := 1) (v := va_re ad (y22.1.2 a 10)) (C := RX1) (T := TX1) (N := 22) hx hb hts (mus hf_X1) hown hK hP a (wld_o ct ad G y22.1 hc hk (by decide)) rfl 10 (by decide) (hts (.fieldLink RX1 68 "VideoSuite$Decoder" "head" "LVideoSuite$Header;") (mu mw_652)) (fun _ h9 => h9) rfl dX1_readWeights_84 ?_
            obtain ⟨b23, ho23, hc23, hk23, hF⟩ := dr_some hF
            refine W_st (st' := [.ref (ad b23)]) (by rw [va_some ho23]) ?_
            refine va_get (D := D) (ci := 3) (v := va_re ad (y22.1.2 b23 3)) (C := RX3) (T := TX3) (N := 4) hx hb hts (mus hf_X3) hown hK hP b23 (wld_o ct ad G y22.1 hc23 hk23 (by decide)) rfl 3 (by decide) (hts (.fieldLink RX1 250 "VideoSuite$Header" "weight" "[I") (mu mw_629)) (fun _ h9 => h9) rfl dX1_readWeights_87 ?_
            refine lv_iload hx hb dX1_readWeights_90 (lv_at hl 0 rfl) ?_
            refine lv_aload_n hx hb dX1_readWeights_92 rfl (lv_at hl 5 rfl) ?_
            refine lv_bipush (v := (-128 : Int32)) hx hb dX1_readWeights_93 (by decide) ?_
            refine lv_bipush (v := (127 : Int32)) hx hb dX1_readWeights_95 (by decide) ?_
            obtain ⟨y24, hy24, hF⟩ := bnd_some hF
            have hf9 := wA_in hD hA9 hS
            refine va_calli (va_runV (As := [.int (-128 : Int32), .int (127 : Int32)]) (rest := [.int y22.2, va_re ad (y22.1.2 b23 3)]) ⟨hx, hb, hml, hown, hts⟩ (kX1_signed l D ct ad Z G y22.1 H.size a ((-128 : Int32)) ((127 : Int32)) y24 hc hk hy24) (cwV 2 hts gX1_readWeights_X1_signed rfl rfl rfl (by decide +kernel) ⟨Nat.le_of_ble_eq_true rfl, Nat.le_of_ble_eq_true rfl⟩) ⟨fun a U g mk q => by obtain ⟨q0, q1, qP, qK, qD, qZ, qN⟩ := q; exact ⟨q0, q1, qP, va_K.moved (u := U) (U := U.calling g mk a) (Vm.Alike.refl U.vm) qK, qD, sF.moved (u := U) (U := U.calling g mk a) (Vm.Alike.refl U.vm) qZ, nF.same rfl qN⟩, va_recv hK hP (ci := 1) (q0 := a) rfl (wld_o ct ad G y22.1 hc hk (by decide)), fun U hU hW => ⟨rfl, by rw [hU], by rw [hU]; exact hP, va_K.moved hW.alike hK, hD.weaken (fun _ _ _ _ => trivial), by rw [hU]; exact ((hZ.kept hS.2.1).narrow hf9).moved hW.alike, hN.warm hW⟩⟩ rfl rfl hl.1 rfl (lv_room (by simp only [List.map, va_re_cat]; exact Nat.le_of_ble_eq_true rfl)) dX1_readWeights_97 ⟨(Nat.zero_le _), (Nat.zero_le _)⟩) hS (fun q _ h => hf9 q h) hf9 (fun r u t H locs ht hvm hw hB hz1 hk1 hS => ?_)
            obtain ⟨hP, hK9, hD9⟩ := hB
            rw [ht] at hP
            try dsimp only at hw
            subst hw
            have hD := hD9.weaken (fun _ q _ h => hf9 q.1 h)
            obtain ⟨b25, ho25, hc25, hk25, hF⟩ := dr_some hF
            refine W_st (st' := [.int y24.2, .int y22.2, .ref (ad b25)]) (by rw [va_some ho25]) ?_
            obtain ⟨hvc, hF⟩ := chk_some hF
            refine va_iast hx hb hK hP hD hS b25 1 (wld_i ct ad G y24.1 hc25 hk25) rfl hvc dX1_readWeights_100 (fun H locs hP hD hS => ?_)
            obtain ⟨M26, eM26, hF⟩ := ltt_some hF
            rw [set_i ct ad G y24.1 hc25 hk25, ← eM26] at hP hD
            refine lv_aload_n hx hb dX1_readWeights_101 rfl (lv_at hl 5 rfl) ?_
            refine va_get (D := D) (ci := 1) (v := va_re ad (M26.2 a 10)) (C := RX1) (T := TX1) (N := 22) hx hb hts (mus hf_X1) hown hK hP a (wld_o ct ad G M26 hc hk (by decide)) rfl 10 (by decide) (hts (.fieldLink RX1 68 "VideoSuite$Decoder" "head" "LVideoSuite$Header;") (mu mw_652)) (fun _ h9 => h9) rfl dX1_readWeights_102 ?_
            obtain ⟨b27, ho27, hc27, hk27, hF⟩ := dr_some hF
            refine W_st (st' := [.ref (ad b27)]) (by rw [va_some ho27]) ?_
            refine va_get (D := D) (ci := 3) (v := va_re ad (M26.2 b27 3)) (C := RX3) (T := TX3) (N := 4) hx hb hts (mus hf_X3) hown hK hP b27 (wld_o ct ad G M26 hc27 hk27 (by decide)) rfl 3 (by decide) (hts (.fieldLink RX1 250 "VideoSuite$Header" "weight" "[I") (mu mw_629)) (fun _ h9 => h9) rfl dX1_readWeights_105 ?_
            refine lv_iload hx hb dX1_readWeights_108 (lv_at hl 0 rfl) ?_
            refine lv_iconst (v := (1 : Int32)) hx hb dX1_readWeights_110 (by decide) ?_
            refine lv_iadd hx hb dX1_readWeights_111 ?_
            obtain ⟨x28, ex28, hF⟩ := ltt_some hF
            refine lv_topi (fun zx28 ezx28 => ?_)
            obtain rfl : x28 = zx28 := ex28.trans ezx28.symm
            refine lv_aload_n hx hb dX1_readWeights_112 rfl (lv_at hl 5 rfl) ?_
            refine lv_bipush (v := (-128 : Int32)) hx hb dX1_readWeights_113 (by decide) ?_
            refine lv_bipush (v := (127 : Int32)) hx hb dX1_readWeights_115 (by decide) ?_
            obtain ⟨y29, hy29, hF⟩ := bnd_some hF
            have hf9 := wA_in hD hA9 hS
            refine va_calli (va_runV (As := [.int (-128 : Int32), .int (127 : Int32)]) (rest := [.int x28, va_re ad (M26.2 b27 3)]) ⟨hx, hb, hml, hown, hts⟩ (kX1_signed l D ct ad Z G M26 H.size a ((-128 : Int32)) ((127 : Int32)) y29 hc hk hy29) (cwV 2 hts gX1_readWeights_X1_signed rfl rfl rfl (by decide +kernel) ⟨Nat.le_of_ble_eq_true rfl, Nat.le_of_ble_eq_true rfl⟩) ⟨fun a U g mk q => by obtain ⟨q0, q1, qP, qK, qD, qZ, qN⟩ := q; exact ⟨q0, q1, qP, va_K.moved (u := U) (U := U.calling g mk a) (Vm.Alike.refl U.vm) qK, qD, sF.moved (u := U) (U := U.calling g mk a) (Vm.Alike.refl U.vm) qZ, nF.same rfl qN⟩, va_recv hK hP (ci := 1) (q0 := a) rfl (wld_o ct ad G M26 hc hk (by decide)), fun U hU hW => ⟨rfl, by rw [hU], by rw [hU]; exact hP, va_K.moved hW.alike hK, hD.weaken (fun _ _ _ _ => trivial), by rw [hU]; exact ((hZ.kept hS.2.1).narrow hf9).moved hW.alike, hN.warm hW⟩⟩ rfl rfl hl.1 rfl (lv_room (by simp only [List.map, va_re_cat]; exact Nat.le_of_ble_eq_true rfl)) dX1_readWeights_117 ⟨(Nat.zero_le _), (Nat.zero_le _)⟩) hS (fun q _ h => hf9 q h) hf9 (fun r u t H locs ht hvm hw hB hz1 hk1 hS => ?_)
            obtain ⟨hP, hK9, hD9⟩ := hB
            rw [ht] at hP
            try dsimp only at hw
            subst hw
            have hD := hD9.weaken (fun _ q _ h => hf9 q.1 h)
            obtain ⟨b30, ho30, hc30, hk30, hF⟩ := dr_some hF
            refine W_st (st' := [.int y29.2, .int x28, .ref (ad b30)]) (by rw [va_some ho30]) ?_
            obtain ⟨hvc, hF⟩ := chk_some hF
            refine va_iast hx hb hK hP hD hS b30 1 (wld_i ct ad G y29.1 hc30 hk30) rfl hvc dX1_readWeights_120 (fun H locs hP hD hS => ?_)
            obtain ⟨M31, eM31, hF⟩ := ltt_some hF
            rw [set_i ct ad G y29.1 hc30 hk30, ← eM31] at hP hD
            obtain rfl := Option.some.inj hF
            exact J19 _ _ _ hP hD hS (lv_sub hl [1, 2, 3, 4, 5, 6] rfl)
        clear hF
        have hF := hy18
        clear hy18
        refine lv_icmp_ge (tgt := 65) hx hb dX1_readWeights_41 (by decide) (fun c32 => ?_) (fun c32 => ?_)
        · rw [if_pos c32] at hF
          refine lv_iload hx hb dX1_readWeights_65 (lv_at hl 1 rfl) ?_
          obtain rfl := Option.some.inj hF
          exact J18 _ _ _ hP hD hS (lv_sub hl [0, 1, 2, 3, 4, 5] rfl)
        · rw [if_neg c32] at hF
          refine lv_aload_n hx hb dX1_readWeights_44 rfl (lv_at hl 4 rfl) ?_
          refine va_get (D := D) (ci := 1) (v := va_re ad (s13.2.2.2 a 0)) (C := RX1) (T := TX1) (N := 22) hx hb hts (mus hf_X1) hown hK hP a (wld_o ct ad G s13.2.2 hc hk (by decide)) rfl 0 (by decide) (hts (.fieldLink RX1 12 "VideoSuite$Decoder" "reader" "LVideoSuite$Reader;") (mu mw_640)) (fun _ h9 => h9) rfl dX1_readWeights_45 ?_
          refine lv_iconst (v := (0 : Int32)) hx hb dX1_readWeights_48 (by decide) ?_
          refine lv_iconst (v := (1 : Int32)) hx hb dX1_readWeights_49 (by decide) ?_
          obtain ⟨b33, ho33, hc33, hk33, hF⟩ := dr_some hF
          refine W_st (st' := [.int (1 : Int32), .int (0 : Int32), .ref (ad b33)]) (by rw [va_some ho33]) ?_
          obtain ⟨y34, hy34, hF⟩ := bnd_some hF
          have hf9 := wA_in hD hA9 hS
          refine va_calli (va_runV (As := [.int (0 : Int32), .int (1 : Int32)]) (rest := []) ⟨hx, hb, hml, hown, hts⟩ (kX5_fixed l D ct ad Z G s13.2.2 H.size b33 ((0 : Int32)) ((1 : Int32)) y34 hc33 hk33 hy34) (cwV 2 hts gX1_readWeights_X5_fixed rfl rfl rfl (by decide +kernel) ⟨Nat.le_of_ble_eq_true rfl, Nat.le_of_ble_eq_true rfl⟩) ⟨fun a U g mk q => by obtain ⟨q0, q1, qP, qK, qD, qZ, qN⟩ := q; exact ⟨q0, q1, qP, va_K.moved (u := U) (U := U.calling g mk a) (Vm.Alike.refl U.vm) qK, qD, sF.moved (u := U) (U := U.calling g mk a) (Vm.Alike.refl U.vm) qZ, nF.same rfl qN⟩, va_recv hK hP (ci := 5) (q0 := b33) rfl (wld_o ct ad G s13.2.2 hc33 hk33 (by decide)), fun U hU hW => ⟨rfl, by rw [hU], by rw [hU]; exact hP, va_K.moved hW.alike hK, hD.weaken (fun _ _ _ _ => trivial), by rw [hU]; exact ((hZ.kept hS.2.1).narrow hf9).moved hW.alike, hN.warm hW⟩⟩ rfl rfl hl.1 rfl (lv_room (Nat.le_of_ble_eq_true rfl)) dX1_readWeights_50 ⟨(Nat.zero_le _), (Nat.zero_le _)⟩) hS (fun q _ h => hf9 q h) hf9 (fun r u t H locs ht hvm hw hB hz1 hk1 hS => ?_)
          obtain ⟨hP, hK9, hD9⟩ := hB
          rw [ht] at hP
          try dsimp only at hw
          subst hw
          have hD := hD9.weaken (fun _ q _ h => hf9 q.1 h)
          refine lv_iconst (v := (1 : Int32)) hx hb dX1_readWeights_53 (by decide) ?_
          obtain ⟨y35, hy35, hF⟩ := bnd_some hF
          have J35 : ∀ (H : Heap) (locs : List Loc) (ls : Array Slot), va_P D classes (wld ct ad G y34.1) H → va_D A (wld ct ad G y34.1) → va_S A s.heap H locs → lv_has ls 7 [(5, .int s13.2.1), (4, .int s13.1), (3, .int s7.1), (2, .int x5), (0, .ref (ad a)), (1, .int p0)] → W p l e (headSpec wuX1_readWeights ({ frames := 3, cells := 0, slots := 0, locals := 81 })).room s m ([.ref (ad a), .int p0] : List Value).toArray below meth c H locs 0 0 (MQ below (va_Qv (fun (_ : Unit) => True) (fun _ t => kE D ct ad G A y t) A) ([.ref (ad a), .int p0] : List Value).toArray s 0 0 A) (F0 m 67 ls [.int y35]) := by
            intro H locs ls hP hD hS hl
            obtain rfl := Option.some.inj hF
            exact J18 _ _ _ hP hD hS (lv_sub hl [0, 1, 2, 3, 4, 5] rfl)
          clear hF
          have hF := hy35
          clear hy35
          refine lv_icmp_ne (tgt := 61) hx hb dX1_readWeights_54 (by decide) (fun c36 => ?_) (fun c36 => ?_)
          · rw [if_neg c36] at hF
            refine lv_iconst (v := (0 : Int32)) hx hb dX1_readWeights_61 (by decide) ?_
            refine lv_goto (tgt := 67) hx hb dX1_readWeights_62 (by decide) ?_
            obtain rfl := Option.some.inj hF
            exact J35 _ _ _ hP hD hS (lv_sub hl [0, 1, 2, 3, 4, 5] rfl)
          · rw [if_pos c36] at hF
            refine lv_iconst (v := (1 : Int32)) hx hb dX1_readWeights_57 (by decide) ?_
            refine lv_goto (tgt := 67) hx hb dX1_readWeights_58 (by decide) ?_
            obtain rfl := Option.some.inj hF
            exact J35 _ _ _ hP hD hS (lv_sub hl [0, 1, 2, 3, 4, 5] rfl)
set_option maxRecDepth 20000 in
theorem gX1_rebuild_X9_sides : GoodIn wuX1_rebuild (wsV RX1 416 RX9 yX9_sides wuX9_sides) := gu_V mw_1988 mw_1989 mw_1990 mw_171 mw_1991
set_option maxRecDepth 20000 in
set_option maxRecDepth 20000 in
theorem gX1_rebuild_X6_colourStep : GoodIn wuX1_rebuild (va_wsS RX1 525 yX6_colourStep wuX6_colourStep) := gu_S mw_2138 mw_975 mw_172 mw_976
set_option maxRecDepth 20000 in
set_option maxRecDepth 20000 in
theorem gX1_rebuild_X6_fillColours : GoodIn wuX1_rebuild (wsV RX1 528 RX6 yX6_fillColours wuX6_fillColours) := gu_V mw_2139 mw_2140 mw_2141 mw_172 mw_2142
set_option maxRecDepth 20000 in
theorem gX1_rebuild_X6_fillLuma : GoodIn wuX1_rebuild (wsV RX1 522 RX6 yX6_fillLuma wuX6_fillLuma) := gu_V mw_2134 mw_2135 mw_2136 mw_172 mw_2137
set_option maxRecDepth 20000 in
set_option maxRecDepth 20000 in
theorem gX1_rebuild_X9_sidesOf : GoodIn wuX1_rebuild (va_wsS RX1 434 yX9_sidesOf wuX9_sidesOf) := gu_S mw_2107 mw_2108 mw_171 mw_2109
set_option maxRecDepth 20000 in
set_option maxRecDepth 20000 in
theorem gX1_rebuild_X6_predictFour : GoodIn wuX1_rebuild (wsV RX1 518 RX6 yX6_predictFour wuX6_predictFour) := gu_V mw_2110 mw_2111 mw_2112 mw_172 mw_2113
set_option maxRecDepth 20000 in
set_option maxRecDepth 20000 in
theorem gX1_rebuild_X6_predictSixteen : GoodIn wuX1_rebuild (wsV RX1 511 RX6 yX6_predictSixteen wuX6_predictSixteen) := gu_V mw_2072 mw_2073 mw_2074 mw_172 mw_2075
set_option maxRecDepth 20000 in
set_option maxRecDepth 20000 in
theorem gX1_rebuild_X6_fillSixteen : GoodIn wuX1_rebuild (wsV RX1 514 RX6 yX6_fillSixteen wuX6_fillSixteen) := gu_V mw_2076 mw_2077 mw_2078 mw_172 mw_2079
set_option maxRecDepth 20000 in
set_option maxRecDepth 20000 in
theorem gX1_rebuild_X6_predictColours_ : GoodIn wuX1_rebuild (wsV RX1 507 RX6 yX6_predictColours_ wuX6_predictColours_) := gu_V mw_2052 mw_2053 mw_2054 mw_172 mw_2055
set_option maxRecDepth 20000 in
set_option maxRecDepth 20000 in
theorem gX1_rebuild_X6_predictByLists : GoodIn wuX1_rebuild (wsV RX1 504 RX6 yX6_predictByLists wuX6_predictByLists) := gu_V mw_1996 mw_1997 mw_1998 mw_172 mw_1999
set_option maxRecDepth 20000 in
set_option maxRecDepth 20000 in
theorem gX1_rebuild_X6_fillRaw : GoodIn wuX1_rebuild (wsV RX1 501 RX6 yX6_fillRaw wuX6_fillRaw) := gu_V mw_1977 mw_1978 mw_1979 mw_172 mw_1980
set_option maxRecDepth 20000 in
theorem dX1_rebuild_0 : decode cX1_rebuild 0 = .ok (.bipush 8, 2) := by decide +kernel
theorem dX1_rebuild_2 : decode cX1_rebuild 2 = .ok (.iload_n 1, 1) := by decide +kernel
theorem dX1_rebuild_3 : decode cX1_rebuild 3 = .ok (.imul, 1) := by decide +kernel
theorem dX1_rebuild_4 : decode cX1_rebuild 4 = .ok (.istore_n 2, 1) := by decide +kernel
theorem dX1_rebuild_5 : decode cX1_rebuild 5 = .ok (.aload_n 0, 1) := by decide +kernel
theorem dX1_rebuild_6 : decode cX1_rebuild 6 = .ok (.getfield 28, 3) := by decide +kernel
theorem dX1_rebuild_9 : decode cX1_rebuild 9 = .ok (.getfield 355, 3) := by decide +kernel
theorem dX1_rebuild_12 : decode cX1_rebuild 12 = .ok (.iload_n 2, 1) := by decide +kernel
theorem dX1_rebuild_13 : decode cX1_rebuild 13 = .ok (.iconst 0, 1) := by decide +kernel
theorem dX1_rebuild_14 : decode cX1_rebuild 14 = .ok (.iadd, 1) := by decide +kernel
theorem dX1_rebuild_15 : decode cX1_rebuild 15 = .ok (.iaload, 1) := by decide +kernel
theorem dX1_rebuild_16 : decode cX1_rebuild 16 = .ok (.istore_n 3, 1) := by decide +kernel
theorem dX1_rebuild_17 : decode cX1_rebuild 17 = .ok (.aload_n 0, 1) := by decide +kernel
theorem dX1_rebuild_18 : decode cX1_rebuild 18 = .ok (.getfield 28, 3) := by decide +kernel
theorem dX1_rebuild_21 : decode cX1_rebuild 21 = .ok (.getfield 355, 3) := by decide +kernel
theorem dX1_rebuild_24 : decode cX1_rebuild 24 = .ok (.iload_n 2, 1) := by decide +kernel
theorem dX1_rebuild_25 : decode cX1_rebuild 25 = .ok (.iconst 2, 1) := by decide +kernel
theorem dX1_rebuild_26 : decode cX1_rebuild 26 = .ok (.iadd, 1) := by decide +kernel
theorem dX1_rebuild_27 : decode cX1_rebuild 27 = .ok (.iaload, 1) := by decide +kernel
theorem dX1_rebuild_28 : decode cX1_rebuild 28 = .ok (.istore 4, 2) := by decide +kernel
theorem dX1_rebuild_30 : decode cX1_rebuild 30 = .ok (.iload_n 3, 1) := by decide +kernel
theorem dX1_rebuild_31 : decode cX1_rebuild 31 = .ok (.iconst 2, 1) := by decide +kernel
theorem dX1_rebuild_32 : decode cX1_rebuild 32 = .ok (.if_icmp .ne 16, 3) := by decide +kernel
theorem dX1_rebuild_35 : decode cX1_rebuild 35 = .ok (.aload_n 0, 1) := by decide +kernel
theorem dX1_rebuild_36 : decode cX1_rebuild 36 = .ok (.getfield 35, 3) := by decide +kernel
theorem dX1_rebuild_39 : decode cX1_rebuild 39 = .ok (.aload_n 0, 1) := by decide +kernel
theorem dX1_rebuild_40 : decode cX1_rebuild 40 = .ok (.getfield 28, 3) := by decide +kernel
theorem dX1_rebuild_43 : decode cX1_rebuild 43 = .ok (.iload_n 1, 1) := by decide +kernel
theorem dX1_rebuild_44 : decode cX1_rebuild 44 = .ok (.invokevirtual 501, 3) := by decide +kernel
theorem dX1_rebuild_47 : decode cX1_rebuild 47 = .ok (.return_, 1) := by decide +kernel
theorem dX1_rebuild_48 : decode cX1_rebuild 48 = .ok (.aload_n 0, 1) := by decide +kernel
theorem dX1_rebuild_49 : decode cX1_rebuild 49 = .ok (.getfield 28, 3) := by decide +kernel
theorem dX1_rebuild_52 : decode cX1_rebuild 52 = .ok (.iload_n 1, 1) := by decide +kernel
theorem dX1_rebuild_53 : decode cX1_rebuild 53 = .ok (.invokevirtual 416, 3) := by decide +kernel
theorem dX1_rebuild_56 : decode cX1_rebuild 56 = .ok (.istore 5, 2) := by decide +kernel
theorem dX1_rebuild_58 : decode cX1_rebuild 58 = .ok (.iload_n 3, 1) := by decide +kernel
theorem dX1_rebuild_59 : decode cX1_rebuild 59 = .ok (.iconst 3, 1) := by decide +kernel
theorem dX1_rebuild_60 : decode cX1_rebuild 60 = .ok (.if_icmp .ne 18, 3) := by decide +kernel
theorem dX1_rebuild_63 : decode cX1_rebuild 63 = .ok (.aload_n 0, 1) := by decide +kernel
theorem dX1_rebuild_64 : decode cX1_rebuild 64 = .ok (.getfield 35, 3) := by decide +kernel
theorem dX1_rebuild_67 : decode cX1_rebuild 67 = .ok (.aload_n 0, 1) := by decide +kernel
theorem dX1_rebuild_68 : decode cX1_rebuild 68 = .ok (.getfield 28, 3) := by decide +kernel
theorem dX1_rebuild_71 : decode cX1_rebuild 71 = .ok (.iload_n 1, 1) := by decide +kernel
theorem dX1_rebuild_72 : decode cX1_rebuild 72 = .ok (.invokevirtual 504, 3) := by decide +kernel
theorem dX1_rebuild_75 : decode cX1_rebuild 75 = .ok (.goto 28, 3) := by decide +kernel
theorem dX1_rebuild_78 : decode cX1_rebuild 78 = .ok (.aload_n 0, 1) := by decide +kernel
theorem dX1_rebuild_79 : decode cX1_rebuild 79 = .ok (.getfield 35, 3) := by decide +kernel
theorem dX1_rebuild_82 : decode cX1_rebuild 82 = .ok (.aload_n 0, 1) := by decide +kernel
theorem dX1_rebuild_83 : decode cX1_rebuild 83 = .ok (.getfield 28, 3) := by decide +kernel
theorem dX1_rebuild_86 : decode cX1_rebuild 86 = .ok (.iload_n 1, 1) := by decide +kernel
theorem dX1_rebuild_87 : decode cX1_rebuild 87 = .ok (.aload_n 0, 1) := by decide +kernel
theorem dX1_rebuild_88 : decode cX1_rebuild 88 = .ok (.getfield 28, 3) := by decide +kernel
theorem dX1_rebuild_91 : decode cX1_rebuild 91 = .ok (.getfield 355, 3) := by decide +kernel
theorem dX1_rebuild_94 : decode cX1_rebuild 94 = .ok (.iload_n 2, 1) := by decide +kernel
theorem dX1_rebuild_95 : decode cX1_rebuild 95 = .ok (.iconst 5, 1) := by decide +kernel
theorem dX1_rebuild_96 : decode cX1_rebuild 96 = .ok (.iadd, 1) := by decide +kernel
theorem dX1_rebuild_97 : decode cX1_rebuild 97 = .ok (.iaload, 1) := by decide +kernel
theorem dX1_rebuild_98 : decode cX1_rebuild 98 = .ok (.iload 5, 2) := by decide +kernel
theorem dX1_rebuild_100 : decode cX1_rebuild 100 = .ok (.invokevirtual 507, 3) := by decide +kernel
theorem dX1_rebuild_103 : decode cX1_rebuild 103 = .ok (.iload_n 3, 1) := by decide +kernel
theorem dX1_rebuild_104 : decode cX1_rebuild 104 = .ok (.iconst 1, 1) := by decide +kernel
theorem dX1_rebuild_105 : decode cX1_rebuild 105 = .ok (.if_icmp .ne 43, 3) := by decide +kernel
theorem dX1_rebuild_108 : decode cX1_rebuild 108 = .ok (.aload_n 0, 1) := by decide +kernel
theorem dX1_rebuild_109 : decode cX1_rebuild 109 = .ok (.getfield 35, 3) := by decide +kernel
theorem dX1_rebuild_112 : decode cX1_rebuild 112 = .ok (.aload_n 0, 1) := by decide +kernel
theorem dX1_rebuild_113 : decode cX1_rebuild 113 = .ok (.getfield 28, 3) := by decide +kernel
theorem dX1_rebuild_116 : decode cX1_rebuild 116 = .ok (.iload_n 1, 1) := by decide +kernel
theorem dX1_rebuild_117 : decode cX1_rebuild 117 = .ok (.aload_n 0, 1) := by decide +kernel
theorem dX1_rebuild_118 : decode cX1_rebuild 118 = .ok (.getfield 28, 3) := by decide +kernel
theorem dX1_rebuild_121 : decode cX1_rebuild 121 = .ok (.getfield 422, 3) := by decide +kernel
theorem dX1_rebuild_124 : decode cX1_rebuild 124 = .ok (.bipush 16, 2) := by decide +kernel
theorem dX1_rebuild_126 : decode cX1_rebuild 126 = .ok (.iload_n 1, 1) := by decide +kernel
theorem dX1_rebuild_127 : decode cX1_rebuild 127 = .ok (.imul, 1) := by decide +kernel
theorem dX1_rebuild_128 : decode cX1_rebuild 128 = .ok (.iaload, 1) := by decide +kernel
theorem dX1_rebuild_129 : decode cX1_rebuild 129 = .ok (.iload 5, 2) := by decide +kernel
theorem dX1_rebuild_131 : decode cX1_rebuild 131 = .ok (.invokevirtual 511, 3) := by decide +kernel
theorem dX1_rebuild_134 : decode cX1_rebuild 134 = .ok (.aload_n 0, 1) := by decide +kernel
theorem dX1_rebuild_135 : decode cX1_rebuild 135 = .ok (.getfield 35, 3) := by decide +kernel
theorem dX1_rebuild_138 : decode cX1_rebuild 138 = .ok (.aload_n 0, 1) := by decide +kernel
theorem dX1_rebuild_139 : decode cX1_rebuild 139 = .ok (.getfield 28, 3) := by decide +kernel
theorem dX1_rebuild_142 : decode cX1_rebuild 142 = .ok (.iload_n 1, 1) := by decide +kernel
theorem dX1_rebuild_143 : decode cX1_rebuild 143 = .ok (.iload 4, 2) := by decide +kernel
theorem dX1_rebuild_145 : decode cX1_rebuild 145 = .ok (.invokevirtual 514, 3) := by decide +kernel
theorem dX1_rebuild_148 : decode cX1_rebuild 148 = .ok (.iconst 0, 1) := by decide +kernel
theorem dX1_rebuild_149 : decode cX1_rebuild 149 = .ok (.istore 6, 2) := by decide +kernel
theorem dX1_rebuild_151 : decode cX1_rebuild 151 = .ok (.iload 6, 2) := by decide +kernel
theorem dX1_rebuild_153 : decode cX1_rebuild 153 = .ok (.bipush 16, 2) := by decide +kernel
theorem dX1_rebuild_155 : decode cX1_rebuild 155 = .ok (.if_icmp .ge 70, 3) := by decide +kernel
theorem dX1_rebuild_158 : decode cX1_rebuild 158 = .ok (.iload_n 3, 1) := by decide +kernel
theorem dX1_rebuild_159 : decode cX1_rebuild 159 = .ok (.iconst 1, 1) := by decide +kernel
theorem dX1_rebuild_160 : decode cX1_rebuild 160 = .ok (.if_icmp .eq 65, 3) := by decide +kernel
theorem dX1_rebuild_163 : decode cX1_rebuild 163 = .ok (.iload_n 3, 1) := by decide +kernel
theorem dX1_rebuild_164 : decode cX1_rebuild 164 = .ok (.ifCond .ne 39, 3) := by decide +kernel
theorem dX1_rebuild_167 : decode cX1_rebuild 167 = .ok (.aload_n 0, 1) := by decide +kernel
theorem dX1_rebuild_168 : decode cX1_rebuild 168 = .ok (.getfield 35, 3) := by decide +kernel
theorem dX1_rebuild_171 : decode cX1_rebuild 171 = .ok (.aload_n 0, 1) := by decide +kernel
theorem dX1_rebuild_172 : decode cX1_rebuild 172 = .ok (.getfield 28, 3) := by decide +kernel
theorem dX1_rebuild_175 : decode cX1_rebuild 175 = .ok (.iload_n 1, 1) := by decide +kernel
theorem dX1_rebuild_176 : decode cX1_rebuild 176 = .ok (.iload 6, 2) := by decide +kernel
theorem dX1_rebuild_178 : decode cX1_rebuild 178 = .ok (.aload_n 0, 1) := by decide +kernel
theorem dX1_rebuild_179 : decode cX1_rebuild 179 = .ok (.getfield 28, 3) := by decide +kernel
theorem dX1_rebuild_182 : decode cX1_rebuild 182 = .ok (.getfield 422, 3) := by decide +kernel
theorem dX1_rebuild_185 : decode cX1_rebuild 185 = .ok (.bipush 16, 2) := by decide +kernel
theorem dX1_rebuild_187 : decode cX1_rebuild 187 = .ok (.iload_n 1, 1) := by decide +kernel
theorem dX1_rebuild_188 : decode cX1_rebuild 188 = .ok (.imul, 1) := by decide +kernel
theorem dX1_rebuild_189 : decode cX1_rebuild 189 = .ok (.iload 6, 2) := by decide +kernel
theorem dX1_rebuild_191 : decode cX1_rebuild 191 = .ok (.iadd, 1) := by decide +kernel
theorem dX1_rebuild_192 : decode cX1_rebuild 192 = .ok (.iaload, 1) := by decide +kernel
theorem dX1_rebuild_193 : decode cX1_rebuild 193 = .ok (.iload 6, 2) := by decide +kernel
theorem dX1_rebuild_195 : decode cX1_rebuild 195 = .ok (.iload 5, 2) := by decide +kernel
theorem dX1_rebuild_197 : decode cX1_rebuild 197 = .ok (.invokestatic 434, 3) := by decide +kernel
theorem dX1_rebuild_200 : decode cX1_rebuild 200 = .ok (.invokevirtual 518, 3) := by decide +kernel
theorem dX1_rebuild_203 : decode cX1_rebuild 203 = .ok (.aload_n 0, 1) := by decide +kernel
theorem dX1_rebuild_204 : decode cX1_rebuild 204 = .ok (.getfield 35, 3) := by decide +kernel
theorem dX1_rebuild_207 : decode cX1_rebuild 207 = .ok (.aload_n 0, 1) := by decide +kernel
theorem dX1_rebuild_208 : decode cX1_rebuild 208 = .ok (.getfield 28, 3) := by decide +kernel
theorem dX1_rebuild_211 : decode cX1_rebuild 211 = .ok (.iload_n 1, 1) := by decide +kernel
theorem dX1_rebuild_212 : decode cX1_rebuild 212 = .ok (.iload 6, 2) := by decide +kernel
theorem dX1_rebuild_214 : decode cX1_rebuild 214 = .ok (.iload 4, 2) := by decide +kernel
theorem dX1_rebuild_216 : decode cX1_rebuild 216 = .ok (.invokevirtual 522, 3) := by decide +kernel
theorem dX1_rebuild_219 : decode cX1_rebuild 219 = .ok (.iinc 6 1, 3) := by decide +kernel
theorem dX1_rebuild_222 : decode cX1_rebuild 222 = .ok (.goto (-71), 3) := by decide +kernel
theorem dX1_rebuild_225 : decode cX1_rebuild 225 = .ok (.aload_n 0, 1) := by decide +kernel
theorem dX1_rebuild_226 : decode cX1_rebuild 226 = .ok (.getfield 35, 3) := by decide +kernel
theorem dX1_rebuild_229 : decode cX1_rebuild 229 = .ok (.aload_n 0, 1) := by decide +kernel
theorem dX1_rebuild_230 : decode cX1_rebuild 230 = .ok (.getfield 28, 3) := by decide +kernel
theorem dX1_rebuild_233 : decode cX1_rebuild 233 = .ok (.iload_n 1, 1) := by decide +kernel
theorem dX1_rebuild_234 : decode cX1_rebuild 234 = .ok (.iload 4, 2) := by decide +kernel
theorem dX1_rebuild_236 : decode cX1_rebuild 236 = .ok (.aload_n 0, 1) := by decide +kernel
theorem dX1_rebuild_237 : decode cX1_rebuild 237 = .ok (.getfield 28, 3) := by decide +kernel
theorem dX1_rebuild_240 : decode cX1_rebuild 240 = .ok (.getfield 308, 3) := by decide +kernel
theorem dX1_rebuild_243 : decode cX1_rebuild 243 = .ok (.bipush 8, 2) := by decide +kernel
theorem dX1_rebuild_245 : decode cX1_rebuild 245 = .ok (.iaload, 1) := by decide +kernel
theorem dX1_rebuild_246 : decode cX1_rebuild 246 = .ok (.invokestatic 525, 3) := by decide +kernel
theorem dX1_rebuild_249 : decode cX1_rebuild 249 = .ok (.invokevirtual 528, 3) := by decide +kernel
theorem dX1_rebuild_252 : decode cX1_rebuild 252 = .ok (.return_, 1) := by decide +kernel
def FX1_rebuild (G : GG) (M : DD) (a : Nat) (p0 : Int32) : Option (DD) :=
  ltt ((((8 : Int32)) * p0)) fun x1 =>
  dr G 9 ((M.2 a 2)) fun b2 =>
  ltt ((x1 + ((0 : Int32)))) fun x3 =>
  dr G 13 ((M.2 b2 6)) fun b4 =>
  chk (¬ (x3 < 0 ∨ G.2.2 b4 ≤ x3.toNatClampNeg)) <|
  ltt (M.1 b4 x3.toNatClampNeg) fun x5 =>
  ltt ((x1 + ((2 : Int32)))) fun x6 =>
  chk (¬ (x6 < 0 ∨ G.2.2 b4 ≤ x6.toNatClampNeg)) <|
  ltt (M.1 b4 x6.toNatClampNeg) fun x7 =>
  if x5 = ((2 : Int32)) then (dr G 6 ((M.2 a 3)) fun b55 =>
  bnd (FX6_fillRaw G M b55 ((M.2 a 2)) p0) fun y56 =>
  some y56) else
  (bnd (FX9_sides G M b2 p0) fun y9 =>
  bnd (if x5 = ((3 : Int32)) then (dr G 6 ((y9.1.2 a 3)) fun b53 =>
  bnd (FX6_predictByLists G y9.1 b53 ((y9.1.2 a 2)) p0) fun y54 =>
  some (y54)) else
  (dr G 9 ((y9.1.2 a 2)) fun b47 =>
  ltt ((x1 + ((5 : Int32)))) fun x48 =>
  dr G 13 ((y9.1.2 b47 6)) fun b49 =>
  chk (¬ (x48 < 0 ∨ G.2.2 b49 ≤ x48.toNatClampNeg)) <|
  ltt (y9.1.1 b49 x48.toNatClampNeg) fun x50 =>
  dr G 6 ((y9.1.2 a 3)) fun b51 =>
  bnd (FX6_predictColours_ G y9.1 b51 (some b47) p0 x50 y9.2) fun y52 =>
  some (y52))) fun (y10 : DD) =>
  bnd (if x5 = ((1 : Int32)) then (dr G 9 ((y10.2 a 2)) fun b38 =>
  ltt ((((16 : Int32)) * p0)) fun x39 =>
  dr G 13 ((y10.2 b38 7)) fun b40 =>
  chk (¬ (x39 < 0 ∨ G.2.2 b40 ≤ x39.toNatClampNeg)) <|
  ltt (y10.1 b40 x39.toNatClampNeg) fun x41 =>
  dr G 6 ((y10.2 a 3)) fun b42 =>
  bnd (FX6_predictSixteen G y10 b42 (some b38) p0 x41 y9.2) fun y43 =>
  dr G 6 ((y43.2 a 3)) fun b44 =>
  bnd (FX6_fillSixteen G y43 b44 ((y43.2 a 2)) p0 x7) fun y45 =>
  some (y45)) else
  (some (y10))) fun (y11 : DD) =>
  bnd (itr (fun (s13 : Int32 × DD) => ((if ((16 : Int32)) ≤ s13.1 then (some (.inr (s13.1, s13.2))) else
  (if x5 = ((1 : Int32)) then (some (.inr (s13.1, s13.2))) else
  (bnd (if x5 = ((0 : Int32)) then (dr G 9 ((s13.2.2 a 2)) fun b29 =>
  ltt ((((16 : Int32)) * p0)) fun x30 =>
  ltt ((x30 + s13.1)) fun x31 =>
  dr G 13 ((s13.2.2 b29 7)) fun b32 =>
  chk (¬ (x31 < 0 ∨ G.2.2 b32 ≤ x31.toNatClampNeg)) <|
  ltt (s13.2.1 b32 x31.toNatClampNeg) fun x33 =>
  bnd (FX9_sidesOf G s13.2 s13.1 y9.2) fun y34 =>
  dr G 6 ((s13.2.2 a 3)) fun b35 =>
  bnd (FX6_predictFour G y34.1 b35 (some b29) p0 s13.1 x33 y34.2) fun y36 =>
  some (y36)) else
  (some (s13.2))) fun (y24 : DD) =>
  dr G 6 ((y24.2 a 3)) fun b25 =>
  bnd (FX6_fillLuma G y24 b25 ((y24.2 a 2)) p0 s13.1 x7) fun y26 =>
  ltt (s13.1 + (1 : Int32)) fun x27 =>
  some (.inl (x27, y26))))) : Option ((Int32 × DD) ⊕ (Int32 × DD)))) 1000000 ((0 : Int32), y11)) fun (y12 : Int32 × DD) =>
  dr G 9 ((y12.2.2 a 2)) fun b15 =>
  dr G 13 ((y12.2.2 b15 2)) fun b16 =>
  chk (¬ (((8 : Int32)) < 0 ∨ G.2.2 b16 ≤ ((8 : Int32)).toNatClampNeg)) <|
  ltt (y12.2.1 b16 ((8 : Int32)).toNatClampNeg) fun x17 =>
  bnd (FX6_colourStep G y12.2 x7 x17) fun y18 =>
  dr G 6 ((y12.2.2 a 3)) fun b19 =>
  bnd (FX6_fillColours G y18.1 b19 (some b15) p0 y18.2) fun y20 =>
  some y20)
set_option maxHeartbeats 4000000 in
set_option maxRecDepth 100000 in
theorem kX1_rebuild (l : Launch) (D : va_G) (ct : CT) (ad : Nat → Nat) (Z : Nat → Nat) (G : GG) (M : DD) (sz : Nat) (a : Nat) (p0 : Int32) (y : DD) (hc : a < G.1) (hk : G.2.1 a = 1) (hF : FX1_rebuild G M a p0 = some y) : Met l yX1_rebuild wuX1_rebuild ({ frames := 5, cells := 0, slots := 0, locals := 140 }) (va_Pc [.ref (ad a), .int p0] (kB D ct ad Z G M sz)) (va_Qv (fun (_ : Unit) => True) (fun _ t => kE D ct ad G (wA ad G sz) y t) (wA ad G sz)) 0 0 (wA ad G sz) := by
  refine Met.ofW (cc := cX1_rebuild) (maxL := 7) (ret := none) (by decide) rfl ?_
  intro p e s m args below meth c s₁ B hml hv
  obtain ⟨rfl, hsz, hP, hK, hD0, hZ, hN⟩ := hv
  have hx := B.exec
  have hb := B.bytes
  have hr := B.returns
  have hts := atoms_spec (ws := wuX1_rebuild) B.pre
  have hown : s.vm.findClass RX1 = some m.cls := findClass_of_methodNamed B.named
  have hlocks := B.notSynchronized
  subst hsz
  have hD := wD_self (sz := s.heap.size) hD0
  have hA9 : ∀ q, s.heap.size ≤ q → wA ad G s.heap.size q := fun q h => Or.inr h
  generalize hAe : wA ad G s.heap.size = A at hD hA9 hZ ⊢
  have hS : va_S A s.heap s.heap [] := va_S.rf
  have hl := lv_entry ([.ref (ad a), .int p0]) (n := 7) (Nat.le_of_ble_eq_true rfl)
  rw [lg_entry_eq]
  generalize (lg_sl ([.ref (ad a), .int p0]) ++ List.replicate (7 - (lg_sl ([.ref (ad a), .int p0])).length) Slot.unset).toArray = ls at hl ⊢
  have hl : lv_has ls 7 [(0, .ref (ad a)), (1, .int p0)] := hl
  unfold FX1_rebuild at hF
  refine lv_bipush (v := (8 : Int32)) hx hb dX1_rebuild_0 (by decide) ?_
  refine lv_iload_n hx hb dX1_rebuild_2 rfl (lv_at hl 1 rfl) ?_
  refine lv_imul hx hb dX1_rebuild_3 ?_
  obtain ⟨x1, ex1, hF⟩ := ltt_some hF
  refine lv_topi (fun zx1 ezx1 => ?_)
  obtain rfl : x1 = zx1 := ex1.trans ezx1.symm
  refine lv_istore_n (lv' := [(2, .int x1), (0, .ref (ad a)), (1, .int p0)]) hx hb dX1_rebuild_4 rfl hl (by decide) rfl (fun ls hl => ?_)
  refine lv_aload_n hx hb dX1_rebuild_5 rfl (lv_at hl 1 rfl) ?_
  refine va_get (D := D) (ci := 1) (v := va_re ad (M.2 a 2)) (C := RX1) (T := TX1) (N := 22) hx hb hts (mus hf_X1) hown hK hP a (wld_o ct ad G M hc hk (by decide)) rfl 2 (by decide) (hts (.fieldLink RX1 28 "VideoSuite$Decoder" "work" "LVideoSuite$Work;") (mu mw_644)) (fun _ h9 => h9) rfl dX1_rebuild_6 ?_
  obtain ⟨b2, ho2, hc2, hk2, hF⟩ := dr_some hF
  refine W_st (st' := [.ref (ad b2)]) (by rw [va_some ho2]) ?_
  refine va_get (D := D) (ci := 9) (v := va_re ad (M.2 b2 6)) (C := RX9) (T := TX9) (N := 20) hx hb hts (mus hf_X9) hown hK hP b2 (wld_o ct ad G M hc2 hk2 (by decide)) rfl 6 (by decide) (hts (.fieldLink RX1 355 "VideoSuite$Work" "info" "[I") (mu mw_444)) (fun _ h9 => h9) rfl dX1_rebuild_9 ?_
  refine lv_iload_n hx hb dX1_rebuild_12 rfl (lv_at hl 0 rfl) ?_
  refine lv_iconst (v := (0 : Int32)) hx hb dX1_rebuild_13 (by decide) ?_
  refine lv_iadd hx hb dX1_rebuild_14 ?_
  obtain ⟨x3, ex3, hF⟩ := ltt_some hF
  refine lv_topi (fun zx3 ezx3 => ?_)
  obtain rfl : x3 = zx3 := ex3.trans ezx3.symm
  obtain ⟨b4, ho4, hc4, hk4, hF⟩ := dr_some hF
  refine W_st (st' := [.int x3, .ref (ad b4)]) (by rw [va_some ho4]) ?_
  obtain ⟨hvc, hF⟩ := chk_some hF
  refine va_iald hx hb hK hP b4 1 (wld_i ct ad G M hc4 hk4) rfl hvc dX1_rebuild_15 ?_
  obtain ⟨x5, ex5, hF⟩ := ltt_some hF
  refine lv_topi (fun zx5 ezx5 => ?_)
  obtain rfl : x5 = zx5 := ex5.trans ezx5.symm
  refine lv_istore_n (lv' := [(3, .int x5), (2, .int x1), (0, .ref (ad a)), (1, .int p0)]) hx hb dX1_rebuild_16 rfl hl (by decide) rfl (fun ls hl => ?_)
  refine lv_aload_n hx hb dX1_rebuild_17 rfl (lv_at hl 2 rfl) ?_
  refine va_get (D := D) (ci := 1) (v := va_re ad (M.2 a 2)) (C := RX1) (T := TX1) (N := 22) hx hb hts (mus hf_X1) hown hK hP a (wld_o ct ad G M hc hk (by decide)) rfl 2 (by decide) (hts (.fieldLink RX1 28 "VideoSuite$Decoder" "work" "LVideoSuite$Work;") (mu mw_644)) (fun _ h9 => h9) rfl dX1_rebuild_18 ?_
  refine W_st (st' := [.ref (ad b2)]) (by rw [va_some ho2]) ?_
  refine va_get (D := D) (ci := 9) (v := va_re ad (M.2 b2 6)) (C := RX9) (T := TX9) (N := 20) hx hb hts (mus hf_X9) hown hK hP b2 (wld_o ct ad G M hc2 hk2 (by decide)) rfl 6 (by decide) (hts (.fieldLink RX1 355 "VideoSuite$Work" "info" "[I") (mu mw_444)) (fun _ h9 => h9) rfl dX1_rebuild_21 ?_
  refine lv_iload_n hx hb dX1_rebuild_24 rfl (lv_at hl 1 rfl) ?_
  refine lv_iconst (v := (2 : Int32)) hx hb dX1_rebuild_25 (by decide) ?_
  refine lv_iadd hx hb dX1_rebuild_26 ?_
  obtain ⟨x6, ex6, hF⟩ := ltt_some hF
  refine lv_topi (fun zx6 ezx6 => ?_)
  obtain rfl : x6 = zx6 := ex6.trans ezx6.symm
  refine W_st (st' := [.int x6, .ref (ad b4)]) (by rw [va_some ho4]) ?_
  obtain ⟨hvc, hF⟩ := chk_some hF
  refine va_iald hx hb hK hP b4 1 (wld_i ct ad G M hc4 hk4) rfl hvc dX1_rebuild_27 ?_
  obtain ⟨x7, ex7, hF⟩ := ltt_some hF
  refine lv_topi (fun zx7 ezx7 => ?_)
  obtain rfl : x7 = zx7 := ex7.trans ezx7.symm
  refine lv_istore (lv' := [(4, .int x7), (3, .int x5), (2, .int x1), (0, .ref (ad a)), (1, .int p0)]) hx hb dX1_rebuild_28 hl (by decide) rfl (fun ls hl => ?_)
  refine lv_iload_n hx hb dX1_rebuild_30 rfl (lv_at hl 1 rfl) ?_
  refine lv_iconst (v := (2 : Int32)) hx hb dX1_rebuild_31 (by decide) ?_
  refine lv_icmp_ne (tgt := 48) hx hb dX1_rebuild_32 (by decide) (fun c8 => ?_) (fun c8 => ?_)
  · rw [if_neg c8] at hF
    refine lv_aload_n hx hb dX1_rebuild_48 rfl (lv_at hl 3 rfl) ?_
    refine va_get (D := D) (ci := 1) (v := va_re ad (M.2 a 2)) (C := RX1) (T := TX1) (N := 22) hx hb hts (mus hf_X1) hown hK hP a (wld_o ct ad G M hc hk (by decide)) rfl 2 (by decide) (hts (.fieldLink RX1 28 "VideoSuite$Decoder" "work" "LVideoSuite$Work;") (mu mw_644)) (fun _ h9 => h9) rfl dX1_rebuild_49 ?_
    refine lv_iload_n hx hb dX1_rebuild_52 rfl (lv_at hl 4 rfl) ?_
    refine W_st (st' := [.int p0, .ref (ad b2)]) (by rw [va_some ho2]) ?_
    obtain ⟨y9, hy9, hF⟩ := bnd_some hF
    have hf9 := wA_in hD hA9 hS
    refine va_calli (va_runV (As := [.int p0]) (rest := []) ⟨hx, hb, hml, hown, hts⟩ (kX9_sides l D ct ad Z G M s.heap.size b2 p0 y9 hc2 hk2 hy9) (cwV 1 hts gX1_rebuild_X9_sides rfl rfl rfl (by decide +kernel) ⟨Nat.le_of_ble_eq_true rfl, Nat.le_of_ble_eq_true rfl⟩) ⟨fun a U g mk q => by obtain ⟨q0, q1, qP, qK, qD, qZ, qN⟩ := q; exact ⟨q0, q1, qP, va_K.moved (u := U) (U := U.calling g mk a) (Vm.Alike.refl U.vm) qK, qD, sF.moved (u := U) (U := U.calling g mk a) (Vm.Alike.refl U.vm) qZ, nF.same rfl qN⟩, va_recv hK hP (ci := 9) (q0 := b2) rfl (wld_o ct ad G M hc2 hk2 (by decide)), fun U hU hW => ⟨rfl, by rw [hU], by rw [hU]; exact hP, va_K.moved hW.alike hK, hD.weaken (fun _ _ _ _ => trivial), by rw [hU]; exact ((hZ.kept hS.2.1).narrow hf9).moved hW.alike, hN.warm hW⟩⟩ rfl rfl hl.1 rfl (lv_room (Nat.le_of_ble_eq_true rfl)) dX1_rebuild_53 ⟨(Nat.zero_le _), (Nat.zero_le _)⟩) hS (fun q _ h => hf9 q h) hf9 (fun r u t H locs ht hvm hw hB hz1 hk1 hS => ?_)
    obtain ⟨hP, hK9, hD9⟩ := hB
    rw [ht] at hP
    try dsimp only at hw
    subst hw
    have hD := hD9.weaken (fun _ q _ h => hf9 q.1 h)
    refine lv_istore (lv' := [(5, .int y9.2), (4, .int x7), (3, .int x5), (2, .int x1), (0, .ref (ad a)), (1, .int p0)]) hx hb dX1_rebuild_56 hl (by decide) rfl (fun ls hl => ?_)
    refine lv_iload_n hx hb dX1_rebuild_58 rfl (lv_at hl 2 rfl) ?_
    refine lv_iconst (v := (3 : Int32)) hx hb dX1_rebuild_59 (by decide) ?_
    obtain ⟨y10, hy10, hF⟩ := bnd_some hF
    have J10 : ∀ (H : Heap) (locs : List Loc) (ls : Array Slot), va_P D classes (wld ct ad G y10) H → va_D A (wld ct ad G y10) → va_S A s.heap H locs → lv_has ls 7 [(5, .int y9.2), (4, .int x7), (3, .int x5), (2, .int x1), (0, .ref (ad a)), (1, .int p0)] → W p l e (headSpec wuX1_rebuild ({ frames := 5, cells := 0, slots := 0, locals := 140 })).room s m ([.ref (ad a), .int p0] : List Value).toArray below meth c H locs 0 0 (MQ below (va_Qv (fun (_ : Unit) => True) (fun _ t => kE D ct ad G A y t) A) ([.ref (ad a), .int p0] : List Value).toArray s 0 0 A) (F0 m 103 ls []) := by
      intro H locs ls hP hD hS hl
      refine lv_iload_n hx hb dX1_rebuild_103 rfl (lv_at hl 2 rfl) ?_
      refine lv_iconst (v := (1 : Int32)) hx hb dX1_rebuild_104 (by decide) ?_
      obtain ⟨y11, hy11, hF⟩ := bnd_some hF
      have J11 : ∀ (H : Heap) (locs : List Loc) (ls : Array Slot), va_P D classes (wld ct ad G y11) H → va_D A (wld ct ad G y11) → va_S A s.heap H locs → lv_has ls 7 [(5, .int y9.2), (4, .int x7), (3, .int x5), (2, .int x1), (0, .ref (ad a)), (1, .int p0)] → W p l e (headSpec wuX1_rebuild ({ frames := 5, cells := 0, slots := 0, locals := 140 })).room s m ([.ref (ad a), .int p0] : List Value).toArray below meth c H locs 0 0 (MQ below (va_Qv (fun (_ : Unit) => True) (fun _ t => kE D ct ad G A y t) A) ([.ref (ad a), .int p0] : List Value).toArray s 0 0 A) (F0 m 148 ls []) := by
        intro H locs ls hP hD hS hl
        refine lv_iconst (v := (0 : Int32)) hx hb dX1_rebuild_148 (by decide) ?_
        refine lv_istore (lv' := [(6, .int (0 : Int32)), (5, .int y9.2), (4, .int x7), (3, .int x5), (2, .int x1), (0, .ref (ad a)), (1, .int p0)]) hx hb dX1_rebuild_149 hl (by decide) rfl (fun ls hl => ?_)
        obtain ⟨y12, hy12, hF⟩ := bnd_some hF
        have K12 : ∀ (H : Heap) (locs : List Loc) (ls : Array Slot), va_P D classes (wld ct ad G y12.2) H → va_D A (wld ct ad G y12.2) → va_S A s.heap H locs → lv_has ls 7 [(6, .int y12.1), (5, .int y9.2), (4, .int x7), (3, .int x5), (2, .int x1), (0, .ref (ad a)), (1, .int p0)] → W p l e (headSpec wuX1_rebuild ({ frames := 5, cells := 0, slots := 0, locals := 140 })).room s m ([.ref (ad a), .int p0] : List Value).toArray below meth c H locs 0 0 (MQ below (va_Qv (fun (_ : Unit) => True) (fun _ t => kE D ct ad G A y t) A) ([.ref (ad a), .int p0] : List Value).toArray s 0 0 A) (F0 m 225 ls []) := by
          intro H locs ls hP hD hS hl
          refine lv_aload_n hx hb dX1_rebuild_225 rfl (lv_at hl 5 rfl) ?_
          refine va_get (D := D) (ci := 1) (v := va_re ad (y12.2.2 a 3)) (C := RX1) (T := TX1) (N := 22) hx hb hts (mus hf_X1) hown hK hP a (wld_o ct ad G y12.2 hc hk (by decide)) rfl 3 (by decide) (hts (.fieldLink RX1 35 "VideoSuite$Decoder" "samples" "LVideoSuite$Samples;") (mu mw_645)) (fun _ h9 => h9) rfl dX1_rebuild_226 ?_
          refine lv_aload_n hx hb dX1_rebuild_229 rfl (lv_at hl 5 rfl) ?_
          refine va_get (D := D) (ci := 1) (v := va_re ad (y12.2.2 a 2)) (C := RX1) (T := TX1) (N := 22) hx hb hts (mus hf_X1) hown hK hP a (wld_o ct ad G y12.2 hc hk (by decide)) rfl 2 (by decide) (hts (.fieldLink RX1 28 "VideoSuite$Decoder" "work" "LVideoSuite$Work;") (mu mw_644)) (fun _ h9 => h9) rfl dX1_rebuild_230 ?_
          refine lv_iload_n hx hb dX1_rebuild_233 rfl (lv_at hl 6 rfl) ?_
          refine lv_iload hx hb dX1_rebuild_234 (lv_at hl 2 rfl) ?_
          refine lv_aload_n hx hb dX1_rebuild_236 rfl (lv_at hl 5 rfl) ?_
          refine va_get (D := D) (ci := 1) (v := va_re ad (y12.2.2 a 2)) (C := RX1) (T := TX1) (N := 22) hx hb hts (mus hf_X1) hown hK hP a (wld_o ct ad G y12.2 hc hk (by decide)) rfl 2 (by decide) (hts (.fieldLink RX1 28 "VideoSuite$Decoder" "work" "LVideoSuite$Work;") (mu mw_644)) (fun _ h9 => h9) rfl dX1_rebuild_237 ?_
          obtain ⟨b15, ho15, hc15, hk15, hF⟩ := dr_some hF
          refine W_st (st' := [.ref (ad b15), .int x7, .int p0, .ref (ad b15), va_re ad (y12.2.2 a 3)]) (by rw [va_some ho15]) ?_
          refine va_get (D := D) (ci := 9) (v := va_re ad (y12.2.2 b15 2)) (C := RX9) (T := TX9) (N := 20) hx hb hts (mus hf_X9) hown hK hP b15 (wld_o ct ad G y12.2 hc15 hk15 (by decide)) rfl 2 (by decide) (hts (.fieldLink RX1 308 "VideoSuite$Work" "par" "[I") (mu mw_434)) (fun _ h9 => h9) rfl dX1_rebuild_240 ?_
          refine lv_bipush (v := (8 : Int32)) hx hb dX1_rebuild_243 (by decide) ?_
          obtain ⟨b16, ho16, hc16, hk16, hF⟩ := dr_some hF
          refine W_st (st' := [.int (8 : Int32), .ref (ad b16), .int x7, .int p0, .ref (ad b15), va_re ad (y12.2.2 a 3)]) (by rw [va_some ho16]) ?_
          obtain ⟨hvc, hF⟩ := chk_some hF
          refine va_iald hx hb hK hP b16 1 (wld_i ct ad G y12.2 hc16 hk16) rfl hvc dX1_rebuild_245 ?_
          obtain ⟨x17, ex17, hF⟩ := ltt_some hF
          refine lv_topi (fun zx17 ezx17 => ?_)
          obtain rfl : x17 = zx17 := ex17.trans ezx17.symm
          obtain ⟨y18, hy18, hF⟩ := bnd_some hF
          have hf9 := wA_in hD hA9 hS
          refine va_calli (va_runS (As := [.int x7, .int x17]) (rest := [.int p0, .ref (ad b15), va_re ad (y12.2.2 a 3)]) ⟨hx, hb, hml, hown, hts⟩ (kX6_colourStep l D ct ad Z G y12.2 H.size x7 x17 y18 hy18) (va_cwS 2 hts gX1_rebuild_X6_colourStep rfl rfl rfl (by decide +kernel) ⟨Nat.le_of_ble_eq_true rfl, Nat.le_of_ble_eq_true rfl⟩) ⟨fun a U g mk q => by obtain ⟨q0, q1, qP, qK, qD, qZ, qN⟩ := q; exact ⟨q0, q1, qP, va_K.moved (u := U) (U := U.calling g mk a) (Vm.Alike.refl U.vm) qK, qD, sF.moved (u := U) (U := U.calling g mk a) (Vm.Alike.refl U.vm) qZ, nF.same rfl qN⟩, fun U hU hW => ⟨rfl, by rw [hU], by rw [hU]; exact hP, va_K.moved hW.alike hK, hD.weaken (fun _ _ _ _ => trivial), by rw [hU]; exact ((hZ.kept hS.2.1).narrow hf9).moved hW.alike, hN.warm hW⟩⟩ rfl rfl hl.1 rfl (lv_room (by simp only [List.map, va_re_cat]; exact Nat.le_of_ble_eq_true rfl)) dX1_rebuild_246 ⟨(Nat.zero_le _), (Nat.zero_le _)⟩) hS (fun q _ h => hf9 q h) hf9 (fun r u t H locs ht hvm hw hB hz1 hk1 hS => ?_)
          obtain ⟨hP, hK9, hD9⟩ := hB
          rw [ht] at hP
          try dsimp only at hw
          subst hw
          have hD := hD9.weaken (fun _ q _ h => hf9 q.1 h)
          obtain ⟨b19, ho19, hc19, hk19, hF⟩ := dr_some hF
          refine W_st (st' := [.int y18.2, .int p0, .ref (ad b15), .ref (ad b19)]) (by rw [va_some ho19]) ?_
          obtain ⟨y20, hy20, hF⟩ := bnd_some hF
          have hf9 := wA_in hD hA9 hS
          refine va_callv (va_runV (As := [.ref (ad b15), .int p0, .int y18.2]) (rest := []) ⟨hx, hb, hml, hown, hts⟩ (kX6_fillColours l D ct ad Z G y18.1 H.size b19 (some b15) p0 y18.2 y20 hc19 hk19 hy20) (cwV 3 hts gX1_rebuild_X6_fillColours rfl rfl rfl (by decide +kernel) ⟨Nat.le_of_ble_eq_true rfl, Nat.le_of_ble_eq_true rfl⟩) ⟨fun a U g mk q => by obtain ⟨q0, q1, qP, qK, qD, qZ, qN⟩ := q; exact ⟨q0, q1, qP, va_K.moved (u := U) (U := U.calling g mk a) (Vm.Alike.refl U.vm) qK, qD, sF.moved (u := U) (U := U.calling g mk a) (Vm.Alike.refl U.vm) qZ, nF.same rfl qN⟩, va_recv hK hP (ci := 6) (q0 := b19) rfl (wld_o ct ad G y18.1 hc19 hk19 (by decide)), fun U hU hW => ⟨rfl, by rw [hU], by rw [hU]; exact hP, va_K.moved hW.alike hK, hD.weaken (fun _ _ _ _ => trivial), by rw [hU]; exact ((hZ.kept hS.2.1).narrow hf9).moved hW.alike, hN.warm hW⟩⟩ rfl rfl hl.1 rfl (lv_room (Nat.le_of_ble_eq_true rfl)) dX1_rebuild_249 ⟨(Nat.zero_le _), (Nat.zero_le _)⟩) hS (fun q _ h => hf9 q h) hf9 (fun u t H locs ht hvm hw hB hz1 hk1 hS => ?_)
          obtain ⟨hP, hK9, hD9⟩ := hB
          rw [ht] at hP
          have hD := hD9.weaken (fun _ q _ h => hf9 q.1 h)
          obtain rfl := Option.some.inj hF
          exact W.vret hx hb hr (fun t ht hW => ⟨⟨(), rfl, trivial, ⟨by rw [ht]; exact hP, va_K.moved hW.alike hK, hD⟩⟩, hS.F ht⟩) hS.2.2 dX1_rebuild_252
        clear hF
        refine itr_rule (fun (s13 : Int32 × DD) => ∀ (H : Heap) (locs : List Loc) (ls : Array Slot), va_P D classes (wld ct ad G s13.2) H → va_D A (wld ct ad G s13.2) → va_S A s.heap H locs → lv_has ls 7 [(6, .int s13.1), (5, .int y9.2), (4, .int x7), (3, .int x5), (2, .int x1), (0, .ref (ad a)), (1, .int p0)] → W p l e (headSpec wuX1_rebuild ({ frames := 5, cells := 0, slots := 0, locals := 140 })).room s m ([.ref (ad a), .int p0] : List Value).toArray below meth c H locs 0 0 (MQ below (va_Qv (fun (_ : Unit) => True) (fun _ t => kE D ct ad G A y t) A) ([.ref (ad a), .int p0] : List Value).toArray s 0 0 A) (F0 m 151 ls [])) ?_ _ _ hy12 _ _ _ hP hD hS (lv_sub hl [0, 1, 2, 3, 4, 5, 6] rfl)
        rintro s13 ⟨z21, hF, hwz21⟩ H locs ls hP hD hS hl
        try dsimp only at hF
        refine lv_iload hx hb dX1_rebuild_151 (lv_at hl 0 rfl) ?_
        refine lv_bipush (v := (16 : Int32)) hx hb dX1_rebuild_153 (by decide) ?_
        refine lv_icmp_ge (tgt := 225) hx hb dX1_rebuild_155 (by decide) (fun c22 => ?_) (fun c22 => ?_)
        · rw [if_pos c22] at hF
          obtain rfl := Option.some.inj hF
          subst hwz21
          exact K12 _ _ _ hP hD hS (lv_sub hl [0, 1, 2, 3, 4, 5, 6] rfl)
        · rw [if_neg c22] at hF
          refine lv_iload_n hx hb dX1_rebuild_158 rfl (lv_at hl 3 rfl) ?_
          refine lv_iconst (v := (1 : Int32)) hx hb dX1_rebuild_159 (by decide) ?_
          refine lv_icmp_eq (tgt := 225) hx hb dX1_rebuild_160 (by decide) (fun c23 => ?_) (fun c23 => ?_)
          · rw [if_pos c23] at hF
            obtain rfl := Option.some.inj hF
            subst hwz21
            exact K12 _ _ _ hP hD hS (lv_sub hl [0, 1, 2, 3, 4, 5, 6] rfl)
          · rw [if_neg c23] at hF
            refine lv_iload_n hx hb dX1_rebuild_163 rfl (lv_at hl 3 rfl) ?_
            obtain ⟨y24, hy24, hF⟩ := bnd_some hF
            have J24 : ∀ (H : Heap) (locs : List Loc) (ls : Array Slot), va_P D classes (wld ct ad G y24) H → va_D A (wld ct ad G y24) → va_S A s.heap H locs → lv_has ls 7 [(6, .int s13.1), (5, .int y9.2), (4, .int x7), (3, .int x5), (2, .int x1), (0, .ref (ad a)), (1, .int p0)] → W p l e (headSpec wuX1_rebuild ({ frames := 5, cells := 0, slots := 0, locals := 140 })).room s m ([.ref (ad a), .int p0] : List Value).toArray below meth c H locs 0 0 (MQ below (va_Qv (fun (_ : Unit) => True) (fun _ t => kE D ct ad G A y t) A) ([.ref (ad a), .int p0] : List Value).toArray s 0 0 A) (F0 m 203 ls []) := by
              intro H locs ls hP hD hS hl
              refine lv_aload_n hx hb dX1_rebuild_203 rfl (lv_at hl 5 rfl) ?_
              refine va_get (D := D) (ci := 1) (v := va_re ad (y24.2 a 3)) (C := RX1) (T := TX1) (N := 22) hx hb hts (mus hf_X1) hown hK hP a (wld_o ct ad G y24 hc hk (by decide)) rfl 3 (by decide) (hts (.fieldLink RX1 35 "VideoSuite$Decoder" "samples" "LVideoSuite$Samples;") (mu mw_645)) (fun _ h9 => h9) rfl dX1_rebuild_204 ?_
              refine lv_aload_n hx hb dX1_rebuild_207 rfl (lv_at hl 5 rfl) ?_
              refine va_get (D := D) (ci := 1) (v := va_re ad (y24.2 a 2)) (C := RX1) (T := TX1) (N := 22) hx hb hts (mus hf_X1) hown hK hP a (wld_o ct ad G y24 hc hk (by decide)) rfl 2 (by decide) (hts (.fieldLink RX1 28 "VideoSuite$Decoder" "work" "LVideoSuite$Work;") (mu mw_644)) (fun _ h9 => h9) rfl dX1_rebuild_208 ?_
              refine lv_iload_n hx hb dX1_rebuild_211 rfl (lv_at hl 6 rfl) ?_
              refine lv_iload hx hb dX1_rebuild_212 (lv_at hl 0 rfl) ?_
              refine lv_iload hx hb dX1_rebuild_214 (lv_at hl 2 rfl) ?_
              obtain ⟨b25, ho25, hc25, hk25, hF⟩ := dr_some hF
              refine W_st (st' := [.int x7, .int s13.1, .int p0, va_re ad (y24.2 a 2), .ref (ad b25)]) (by rw [va_some ho25]) ?_
              obtain ⟨y26, hy26, hF⟩ := bnd_some hF
              have hf9 := wA_in hD hA9 hS
              refine va_callv (va_runV (As := [va_re ad (y24.2 a 2), .int p0, .int s13.1, .int x7]) (rest := []) ⟨hx, hb, hml, hown, hts⟩ (kX6_fillLuma l D ct ad Z G y24 H.size b25 ((y24.2 a 2)) p0 s13.1 x7 y26 hc25 hk25 hy26) (cwV 4 hts gX1_rebuild_X6_fillLuma rfl rfl rfl (by decide +kernel) ⟨Nat.le_of_ble_eq_true rfl, Nat.le_of_ble_eq_true rfl⟩) ⟨fun a U g mk q => by obtain ⟨q0, q1, qP, qK, qD, qZ, qN⟩ := q; exact ⟨q0, q1, qP, va_K.moved (u := U) (U := U.calling g mk a) (Vm.Alike.refl U.vm) qK, qD, sF.moved (u := U) (U := U.calling g mk a) (Vm.Alike.refl U.vm) qZ, nF.same rfl qN⟩, va_recv hK hP (ci := 6) (q0 := b25) rfl (wld_o ct ad G y24 hc25 hk25 (by decide)), fun U hU hW => ⟨rfl, by rw [hU], by rw [hU]; exact hP, va_K.moved hW.alike hK, hD.weaken (fun _ _ _ _ => trivial), by rw [hU]; exact ((hZ.kept hS.2.1).narrow hf9).moved hW.alike, hN.warm hW⟩⟩ rfl rfl hl.1 rfl (lv_room (Nat.le_of_ble_eq_true rfl)) dX1_rebuild_216 ⟨(Nat.zero_le _), (Nat.zero_le _)⟩) hS (fun q _ h => hf9 q h) hf9 (fun u t H locs ht hvm hw hB hz1 hk1 hS => ?_)
              obtain ⟨hP, hK9, hD9⟩ := hB
              rw [ht] at hP
              have hD := hD9.weaken (fun _ q _ h => hf9 q.1 h)
              obtain ⟨x27, ex27, hF⟩ := ltt_some hF
              refine lv_iinc (v := x27) (lv' := [(6, .int x27), (5, .int y9.2), (4, .int x7), (3, .int x5), (2, .int x1), (0, .ref (ad a)), (1, .int p0)]) hx hb dX1_rebuild_219 hl (k := 0) rfl (by rw [ex27]; rfl) (by decide) rfl (fun ls hl => ?_)
              refine lv_goto (tgt := 151) hx hb dX1_rebuild_222 (by decide) ?_
              obtain rfl := Option.some.inj hF
              exact hwz21 _ _ _ hP hD hS (lv_sub hl [0, 1, 2, 3, 4, 5, 6] rfl)
            clear hF
            have hF := hy24
            clear hy24
            refine lv_if_ne (tgt := 203) hx hb dX1_rebuild_164 (by decide) (fun c28 => ?_) (fun c28 => ?_)
            · rw [if_neg c28] at hF
              obtain rfl := Option.some.inj hF
              exact J24 _ _ _ hP hD hS (lv_sub hl [0, 1, 2, 3, 4, 5, 6] rfl)
            · rw [if_pos c28] at hF
              refine lv_aload_n hx hb dX1_rebuild_167 rfl (lv_at hl 5 rfl) ?_
              refine va_get (D := D) (ci := 1) (v := va_re ad (s13.2.2 a 3)) (C := RX1) (T := TX1) (N := 22) hx hb hts (mus hf_X1) hown hK hP a (wld_o ct ad G s13.2 hc hk (by decide)) rfl 3 (by decide) (hts (.fieldLink RX1 35 "VideoSuite$Decoder" "samples" "LVideoSuite$Samples;") (mu mw_645)) (fun _ h9 => h9) rfl dX1_rebuild_168 ?_
              refine lv_aload_n hx hb dX1_rebuild_171 rfl (lv_at hl 5 rfl) ?_
              refine va_get (D := D) (ci := 1) (v := va_re ad (s13.2.2 a 2)) (C := RX1) (T := TX1) (N := 22) hx hb hts (mus hf_X1) hown hK hP a (wld_o ct ad G s13.2 hc hk (by decide)) rfl 2 (by decide) (hts (.fieldLink RX1 28 "VideoSuite$Decoder" "work" "LVideoSuite$Work;") (mu mw_644)) (fun _ h9 => h9) rfl dX1_rebuild_172 ?_
              refine lv_iload_n hx hb dX1_rebuild_175 rfl (lv_at hl 6 rfl) ?_
              refine lv_iload hx hb dX1_rebuild_176 (lv_at hl 0 rfl) ?_
              refine lv_aload_n hx hb dX1_rebuild_178 rfl (lv_at hl 5 rfl) ?_
              refine va_get (D := D) (ci := 1) (v := va_re ad (s13.2.2 a 2)) (C := RX1) (T := TX1) (N := 22) hx hb hts (mus hf_X1) hown hK hP a (wld_o ct ad G s13.2 hc hk (by decide)) rfl 2 (by decide) (hts (.fieldLink RX1 28 "VideoSuite$Decoder" "work" "LVideoSuite$Work;") (mu mw_644)) (fun _ h9 => h9) rfl dX1_rebuild_179 ?_
              obtain ⟨b29, ho29, hc29, hk29, hF⟩ := dr_some hF
              refine W_st (st' := [.ref (ad b29), .int s13.1, .int p0, .ref (ad b29), va_re ad (s13.2.2 a 3)]) (by rw [va_some ho29]) ?_
              refine va_get (D := D) (ci := 9) (v := va_re ad (s13.2.2 b29 7)) (C := RX9) (T := TX9) (N := 20) hx hb hts (mus hf_X9) hown hK hP b29 (wld_o ct ad G s13.2 hc29 hk29 (by decide)) rfl 7 (by decide) (hts (.fieldLink RX1 422 "VideoSuite$Work" "mode" "[I") (mu mw_447)) (fun _ h9 => h9) rfl dX1_rebuild_182 ?_
              refine lv_bipush (v := (16 : Int32)) hx hb dX1_rebuild_185 (by decide) ?_
              refine lv_iload_n hx hb dX1_rebuild_187 rfl (lv_at hl 6 rfl) ?_
              refine lv_imul hx hb dX1_rebuild_188 ?_
              obtain ⟨x30, ex30, hF⟩ := ltt_some hF
              refine lv_topi (fun zx30 ezx30 => ?_)
              obtain rfl : x30 = zx30 := ex30.trans ezx30.symm
              refine lv_iload hx hb dX1_rebuild_189 (lv_at hl 0 rfl) ?_
              refine lv_iadd hx hb dX1_rebuild_191 ?_
              obtain ⟨x31, ex31, hF⟩ := ltt_some hF
              refine lv_topi (fun zx31 ezx31 => ?_)
              obtain rfl : x31 = zx31 := ex31.trans ezx31.symm
              obtain ⟨b32, ho32, hc32, hk32, hF⟩ := dr_some hF
              refine W_st (st' := [.int x31, .ref (ad b32), .int s13.1, .int p0, .ref (ad b29), va_re ad (s13.2.2 a 3)]) (by rw [va_some ho32]) ?_
              obtain ⟨hvc, hF⟩ := chk_some hF
              refine va_iald hx hb hK hP b32 1 (wld_i ct ad G s13.2 hc32 hk32) rfl hvc dX1_rebuild_192 ?_
              obtain ⟨x33, ex33, hF⟩ := ltt_some hF
              refine lv_topi (fun zx33 ezx33 => ?_)
              obtain rfl : x33 = zx33 := ex33.trans ezx33.symm
              refine lv_iload hx hb dX1_rebuild_193 (lv_at hl 0 rfl) ?_
              refine lv_iload hx hb dX1_rebuild_195 (lv_at hl 1 rfl) ?_
              obtain ⟨y34, hy34, hF⟩ := bnd_some hF
              have hf9 := wA_in hD hA9 hS
              refine va_calli (va_runS (As := [.int s13.1, .int y9.2]) (rest := [.int x33, .int s13.1, .int p0, .ref (ad b29), va_re ad (s13.2.2 a 3)]) ⟨hx, hb, hml, hown, hts⟩ (kX9_sidesOf l D ct ad Z G s13.2 H.size s13.1 y9.2 y34 hy34) (va_cwS 2 hts gX1_rebuild_X9_sidesOf rfl rfl rfl (by decide +kernel) ⟨Nat.le_of_ble_eq_true rfl, Nat.le_of_ble_eq_true rfl⟩) ⟨fun a U g mk q => by obtain ⟨q0, q1, qP, qK, qD, qZ, qN⟩ := q; exact ⟨q0, q1, qP, va_K.moved (u := U) (U := U.calling g mk a) (Vm.Alike.refl U.vm) qK, qD, sF.moved (u := U) (U := U.calling g mk a) (Vm.Alike.refl U.vm) qZ, nF.same rfl qN⟩, fun U hU hW => ⟨rfl, by rw [hU], by rw [hU]; exact hP, va_K.moved hW.alike hK, hD.weaken (fun _ _ _ _ => trivial), by rw [hU]; exact ((hZ.kept hS.2.1).narrow hf9).moved hW.alike, hN.warm hW⟩⟩ rfl rfl hl.1 rfl (lv_room (by simp only [List.map, va_re_cat]; exact Nat.le_of_ble_eq_true rfl)) dX1_rebuild_197 ⟨(Nat.zero_le _), (Nat.zero_le _)⟩) hS (fun q _ h => hf9 q h) hf9 (fun r u t H locs ht hvm hw hB hz1 hk1 hS => ?_)
              obtain ⟨hP, hK9, hD9⟩ := hB
              rw [ht] at hP
              try dsimp only at hw
              subst hw
              have hD := hD9.weaken (fun _ q _ h => hf9 q.1 h)
              obtain ⟨b35, ho35, hc35, hk35, hF⟩ := dr_some hF
              refine W_st (st' := [.int y34.2, .int x33, .int s13.1, .int p0, .ref (ad b29), .ref (ad b35)]) (by rw [va_some ho35]) ?_
              obtain ⟨y36, hy36, hF⟩ := bnd_some hF
              have hf9 := wA_in hD hA9 hS
              refine va_callv (va_runV (As := [.ref (ad b29), .int p0, .int s13.1, .int x33, .int y34.2]) (rest := []) ⟨hx, hb, hml, hown, hts⟩ (kX6_predictFour l D ct ad Z G y34.1 H.size b35 (some b29) p0 s13.1 x33 y34.2 y36 hc35 hk35 hy36) (cwV 5 hts gX1_rebuild_X6_predictFour rfl rfl rfl (by decide +kernel) ⟨Nat.le_of_ble_eq_true rfl, Nat.le_of_ble_eq_true rfl⟩) ⟨fun a U g mk q => by obtain ⟨q0, q1, qP, qK, qD, qZ, qN⟩ := q; exact ⟨q0, q1, qP, va_K.moved (u := U) (U := U.calling g mk a) (Vm.Alike.refl U.vm) qK, qD, sF.moved (u := U) (U := U.calling g mk a) (Vm.Alike.refl U.vm) qZ, nF.same rfl qN⟩, va_recv hK hP (ci := 6) (q0 := b35) rfl (wld_o ct ad G y34.1 hc35 hk35 (by decide)), fun U hU hW => ⟨rfl, by rw [hU], by rw [hU]; exact hP, va_K.moved hW.alike hK, hD.weaken (fun _ _ _ _ => trivial), by rw [hU]; exact ((hZ.kept hS.2.1).narrow hf9).moved hW.alike, hN.warm hW⟩⟩ rfl rfl hl.1 rfl (lv_room (Nat.le_of_ble_eq_true rfl)) dX1_rebuild_200 ⟨(Nat.zero_le _), (Nat.zero_le _)⟩) hS (fun q _ h => hf9 q h) hf9 (fun u t H locs ht hvm hw hB hz1 hk1 hS => ?_)
              obtain ⟨hP, hK9, hD9⟩ := hB
              rw [ht] at hP
              have hD := hD9.weaken (fun _ q _ h => hf9 q.1 h)
              obtain rfl := Option.some.inj hF
              exact J24 _ _ _ hP hD hS (lv_sub hl [0, 1, 2, 3, 4, 5, 6] rfl)
      clear hF
      have hF := hy11
      clear hy11
      refine lv_icmp_ne (tgt := 148) hx hb dX1_rebuild_105 (by decide) (fun c37 => ?_) (fun c37 => ?_)
      · rw [if_neg c37] at hF
        obtain rfl := Option.some.inj hF
        exact J11 _ _ _ hP hD hS (lv_sub hl [0, 1, 2, 3, 4, 5] rfl)
      · rw [if_pos c37] at hF
        refine lv_aload_n hx hb dX1_rebuild_108 rfl (lv_at hl 4 rfl) ?_
        refine va_get (D := D) (ci := 1) (v := va_re ad (y10.2 a 3)) (C := RX1) (T := TX1) (N := 22) hx hb hts (mus hf_X1) hown hK hP a (wld_o ct ad G y10 hc hk (by decide)) rfl 3 (by decide) (hts (.fieldLink RX1 35 "VideoSuite$Decoder" "samples" "LVideoSuite$Samples;") (mu mw_645)) (fun _ h9 => h9) rfl dX1_rebuild_109 ?_
        refine lv_aload_n hx hb dX1_rebuild_112 rfl (lv_at hl 4 rfl) ?_
        refine va_get (D := D) (ci := 1) (v := va_re ad (y10.2 a 2)) (C := RX1) (T := TX1) (N := 22) hx hb hts (mus hf_X1) hown hK hP a (wld_o ct ad G y10 hc hk (by decide)) rfl 2 (by decide) (hts (.fieldLink RX1 28 "VideoSuite$Decoder" "work" "LVideoSuite$Work;") (mu mw_644)) (fun _ h9 => h9) rfl dX1_rebuild_113 ?_
        refine lv_iload_n hx hb dX1_rebuild_116 rfl (lv_at hl 5 rfl) ?_
        refine lv_aload_n hx hb dX1_rebuild_117 rfl (lv_at hl 4 rfl) ?_
        refine va_get (D := D) (ci := 1) (v := va_re ad (y10.2 a 2)) (C := RX1) (T := TX1) (N := 22) hx hb hts (mus hf_X1) hown hK hP a (wld_o ct ad G y10 hc hk (by decide)) rfl 2 (by decide) (hts (.fieldLink RX1 28 "VideoSuite$Decoder" "work" "LVideoSuite$Work;") (mu mw_644)) (fun _ h9 => h9) rfl dX1_rebuild_118 ?_
        obtain ⟨b38, ho38, hc38, hk38, hF⟩ := dr_some hF
        refine W_st (st' := [.ref (ad b38), .int p0, .ref (ad b38), va_re ad (y10.2 a 3)]) (by rw [va_some ho38]) ?_
        refine va_get (D := D) (ci := 9) (v := va_re ad (y10.2 b38 7)) (C := RX9) (T := TX9) (N := 20) hx hb hts (mus hf_X9) hown hK hP b38 (wld_o ct ad G y10 hc38 hk38 (by decide)) rfl 7 (by decide) (hts (.fieldLink RX1 422 "VideoSuite$Work" "mode" "[I") (mu mw_447)) (fun _ h9 => h9) rfl dX1_rebuild_121 ?_
        refine lv_bipush (v := (16 : Int32)) hx hb dX1_rebuild_124 (by decide) ?_
        refine lv_iload_n hx hb dX1_rebuild_126 rfl (lv_at hl 5 rfl) ?_
        refine lv_imul hx hb dX1_rebuild_127 ?_
        obtain ⟨x39, ex39, hF⟩ := ltt_some hF
        refine lv_topi (fun zx39 ezx39 => ?_)
        obtain rfl : x39 = zx39 := ex39.trans ezx39.symm
        obtain ⟨b40, ho40, hc40, hk40, hF⟩ := dr_some hF
        refine W_st (st' := [.int x39, .ref (ad b40), .int p0, .ref (ad b38), va_re ad (y10.2 a 3)]) (by rw [va_some ho40]) ?_
        obtain ⟨hvc, hF⟩ := chk_some hF
        refine va_iald hx hb hK hP b40 1 (wld_i ct ad G y10 hc40 hk40) rfl hvc dX1_rebuild_128 ?_
        obtain ⟨x41, ex41, hF⟩ := ltt_some hF
        refine lv_topi (fun zx41 ezx41 => ?_)
        obtain rfl : x41 = zx41 := ex41.trans ezx41.symm
        refine lv_iload hx hb dX1_rebuild_129 (lv_at hl 0 rfl) ?_
        obtain ⟨b42, ho42, hc42, hk42, hF⟩ := dr_some hF
        refine W_st (st' := [.int y9.2, .int x41, .int p0, .ref (ad b38), .ref (ad b42)]) (by rw [va_some ho42]) ?_
        obtain ⟨y43, hy43, hF⟩ := bnd_some hF
        have hf9 := wA_in hD hA9 hS
        refine va_callv (va_runV (As := [.ref (ad b38), .int p0, .int x41, .int y9.2]) (rest := []) ⟨hx, hb, hml, hown, hts⟩ (kX6_predictSixteen l D ct ad Z G y10 H.size b42 (some b38) p0 x41 y9.2 y43 hc42 hk42 hy43) (cwV 4 hts gX1_rebuild_X6_predictSixteen rfl rfl rfl (by decide +kernel) ⟨Nat.le_of_ble_eq_true rfl, Nat.le_of_ble_eq_true rfl⟩) ⟨fun a U g mk q => by obtain ⟨q0, q1, qP, qK, qD, qZ, qN⟩ := q; exact ⟨q0, q1, qP, va_K.moved (u := U) (U := U.calling g mk a) (Vm.Alike.refl U.vm) qK, qD, sF.moved (u := U) (U := U.calling g mk a) (Vm.Alike.refl U.vm) qZ, nF.same rfl qN⟩, va_recv hK hP (ci := 6) (q0 := b42) rfl (wld_o ct ad G y10 hc42 hk42 (by decide)), fun U hU hW => ⟨rfl, by rw [hU], by rw [hU]; exact hP, va_K.moved hW.alike hK, hD.weaken (fun _ _ _ _ => trivial), by rw [hU]; exact ((hZ.kept hS.2.1).narrow hf9).moved hW.alike, hN.warm hW⟩⟩ rfl rfl hl.1 rfl (lv_room (Nat.le_of_ble_eq_true rfl)) dX1_rebuild_131 ⟨(Nat.zero_le _), (Nat.zero_le _)⟩) hS (fun q _ h => hf9 q h) hf9 (fun u t H locs ht hvm hw hB hz1 hk1 hS => ?_)
        obtain ⟨hP, hK9, hD9⟩ := hB
        rw [ht] at hP
        have hD := hD9.weaken (fun _ q _ h => hf9 q.1 h)
        refine lv_aload_n hx hb dX1_rebuild_134 rfl (lv_at hl 4 rfl) ?_
        refine va_get (D := D) (ci := 1) (v := va_re ad (y43.2 a 3)) (C := RX1) (T := TX1) (N := 22) hx hb hts (mus hf_X1) hown hK hP a (wld_o ct ad G y43 hc hk (by decide)) rfl 3 (by decide) (hts (.fieldLink RX1 35 "VideoSuite$Decoder" "samples" "LVideoSuite$Samples;") (mu mw_645)) (fun _ h9 => h9) rfl dX1_rebuild_135 ?_
        refine lv_aload_n hx hb dX1_rebuild_138 rfl (lv_at hl 4 rfl) ?_
        refine va_get (D := D) (ci := 1) (v := va_re ad (y43.2 a 2)) (C := RX1) (T := TX1) (N := 22) hx hb hts (mus hf_X1) hown hK hP a (wld_o ct ad G y43 hc hk (by decide)) rfl 2 (by decide) (hts (.fieldLink RX1 28 "VideoSuite$Decoder" "work" "LVideoSuite$Work;") (mu mw_644)) (fun _ h9 => h9) rfl dX1_rebuild_139 ?_
        refine lv_iload_n hx hb dX1_rebuild_142 rfl (lv_at hl 5 rfl) ?_
        refine lv_iload hx hb dX1_rebuild_143 (lv_at hl 1 rfl) ?_
        obtain ⟨b44, ho44, hc44, hk44, hF⟩ := dr_some hF
        refine W_st (st' := [.int x7, .int p0, va_re ad (y43.2 a 2), .ref (ad b44)]) (by rw [va_some ho44]) ?_
        obtain ⟨y45, hy45, hF⟩ := bnd_some hF
        have hf9 := wA_in hD hA9 hS
        refine va_callv (va_runV (As := [va_re ad (y43.2 a 2), .int p0, .int x7]) (rest := []) ⟨hx, hb, hml, hown, hts⟩ (kX6_fillSixteen l D ct ad Z G y43 H.size b44 ((y43.2 a 2)) p0 x7 y45 hc44 hk44 hy45) (cwV 3 hts gX1_rebuild_X6_fillSixteen rfl rfl rfl (by decide +kernel) ⟨Nat.le_of_ble_eq_true rfl, Nat.le_of_ble_eq_true rfl⟩) ⟨fun a U g mk q => by obtain ⟨q0, q1, qP, qK, qD, qZ, qN⟩ := q; exact ⟨q0, q1, qP, va_K.moved (u := U) (U := U.calling g mk a) (Vm.Alike.refl U.vm) qK, qD, sF.moved (u := U) (U := U.calling g mk a) (Vm.Alike.refl U.vm) qZ, nF.same rfl qN⟩, va_recv hK hP (ci := 6) (q0 := b44) rfl (wld_o ct ad G y43 hc44 hk44 (by decide)), fun U hU hW => ⟨rfl, by rw [hU], by rw [hU]; exact hP, va_K.moved hW.alike hK, hD.weaken (fun _ _ _ _ => trivial), by rw [hU]; exact ((hZ.kept hS.2.1).narrow hf9).moved hW.alike, hN.warm hW⟩⟩ rfl rfl hl.1 rfl (lv_room (Nat.le_of_ble_eq_true rfl)) dX1_rebuild_145 ⟨(Nat.zero_le _), (Nat.zero_le _)⟩) hS (fun q _ h => hf9 q h) hf9 (fun u t H locs ht hvm hw hB hz1 hk1 hS => ?_)
        obtain ⟨hP, hK9, hD9⟩ := hB
        rw [ht] at hP
        have hD := hD9.weaken (fun _ q _ h => hf9 q.1 h)
        obtain rfl := Option.some.inj hF
        exact J11 _ _ _ hP hD hS (lv_sub hl [0, 1, 2, 3, 4, 5] rfl)
    clear hF
    have hF := hy10
    clear hy10
    refine lv_icmp_ne (tgt := 78) hx hb dX1_rebuild_60 (by decide) (fun c46 => ?_) (fun c46 => ?_)
    · rw [if_neg c46] at hF
      refine lv_aload_n hx hb dX1_rebuild_78 rfl (lv_at hl 4 rfl) ?_
      refine va_get (D := D) (ci := 1) (v := va_re ad (y9.1.2 a 3)) (C := RX1) (T := TX1) (N := 22) hx hb hts (mus hf_X1) hown hK hP a (wld_o ct ad G y9.1 hc hk (by decide)) rfl 3 (by decide) (hts (.fieldLink RX1 35 "VideoSuite$Decoder" "samples" "LVideoSuite$Samples;") (mu mw_645)) (fun _ h9 => h9) rfl dX1_rebuild_79 ?_
      refine lv_aload_n hx hb dX1_rebuild_82 rfl (lv_at hl 4 rfl) ?_
      refine va_get (D := D) (ci := 1) (v := va_re ad (y9.1.2 a 2)) (C := RX1) (T := TX1) (N := 22) hx hb hts (mus hf_X1) hown hK hP a (wld_o ct ad G y9.1 hc hk (by decide)) rfl 2 (by decide) (hts (.fieldLink RX1 28 "VideoSuite$Decoder" "work" "LVideoSuite$Work;") (mu mw_644)) (fun _ h9 => h9) rfl dX1_rebuild_83 ?_
      refine lv_iload_n hx hb dX1_rebuild_86 rfl (lv_at hl 5 rfl) ?_
      refine lv_aload_n hx hb dX1_rebuild_87 rfl (lv_at hl 4 rfl) ?_
      refine va_get (D := D) (ci := 1) (v := va_re ad (y9.1.2 a 2)) (C := RX1) (T := TX1) (N := 22) hx hb hts (mus hf_X1) hown hK hP a (wld_o ct ad G y9.1 hc hk (by decide)) rfl 2 (by decide) (hts (.fieldLink RX1 28 "VideoSuite$Decoder" "work" "LVideoSuite$Work;") (mu mw_644)) (fun _ h9 => h9) rfl dX1_rebuild_88 ?_
      obtain ⟨b47, ho47, hc47, hk47, hF⟩ := dr_some hF
      refine W_st (st' := [.ref (ad b47), .int p0, .ref (ad b47), va_re ad (y9.1.2 a 3)]) (by rw [va_some ho47]) ?_
      refine va_get (D := D) (ci := 9) (v := va_re ad (y9.1.2 b47 6)) (C := RX9) (T := TX9) (N := 20) hx hb hts (mus hf_X9) hown hK hP b47 (wld_o ct ad G y9.1 hc47 hk47 (by decide)) rfl 6 (by decide) (hts (.fieldLink RX1 355 "VideoSuite$Work" "info" "[I") (mu mw_444)) (fun _ h9 => h9) rfl dX1_rebuild_91 ?_
      refine lv_iload_n hx hb dX1_rebuild_94 rfl (lv_at hl 3 rfl) ?_
      refine lv_iconst (v := (5 : Int32)) hx hb dX1_rebuild_95 (by decide) ?_
      refine lv_iadd hx hb dX1_rebuild_96 ?_
      obtain ⟨x48, ex48, hF⟩ := ltt_some hF
      refine lv_topi (fun zx48 ezx48 => ?_)
      obtain rfl : x48 = zx48 := ex48.trans ezx48.symm
      obtain ⟨b49, ho49, hc49, hk49, hF⟩ := dr_some hF
      refine W_st (st' := [.int x48, .ref (ad b49), .int p0, .ref (ad b47), va_re ad (y9.1.2 a 3)]) (by rw [va_some ho49]) ?_
      obtain ⟨hvc, hF⟩ := chk_some hF
      refine va_iald hx hb hK hP b49 1 (wld_i ct ad G y9.1 hc49 hk49) rfl hvc dX1_rebuild_97 ?_
      obtain ⟨x50, ex50, hF⟩ := ltt_some hF
      refine lv_topi (fun zx50 ezx50 => ?_)
      obtain rfl : x50 = zx50 := ex50.trans ezx50.symm
      refine lv_iload hx hb dX1_rebuild_98 (lv_at hl 0 rfl) ?_
      obtain ⟨b51, ho51, hc51, hk51, hF⟩ := dr_some hF
      refine W_st (st' := [.int y9.2, .int x50, .int p0, .ref (ad b47), .ref (ad b51)]) (by rw [va_some ho51]) ?_
      obtain ⟨y52, hy52, hF⟩ := bnd_some hF
      have hf9 := wA_in hD hA9 hS
      refine va_callv (va_runV (As := [.ref (ad b47), .int p0, .int x50, .int y9.2]) (rest := []) ⟨hx, hb, hml, hown, hts⟩ (kX6_predictColours_ l D ct ad Z G y9.1 H.size b51 (some b47) p0 x50 y9.2 y52 hc51 hk51 hy52) (cwV 4 hts gX1_rebuild_X6_predictColours_ rfl rfl rfl (by decide +kernel) ⟨Nat.le_of_ble_eq_true rfl, Nat.le_of_ble_eq_true rfl⟩) ⟨fun a U g mk q => by obtain ⟨q0, q1, qP, qK, qD, qZ, qN⟩ := q; exact ⟨q0, q1, qP, va_K.moved (u := U) (U := U.calling g mk a) (Vm.Alike.refl U.vm) qK, qD, sF.moved (u := U) (U := U.calling g mk a) (Vm.Alike.refl U.vm) qZ, nF.same rfl qN⟩, va_recv hK hP (ci := 6) (q0 := b51) rfl (wld_o ct ad G y9.1 hc51 hk51 (by decide)), fun U hU hW => ⟨rfl, by rw [hU], by rw [hU]; exact hP, va_K.moved hW.alike hK, hD.weaken (fun _ _ _ _ => trivial), by rw [hU]; exact ((hZ.kept hS.2.1).narrow hf9).moved hW.alike, hN.warm hW⟩⟩ rfl rfl hl.1 rfl (lv_room (Nat.le_of_ble_eq_true rfl)) dX1_rebuild_100 ⟨(Nat.zero_le _), (Nat.zero_le _)⟩) hS (fun q _ h => hf9 q h) hf9 (fun u t H locs ht hvm hw hB hz1 hk1 hS => ?_)
      obtain ⟨hP, hK9, hD9⟩ := hB
      rw [ht] at hP
      have hD := hD9.weaken (fun _ q _ h => hf9 q.1 h)
      obtain rfl := Option.some.inj hF
      exact J10 _ _ _ hP hD hS (lv_sub hl [0, 1, 2, 3, 4, 5] rfl)
    · rw [if_pos c46] at hF
      refine lv_aload_n hx hb dX1_rebuild_63 rfl (lv_at hl 4 rfl) ?_
      refine va_get (D := D) (ci := 1) (v := va_re ad (y9.1.2 a 3)) (C := RX1) (T := TX1) (N := 22) hx hb hts (mus hf_X1) hown hK hP a (wld_o ct ad G y9.1 hc hk (by decide)) rfl 3 (by decide) (hts (.fieldLink RX1 35 "VideoSuite$Decoder" "samples" "LVideoSuite$Samples;") (mu mw_645)) (fun _ h9 => h9) rfl dX1_rebuild_64 ?_
      refine lv_aload_n hx hb dX1_rebuild_67 rfl (lv_at hl 4 rfl) ?_
      refine va_get (D := D) (ci := 1) (v := va_re ad (y9.1.2 a 2)) (C := RX1) (T := TX1) (N := 22) hx hb hts (mus hf_X1) hown hK hP a (wld_o ct ad G y9.1 hc hk (by decide)) rfl 2 (by decide) (hts (.fieldLink RX1 28 "VideoSuite$Decoder" "work" "LVideoSuite$Work;") (mu mw_644)) (fun _ h9 => h9) rfl dX1_rebuild_68 ?_
      refine lv_iload_n hx hb dX1_rebuild_71 rfl (lv_at hl 5 rfl) ?_
      obtain ⟨b53, ho53, hc53, hk53, hF⟩ := dr_some hF
      refine W_st (st' := [.int p0, va_re ad (y9.1.2 a 2), .ref (ad b53)]) (by rw [va_some ho53]) ?_
      obtain ⟨y54, hy54, hF⟩ := bnd_some hF
      have hf9 := wA_in hD hA9 hS
      refine va_callv (va_runV (As := [va_re ad (y9.1.2 a 2), .int p0]) (rest := []) ⟨hx, hb, hml, hown, hts⟩ (kX6_predictByLists l D ct ad Z G y9.1 H.size b53 ((y9.1.2 a 2)) p0 y54 hc53 hk53 hy54) (cwV 2 hts gX1_rebuild_X6_predictByLists rfl rfl rfl (by decide +kernel) ⟨Nat.le_of_ble_eq_true rfl, Nat.le_of_ble_eq_true rfl⟩) ⟨fun a U g mk q => by obtain ⟨q0, q1, qP, qK, qD, qZ, qN⟩ := q; exact ⟨q0, q1, qP, va_K.moved (u := U) (U := U.calling g mk a) (Vm.Alike.refl U.vm) qK, qD, sF.moved (u := U) (U := U.calling g mk a) (Vm.Alike.refl U.vm) qZ, nF.same rfl qN⟩, va_recv hK hP (ci := 6) (q0 := b53) rfl (wld_o ct ad G y9.1 hc53 hk53 (by decide)), fun U hU hW => ⟨rfl, by rw [hU], by rw [hU]; exact hP, va_K.moved hW.alike hK, hD.weaken (fun _ _ _ _ => trivial), by rw [hU]; exact ((hZ.kept hS.2.1).narrow hf9).moved hW.alike, hN.warm hW⟩⟩ rfl rfl hl.1 rfl (lv_room (Nat.le_of_ble_eq_true rfl)) dX1_rebuild_72 ⟨(Nat.zero_le _), (Nat.zero_le _)⟩) hS (fun q _ h => hf9 q h) hf9 (fun u t H locs ht hvm hw hB hz1 hk1 hS => ?_)
      obtain ⟨hP, hK9, hD9⟩ := hB
      rw [ht] at hP
      have hD := hD9.weaken (fun _ q _ h => hf9 q.1 h)
      refine lv_goto (tgt := 103) hx hb dX1_rebuild_75 (by decide) ?_
      obtain rfl := Option.some.inj hF
      exact J10 _ _ _ hP hD hS (lv_sub hl [0, 1, 2, 3, 4, 5] rfl)
  · rw [if_pos c8] at hF
    refine lv_aload_n hx hb dX1_rebuild_35 rfl (lv_at hl 3 rfl) ?_
    refine va_get (D := D) (ci := 1) (v := va_re ad (M.2 a 3)) (C := RX1) (T := TX1) (N := 22) hx hb hts (mus hf_X1) hown hK hP a (wld_o ct ad G M hc hk (by decide)) rfl 3 (by decide) (hts (.fieldLink RX1 35 "VideoSuite$Decoder" "samples" "LVideoSuite$Samples;") (mu mw_645)) (fun _ h9 => h9) rfl dX1_rebuild_36 ?_
    refine lv_aload_n hx hb dX1_rebuild_39 rfl (lv_at hl 3 rfl) ?_
    refine va_get (D := D) (ci := 1) (v := va_re ad (M.2 a 2)) (C := RX1) (T := TX1) (N := 22) hx hb hts (mus hf_X1) hown hK hP a (wld_o ct ad G M hc hk (by decide)) rfl 2 (by decide) (hts (.fieldLink RX1 28 "VideoSuite$Decoder" "work" "LVideoSuite$Work;") (mu mw_644)) (fun _ h9 => h9) rfl dX1_rebuild_40 ?_
    refine lv_iload_n hx hb dX1_rebuild_43 rfl (lv_at hl 4 rfl) ?_
    obtain ⟨b55, ho55, hc55, hk55, hF⟩ := dr_some hF
    refine W_st (st' := [.int p0, va_re ad (M.2 a 2), .ref (ad b55)]) (by rw [va_some ho55]) ?_
    obtain ⟨y56, hy56, hF⟩ := bnd_some hF
    have hf9 := wA_in hD hA9 hS
    refine va_callv (va_runV (As := [va_re ad (M.2 a 2), .int p0]) (rest := []) ⟨hx, hb, hml, hown, hts⟩ (kX6_fillRaw l D ct ad Z G M s.heap.size b55 ((M.2 a 2)) p0 y56 hc55 hk55 hy56) (cwV 2 hts gX1_rebuild_X6_fillRaw rfl rfl rfl (by decide +kernel) ⟨Nat.le_of_ble_eq_true rfl, Nat.le_of_ble_eq_true rfl⟩) ⟨fun a U g mk q => by obtain ⟨q0, q1, qP, qK, qD, qZ, qN⟩ := q; exact ⟨q0, q1, qP, va_K.moved (u := U) (U := U.calling g mk a) (Vm.Alike.refl U.vm) qK, qD, sF.moved (u := U) (U := U.calling g mk a) (Vm.Alike.refl U.vm) qZ, nF.same rfl qN⟩, va_recv hK hP (ci := 6) (q0 := b55) rfl (wld_o ct ad G M hc55 hk55 (by decide)), fun U hU hW => ⟨rfl, by rw [hU], by rw [hU]; exact hP, va_K.moved hW.alike hK, hD.weaken (fun _ _ _ _ => trivial), by rw [hU]; exact ((hZ.kept hS.2.1).narrow hf9).moved hW.alike, hN.warm hW⟩⟩ rfl rfl hl.1 rfl (lv_room (Nat.le_of_ble_eq_true rfl)) dX1_rebuild_44 ⟨(Nat.zero_le _), (Nat.zero_le _)⟩) hS (fun q _ h => hf9 q h) hf9 (fun u t H locs ht hvm hw hB hz1 hk1 hS => ?_)
    obtain ⟨hP, hK9, hD9⟩ := hB
    rw [ht] at hP
    have hD := hD9.weaken (fun _ q _ h => hf9 q.1 h)
    obtain rfl := Option.some.inj hF
    exact W.vret hx hb hr (fun t ht hW => ⟨⟨(), rfl, trivial, ⟨by rw [ht]; exact hP, va_K.moved hW.alike hK, hD⟩⟩, hS.F ht⟩) hS.2.2 dX1_rebuild_47
set_option maxRecDepth 20000 in
theorem gX2_filter_X4_blocks : GoodIn wuX2_filter (wsV RX2 21 RX4 yX4_blocks wuX4_blocks) := gu_V mw_910 mw_911 mw_912 mw_185 mw_913
set_option maxRecDepth 20000 in
set_option maxRecDepth 20000 in
theorem gX2_filter_X2_measure : GoodIn wuX2_filter (wsV RX2 68 RX2 yX2_measure wuX2_measure) := gu_V mw_944 mw_946 mw_3 mw_173 mw_947
set_option maxRecDepth 20000 in
set_option maxRecDepth 20000 in
theorem gX2_filter_X2_filterEdge : GoodIn wuX2_filter (wsV RX2 71 RX2 yX2_filterEdge wuX2_filterEdge) := gu_V mw_966 mw_968 mw_5 mw_173 mw_969
theorem dX2_filter_0 : decode cX2_filter 0 = .ok (.aload_n 0, 1) := by decide +kernel
theorem dX2_filter_1 : decode cX2_filter 1 = .ok (.aload_n 1, 1) := by decide +kernel
theorem dX2_filter_2 : decode cX2_filter 2 = .ok (.getfield 15, 3) := by decide +kernel
theorem dX2_filter_5 : decode cX2_filter 5 = .ok (.invokevirtual 21, 3) := by decide +kernel
theorem dX2_filter_8 : decode cX2_filter 8 = .ok (.putfield 66, 3) := by decide +kernel
theorem dX2_filter_11 : decode cX2_filter 11 = .ok (.iconst 0, 1) := by decide +kernel
theorem dX2_filter_12 : decode cX2_filter 12 = .ok (.istore_n 2, 1) := by decide +kernel
theorem dX2_filter_13 : decode cX2_filter 13 = .ok (.iload_n 2, 1) := by decide +kernel
theorem dX2_filter_14 : decode cX2_filter 14 = .ok (.aload_n 0, 1) := by decide +kernel
theorem dX2_filter_15 : decode cX2_filter 15 = .ok (.getfield 66, 3) := by decide +kernel
theorem dX2_filter_18 : decode cX2_filter 18 = .ok (.if_icmp .ge 77, 3) := by decide +kernel
theorem dX2_filter_21 : decode cX2_filter 21 = .ok (.aload_n 0, 1) := by decide +kernel
theorem dX2_filter_22 : decode cX2_filter 22 = .ok (.aload_n 1, 1) := by decide +kernel
theorem dX2_filter_23 : decode cX2_filter 23 = .ok (.iload_n 2, 1) := by decide +kernel
theorem dX2_filter_24 : decode cX2_filter 24 = .ok (.invokevirtual 68, 3) := by decide +kernel
theorem dX2_filter_27 : decode cX2_filter 27 = .ok (.iconst 0, 1) := by decide +kernel
theorem dX2_filter_28 : decode cX2_filter 28 = .ok (.istore_n 3, 1) := by decide +kernel
theorem dX2_filter_29 : decode cX2_filter 29 = .ok (.iload_n 3, 1) := by decide +kernel
theorem dX2_filter_30 : decode cX2_filter 30 = .ok (.iconst 3, 1) := by decide +kernel
theorem dX2_filter_31 : decode cX2_filter 31 = .ok (.if_icmp .ge 58, 3) := by decide +kernel
theorem dX2_filter_34 : decode cX2_filter 34 = .ok (.iconst 0, 1) := by decide +kernel
theorem dX2_filter_35 : decode cX2_filter 35 = .ok (.istore 4, 2) := by decide +kernel
theorem dX2_filter_37 : decode cX2_filter 37 = .ok (.iload 4, 2) := by decide +kernel
theorem dX2_filter_39 : decode cX2_filter 39 = .ok (.iconst 2, 1) := by decide +kernel
theorem dX2_filter_40 : decode cX2_filter 40 = .ok (.if_icmp .ge 43, 3) := by decide +kernel
theorem dX2_filter_43 : decode cX2_filter 43 = .ok (.iconst 0, 1) := by decide +kernel
theorem dX2_filter_44 : decode cX2_filter 44 = .ok (.istore 5, 2) := by decide +kernel
theorem dX2_filter_46 : decode cX2_filter 46 = .ok (.iload 5, 2) := by decide +kernel
theorem dX2_filter_48 : decode cX2_filter 48 = .ok (.iload_n 3, 1) := by decide +kernel
theorem dX2_filter_49 : decode cX2_filter 49 = .ok (.ifCond .ne 7, 3) := by decide +kernel
theorem dX2_filter_52 : decode cX2_filter 52 = .ok (.iconst 4, 1) := by decide +kernel
theorem dX2_filter_53 : decode cX2_filter 53 = .ok (.goto 4, 3) := by decide +kernel
theorem dX2_filter_56 : decode cX2_filter 56 = .ok (.iconst 2, 1) := by decide +kernel
theorem dX2_filter_57 : decode cX2_filter 57 = .ok (.if_icmp .ge 20, 3) := by decide +kernel
theorem dX2_filter_60 : decode cX2_filter 60 = .ok (.aload_n 0, 1) := by decide +kernel
theorem dX2_filter_61 : decode cX2_filter 61 = .ok (.aload_n 1, 1) := by decide +kernel
theorem dX2_filter_62 : decode cX2_filter 62 = .ok (.iload_n 2, 1) := by decide +kernel
theorem dX2_filter_63 : decode cX2_filter 63 = .ok (.iload_n 3, 1) := by decide +kernel
theorem dX2_filter_64 : decode cX2_filter 64 = .ok (.iload 4, 2) := by decide +kernel
theorem dX2_filter_66 : decode cX2_filter 66 = .ok (.iload 5, 2) := by decide +kernel
theorem dX2_filter_68 : decode cX2_filter 68 = .ok (.invokevirtual 71, 3) := by decide +kernel
theorem dX2_filter_71 : decode cX2_filter 71 = .ok (.iinc 5 1, 3) := by decide +kernel
theorem dX2_filter_74 : decode cX2_filter 74 = .ok (.goto (-28), 3) := by decide +kernel
theorem dX2_filter_77 : decode cX2_filter 77 = .ok (.iinc 4 1, 3) := by decide +kernel
theorem dX2_filter_80 : decode cX2_filter 80 = .ok (.goto (-43), 3) := by decide +kernel
theorem dX2_filter_83 : decode cX2_filter 83 = .ok (.iinc 3 1, 3) := by decide +kernel
theorem dX2_filter_86 : decode cX2_filter 86 = .ok (.goto (-57), 3) := by decide +kernel
theorem dX2_filter_89 : decode cX2_filter 89 = .ok (.iinc 2 1, 3) := by decide +kernel
theorem dX2_filter_92 : decode cX2_filter 92 = .ok (.goto (-79), 3) := by decide +kernel
theorem dX2_filter_95 : decode cX2_filter 95 = .ok (.return_, 1) := by decide +kernel
def FX2_filter (G : GG) (M : DD) (a : Nat) (p0 : Option Nat) : Option (DD) :=
  dr G 9 p0 fun b2 =>
  dr G 4 ((M.2 b2 0)) fun b3 =>
  bnd (FX4_blocks G M b3) fun y4 =>
  ltt (uI y4.1 a 1 y4.2) fun M5 =>
  bnd (itr (fun (s7 : Int32 × DD) => ((ltt (s7.2.1 a 1) fun x10 =>
  if x10 ≤ s7.1 then (some (.inr (s7.1, s7.2))) else
  (bnd (FX2_measure G s7.2 a p0 s7.1) fun y12 =>
  bnd (itr (fun (s14 : Int32 × DD) => ((if ((3 : Int32)) ≤ s14.1 then (some (.inr (s14.1, s14.2))) else
  (bnd (itr (fun (s20 : Int32 × DD) => ((if ((2 : Int32)) ≤ s20.1 then (some (.inr (s20.1, s20.2))) else
  (bnd (itr (fun (s26 : Int32 × DD) => ((bnd (if s14.1 = ((0 : Int32)) then (some ((4 : Int32))) else
  (some ((2 : Int32)))) fun (y30 : Int32) =>
  if y30 ≤ s26.1 then (some (.inr (s26.1, s26.2))) else
  (bnd (FX2_filterEdge G s26.2 a p0 s7.1 s14.1 s20.1 s26.1) fun y32 =>
  ltt (s26.1 + (1 : Int32)) fun x33 =>
  some (.inl (x33, y32)))) : Option ((Int32 × DD) ⊕ (Int32 × DD)))) 1000000 ((0 : Int32), s20.2)) fun (y25 : Int32 × DD) =>
  ltt (s20.1 + (1 : Int32)) fun x28 =>
  some (.inl (x28, y25.2)))) : Option ((Int32 × DD) ⊕ (Int32 × DD)))) 1000000 ((0 : Int32), s14.2)) fun (y19 : Int32 × DD) =>
  ltt (s14.1 + (1 : Int32)) fun x22 =>
  some (.inl (x22, y19.2)))) : Option ((Int32 × DD) ⊕ (Int32 × DD)))) 1000000 ((0 : Int32), y12)) fun (y13 : Int32 × DD) =>
  ltt (s7.1 + (1 : Int32)) fun x16 =>
  some (.inl (x16, y13.2)))) : Option ((Int32 × DD) ⊕ (Int32 × DD)))) 1000000 ((0 : Int32), M5)) fun (y6 : Int32 × DD) =>
  some y6.2
set_option maxHeartbeats 4000000 in
set_option maxRecDepth 100000 in
theorem kX2_filter (l : Launch) (D : va_G) (ct : CT) (ad : Nat → Nat) (Z : Nat → Nat) (G : GG) (M : DD) (sz : Nat) (a : Nat) (p0 : Option Nat) (y : DD) (hc : a < G.1) (hk : G.2.1 a = 2) (hF : FX2_filter G M a p0 = some y) : Met l yX2_filter wuX2_filter ({ frames := 4, cells := 0, slots := 0, locals := 111 }) (va_Pc [.ref (ad a), va_re ad p0] (kB D ct ad Z G M sz)) (va_Qv (fun (_ : Unit) => True) (fun _ t => kE D ct ad G (wA ad G sz) y t) (wA ad G sz)) 0 0 (wA ad G sz) := by
  refine Met.ofW (cc := cX2_filter) (maxL := 6) (ret := none) (by decide) rfl ?_
  intro p e s m args below meth c s₁ B hml hv
  obtain ⟨rfl, hsz, hP, hK, hD0, hZ, hN⟩ := hv
  have hx := B.exec
  have hb := B.bytes
  have hr := B.returns
  have hts := atoms_spec (ws := wuX2_filter) B.pre
  have hown : s.vm.findClass RX2 = some m.cls := findClass_of_methodNamed B.named
  have hlocks := B.notSynchronized
  subst hsz
  have hD := wD_self (sz := s.heap.size) hD0
  have hA9 : ∀ q, s.heap.size ≤ q → wA ad G s.heap.size q := fun q h => Or.inr h
  generalize hAe : wA ad G s.heap.size = A at hD hA9 hZ ⊢
  have hS : va_S A s.heap s.heap [] := va_S.rf
  have hl := lv_entry ([.ref (ad a), va_re ad p0]) (n := 6) (by cases p0 <;> exact Nat.le_of_ble_eq_true rfl)
  rw [lg_entry_eq]
  generalize (lg_sl ([.ref (ad a), va_re ad p0]) ++ List.replicate (6 - (lg_sl ([.ref (ad a), va_re ad p0])).length) Slot.unset).toArray = ls at hl ⊢
  have hl : lv_has ls 6 [(0, .ref (ad a)), (1, va_re ad p0)] := by have e9 : lv_args 0 [.ref (ad a), va_re ad p0] = [(0, .ref (ad a)), (1, va_re ad p0)] := (by cases p0 <;> rfl); rw [e9] at hl; exact hl
  unfold FX2_filter at hF
  refine lv_aload_n hx hb dX2_filter_0 rfl (lv_at hl 0 rfl) ?_
  refine lv_aloadq_n hx hb dX2_filter_1 rfl (lv_at hl 1 rfl) ?_
  obtain ⟨b2, ho2, hc2, hk2, hF⟩ := dr_some hF
  refine W_st (st' := [.ref (ad b2), .ref (ad a)]) (by rw [va_some ho2]) ?_
  refine va_get (D := D) (ci := 9) (v := va_re ad (M.2 b2 0)) (C := RX9) (T := TX9) (N := 20) hx hb hts (mus hf_X9) hown hK hP b2 (wld_o ct ad G M hc2 hk2 (by decide)) rfl 0 (by decide) (hts (.fieldLink RX2 15 "VideoSuite$Work" "pic" "LVideoSuite$Picture;") (mu mw_419)) (fun _ h9 => h9) rfl dX2_filter_2 ?_
  obtain ⟨b3, ho3, hc3, hk3, hF⟩ := dr_some hF
  refine W_st (st' := [.ref (ad b3), .ref (ad a)]) (by rw [va_some ho3]) ?_
  obtain ⟨y4, hy4, hF⟩ := bnd_some hF
  have hf9 := wA_in hD hA9 hS
  refine va_calli (va_runV (As := []) (rest := [.ref (ad a)]) ⟨hx, hb, hml, hown, hts⟩ (kX4_blocks l D ct ad Z G M s.heap.size b3 y4 hc3 hk3 hy4) (cwV 0 hts gX2_filter_X4_blocks rfl rfl rfl (by decide +kernel) ⟨Nat.le_of_ble_eq_true rfl, Nat.le_of_ble_eq_true rfl⟩) ⟨fun a U g mk q => by obtain ⟨q0, q1, qP, qK, qD, qZ, qN⟩ := q; exact ⟨q0, q1, qP, va_K.moved (u := U) (U := U.calling g mk a) (Vm.Alike.refl U.vm) qK, qD, sF.moved (u := U) (U := U.calling g mk a) (Vm.Alike.refl U.vm) qZ, nF.same rfl qN⟩, va_recv hK hP (ci := 4) (q0 := b3) rfl (wld_o ct ad G M hc3 hk3 (by decide)), fun U hU hW => ⟨rfl, by rw [hU], by rw [hU]; exact hP, va_K.moved hW.alike hK, hD.weaken (fun _ _ _ _ => trivial), by rw [hU]; exact ((hZ.kept hS.2.1).narrow hf9).moved hW.alike, hN.warm hW⟩⟩ rfl rfl hl.1 rfl (lv_room (Nat.le_of_ble_eq_true rfl)) dX2_filter_5 ⟨(Nat.zero_le _), (Nat.zero_le _)⟩) hS (fun q _ h => hf9 q h) hf9 (fun r u t H locs ht hvm hw hB hz1 hk1 hS => ?_)
  obtain ⟨hP, hK9, hD9⟩ := hB
  rw [ht] at hP
  try dsimp only at hw
  subst hw
  have hD := hD9.weaken (fun _ q _ h => hf9 q.1 h)
  refine va_put (D := D) (ci := 2) (v := .int y4.2) (ty := .int) (C := RX2) (T := TX2) (N := 7) hx hb hts (mus hf_X2) tyX2 tyX2_ok nmX2 hown hK hP hD hS a (wld_o ct ad G y4.1 hc hk (by decide)) rfl 1 (by decide) (hts (.fieldLink RX2 66 "VideoSuite$Edges" "blocks" "I") (mu mw_587)) (fun _ h9 => h9) rfl (by decide +kernel) rfl rfl (Nat.le_of_ble_eq_true rfl) dX2_filter_8 (fun H locs hP hD hS => ?_)
  obtain ⟨M5, eM5, hF⟩ := ltt_some hF
  rw [set_oI ct ad G y4.1 hc hk (by decide) (by rfl), ← eM5] at hP hD
  refine lv_iconst (v := (0 : Int32)) hx hb dX2_filter_11 (by decide) ?_
  refine lv_istore_n (lv' := [(2, .int (0 : Int32)), (0, .ref (ad a)), (1, va_re ad p0)]) hx hb dX2_filter_12 rfl hl (by decide) (by generalize p0 = o9; cases o9 <;> rfl) (fun ls hl => ?_)
  obtain ⟨y6, hy6, hF⟩ := bnd_some hF
  have K6 : ∀ (H : Heap) (locs : List Loc) (ls : Array Slot), va_P D classes (wld ct ad G y6.2) H → va_D A (wld ct ad G y6.2) → va_S A s.heap H locs → lv_has ls 6 [(2, .int y6.1), (0, .ref (ad a)), (1, va_re ad p0)] → W p l e (headSpec wuX2_filter ({ frames := 4, cells := 0, slots := 0, locals := 111 })).room s m ([.ref (ad a), va_re ad p0] : List Value).toArray below meth c H locs 0 0 (MQ below (va_Qv (fun (_ : Unit) => True) (fun _ t => kE D ct ad G A y t) A) ([.ref (ad a), va_re ad p0] : List Value).toArray s 0 0 A) (F0 m 95 ls []) := by
    intro H locs ls hP hD hS hl
    obtain rfl := Option.some.inj hF
    exact W.vret hx hb hr (fun t ht hW => ⟨⟨(), rfl, trivial, ⟨by rw [ht]; exact hP, va_K.moved hW.alike hK, hD⟩⟩, hS.F ht⟩) hS.2.2 dX2_filter_95
  clear hF
  refine itr_rule (fun (s7 : Int32 × DD) => ∀ (H : Heap) (locs : List Loc) (ls : Array Slot), va_P D classes (wld ct ad G s7.2) H → va_D A (wld ct ad G s7.2) → va_S A s.heap H locs → lv_has ls 6 [(2, .int s7.1), (0, .ref (ad a)), (1, va_re ad p0)] → W p l e (headSpec wuX2_filter ({ frames := 4, cells := 0, slots := 0, locals := 111 })).room s m ([.ref (ad a), va_re ad p0] : List Value).toArray below meth c H locs 0 0 (MQ below (va_Qv (fun (_ : Unit) => True) (fun _ t => kE D ct ad G A y t) A) ([.ref (ad a), va_re ad p0] : List Value).toArray s 0 0 A) (F0 m 13 ls [])) ?_ _ _ hy6 _ _ _ hP hD hS (lv_sub hl [0, 1, 2] rfl)
  rintro s7 ⟨z9, hF, hwz9⟩ H locs ls hP hD hS hl
  try dsimp only at hF
  refine lv_iload_n hx hb dX2_filter_13 rfl (lv_at hl 0 rfl) ?_
  refine lv_aload_n hx hb dX2_filter_14 rfl (lv_at hl 1 rfl) ?_
  refine va_get (D := D) (ci := 2) (v := .int (s7.2.1 a 1)) (C := RX2) (T := TX2) (N := 7) hx hb hts (mus hf_X2) hown hK hP a (wld_o ct ad G s7.2 hc hk (by decide)) rfl 1 (by decide) (hts (.fieldLink RX2 66 "VideoSuite$Edges" "blocks" "I") (mu mw_587)) (fun _ h9 => h9) rfl dX2_filter_15 ?_
  obtain ⟨x10, ex10, hF⟩ := ltt_some hF
  refine lv_topi (fun zx10 ezx10 => ?_)
  obtain rfl : x10 = zx10 := ex10.trans ezx10.symm
  refine lv_icmp_ge (tgt := 95) hx hb dX2_filter_18 (by decide) (fun c11 => ?_) (fun c11 => ?_)
  · rw [if_pos c11] at hF
    obtain rfl := Option.some.inj hF
    subst hwz9
    exact K6 _ _ _ hP hD hS (lv_sub hl [0, 1, 2] rfl)
  · rw [if_neg c11] at hF
    refine lv_aload_n hx hb dX2_filter_21 rfl (lv_at hl 1 rfl) ?_
    refine lv_aloadq_n hx hb dX2_filter_22 rfl (lv_at hl 2 rfl) ?_
    refine lv_iload_n hx hb dX2_filter_23 rfl (lv_at hl 0 rfl) ?_
    obtain ⟨y12, hy12, hF⟩ := bnd_some hF
    have hf9 := wA_in hD hA9 hS
    refine va_callv (va_runV (As := [va_re ad p0, .int s7.1]) (rest := []) ⟨hx, hb, hml, hown, hts⟩ (kX2_measure l D ct ad Z G s7.2 H.size a p0 s7.1 y12 hc hk hy12) (cwV 2 hts gX2_filter_X2_measure rfl rfl rfl (by decide +kernel) ⟨Nat.le_of_ble_eq_true rfl, Nat.le_of_ble_eq_true rfl⟩) ⟨fun a U g mk q => by obtain ⟨q0, q1, qP, qK, qD, qZ, qN⟩ := q; exact ⟨q0, q1, qP, va_K.moved (u := U) (U := U.calling g mk a) (Vm.Alike.refl U.vm) qK, qD, sF.moved (u := U) (U := U.calling g mk a) (Vm.Alike.refl U.vm) qZ, nF.same rfl qN⟩, va_recv hK hP (ci := 2) (q0 := a) rfl (wld_o ct ad G s7.2 hc hk (by decide)), fun U hU hW => ⟨rfl, by rw [hU], by rw [hU]; exact hP, va_K.moved hW.alike hK, hD.weaken (fun _ _ _ _ => trivial), by rw [hU]; exact ((hZ.kept hS.2.1).narrow hf9).moved hW.alike, hN.warm hW⟩⟩ rfl rfl hl.1 rfl (lv_room (Nat.le_of_ble_eq_true rfl)) dX2_filter_24 ⟨(Nat.zero_le _), (Nat.zero_le _)⟩) hS (fun q _ h => hf9 q h) hf9 (fun u t H locs ht hvm hw hB hz1 hk1 hS => ?_)
    obtain ⟨hP, hK9, hD9⟩ := hB
    rw [ht] at hP
    have hD := hD9.weaken (fun _ q _ h => hf9 q.1 h)
    refine lv_iconst (v := (0 : Int32)) hx hb dX2_filter_27 (by decide) ?_
    refine lv_istore_n (lv' := [(3, .int (0 : Int32)), (2, .int s7.1), (0, .ref (ad a)), (1, va_re ad p0)]) hx hb dX2_filter_28 rfl hl (by decide) rfl (fun ls hl => ?_)
    obtain ⟨y13, hy13, hF⟩ := bnd_some hF
    have K13 : ∀ (H : Heap) (locs : List Loc) (ls : Array Slot), va_P D classes (wld ct ad G y13.2) H → va_D A (wld ct ad G y13.2) → va_S A s.heap H locs → lv_has ls 6 [(3, .int y13.1), (2, .int s7.1), (0, .ref (ad a)), (1, va_re ad p0)] → W p l e (headSpec wuX2_filter ({ frames := 4, cells := 0, slots := 0, locals := 111 })).room s m ([.ref (ad a), va_re ad p0] : List Value).toArray below meth c H locs 0 0 (MQ below (va_Qv (fun (_ : Unit) => True) (fun _ t => kE D ct ad G A y t) A) ([.ref (ad a), va_re ad p0] : List Value).toArray s 0 0 A) (F0 m 89 ls []) := by
      intro H locs ls hP hD hS hl
      obtain ⟨x16, ex16, hF⟩ := ltt_some hF
      refine lv_iinc (v := x16) (lv' := [(2, .int x16), (3, .int y13.1), (0, .ref (ad a)), (1, va_re ad p0)]) hx hb dX2_filter_89 hl (k := 1) rfl (by rw [ex16]; rfl) (by decide) (by generalize p0 = o9; cases o9 <;> rfl) (fun ls hl => ?_)
      refine lv_goto (tgt := 13) hx hb dX2_filter_92 (by decide) ?_
      obtain rfl := Option.some.inj hF
      exact hwz9 _ _ _ hP hD hS (lv_sub hl [0, 2, 3] rfl)
    clear hF
    refine itr_rule (fun (s14 : Int32 × DD) => ∀ (H : Heap) (locs : List Loc) (ls : Array Slot), va_P D classes (wld ct ad G s14.2) H → va_D A (wld ct ad G s14.2) → va_S A s.heap H locs → lv_has ls 6 [(3, .int s14.1), (2, .int s7.1), (0, .ref (ad a)), (1, va_re ad p0)] → W p l e (headSpec wuX2_filter ({ frames := 4, cells := 0, slots := 0, locals := 111 })).room s m ([.ref (ad a), va_re ad p0] : List Value).toArray below meth c H locs 0 0 (MQ below (va_Qv (fun (_ : Unit) => True) (fun _ t => kE D ct ad G A y t) A) ([.ref (ad a), va_re ad p0] : List Value).toArray s 0 0 A) (F0 m 29 ls [])) ?_ _ _ hy13 _ _ _ hP hD hS (lv_sub hl [0, 1, 2, 3] rfl)
    rintro s14 ⟨z17, hF, hwz17⟩ H locs ls hP hD hS hl
    try dsimp only at hF
    refine lv_iload_n hx hb dX2_filter_29 rfl (lv_at hl 0 rfl) ?_
    refine lv_iconst (v := (3 : Int32)) hx hb dX2_filter_30 (by decide) ?_
    refine lv_icmp_ge (tgt := 89) hx hb dX2_filter_31 (by decide) (fun c18 => ?_) (fun c18 => ?_)
    · rw [if_pos c18] at hF
      obtain rfl := Option.some.inj hF
      subst hwz17
      exact K13 _ _ _ hP hD hS (lv_sub hl [0, 1, 2, 3] rfl)
    · rw [if_neg c18] at hF
      refine lv_iconst (v := (0 : Int32)) hx hb dX2_filter_34 (by decide) ?_
      refine lv_istore (lv' := [(4, .int (0 : Int32)), (3, .int s14.1), (2, .int s7.1), (0, .ref (ad a)), (1, va_re ad p0)]) hx hb dX2_filter_35 hl (by decide) rfl (fun ls hl => ?_)
      obtain ⟨y19, hy19, hF⟩ := bnd_some hF
      have K19 : ∀ (H : Heap) (locs : List Loc) (ls : Array Slot), va_P D classes (wld ct ad G y19.2) H → va_D A (wld ct ad G y19.2) → va_S A s.heap H locs → lv_has ls 6 [(4, .int y19.1), (3, .int s14.1), (2, .int s7.1), (0, .ref (ad a)), (1, va_re ad p0)] → W p l e (headSpec wuX2_filter ({ frames := 4, cells := 0, slots := 0, locals := 111 })).room s m ([.ref (ad a), va_re ad p0] : List Value).toArray below meth c H locs 0 0 (MQ below (va_Qv (fun (_ : Unit) => True) (fun _ t => kE D ct ad G A y t) A) ([.ref (ad a), va_re ad p0] : List Value).toArray s 0 0 A) (F0 m 83 ls []) := by
        intro H locs ls hP hD hS hl
        obtain ⟨x22, ex22, hF⟩ := ltt_some hF
        refine lv_iinc (v := x22) (lv' := [(3, .int x22), (4, .int y19.1), (2, .int s7.1), (0, .ref (ad a)), (1, va_re ad p0)]) hx hb dX2_filter_83 hl (k := 1) rfl (by rw [ex22]; rfl) (by decide) rfl (fun ls hl => ?_)
        refine lv_goto (tgt := 29) hx hb dX2_filter_86 (by decide) ?_
        obtain rfl := Option.some.inj hF
        exact hwz17 _ _ _ hP hD hS (lv_sub hl [0, 2, 3, 4] rfl)
      clear hF
      refine itr_rule (fun (s20 : Int32 × DD) => ∀ (H : Heap) (locs : List Loc) (ls : Array Slot), va_P D classes (wld ct ad G s20.2) H → va_D A (wld ct ad G s20.2) → va_S A s.heap H locs → lv_has ls 6 [(4, .int s20.1), (3, .int s14.1), (2, .int s7.1), (0, .ref (ad a)), (1, va_re ad p0)] → W p l e (headSpec wuX2_filter ({ frames := 4, cells := 0, slots := 0, locals := 111 })).room s m ([.ref (ad a), va_re ad p0] : List Value).toArray below meth c H locs 0 0 (MQ below (va_Qv (fun (_ : Unit) => True) (fun _ t => kE D ct ad G A y t) A) ([.ref (ad a), va_re ad p0] : List Value).toArray s 0 0 A) (F0 m 37 ls [])) ?_ _ _ hy19 _ _ _ hP hD hS (lv_sub hl [0, 1, 2, 3, 4] rfl)
      rintro s20 ⟨z23, hF, hwz23⟩ H locs ls hP hD hS hl
      try dsimp only at hF
      refine lv_iload hx hb dX2_filter_37 (lv_at hl 0 rfl) ?_
      refine lv_iconst (v := (2 : Int32)) hx hb dX2_filter_39 (by decide) ?_
      refine lv_icmp_ge (tgt := 83) hx hb dX2_filter_40 (by decide) (fun c24 => ?_) (fun c24 => ?_)
      · rw [if_pos c24] at hF
        obtain rfl := Option.some.inj hF
        subst hwz23
        exact K19 _ _ _ hP hD hS (lv_sub hl [0, 1, 2, 3, 4] rfl)
      · rw [if_neg c24] at hF
        refine lv_iconst (v := (0 : Int32)) hx hb dX2_filter_43 (by decide) ?_
        refine lv_istore (lv' := [(5, .int (0 : Int32)), (4, .int s20.1), (3, .int s14.1), (2, .int s7.1), (0, .ref (ad a)), (1, va_re ad p0)]) hx hb dX2_filter_44 hl (by decide) rfl (fun ls hl => ?_)
        obtain ⟨y25, hy25, hF⟩ := bnd_some hF
        have K25 : ∀ (H : Heap) (locs : List Loc) (ls : Array Slot), va_P D classes (wld ct ad G y25.2) H → va_D A (wld ct ad G y25.2) → va_S A s.heap H locs → lv_has ls 6 [(5, .int y25.1), (4, .int s20.1), (3, .int s14.1), (2, .int s7.1), (0, .ref (ad a)), (1, va_re ad p0)] → W p l e (headSpec wuX2_filter ({ frames := 4, cells := 0, slots := 0, locals := 111 })).room s m ([.ref (ad a), va_re ad p0] : List Value).toArray below meth c H locs 0 0 (MQ below (va_Qv (fun (_ : Unit) => True) (fun _ t => kE D ct ad G A y t) A) ([.ref (ad a), va_re ad p0] : List Value).toArray s 0 0 A) (F0 m 77 ls []) := by
          intro H locs ls hP hD hS hl
          obtain ⟨x28, ex28, hF⟩ := ltt_some hF
          refine lv_iinc (v := x28) (lv' := [(4, .int x28), (5, .int y25.1), (3, .int s14.1), (2, .int s7.1), (0, .ref (ad a)), (1, va_re ad p0)]) hx hb dX2_filter_77 hl (k := 1) rfl (by rw [ex28]; rfl) (by decide) rfl (fun ls hl => ?_)
          refine lv_goto (tgt := 37) hx hb dX2_filter_80 (by decide) ?_
          obtain rfl := Option.some.inj hF
          exact hwz23 _ _ _ hP hD hS (lv_sub hl [0, 2, 3, 4, 5] rfl)
        clear hF
        refine itr_rule (fun (s26 : Int32 × DD) => ∀ (H : Heap) (locs : List Loc) (ls : Array Slot), va_P D classes (wld ct ad G s26.2) H → va_D A (wld ct ad G s26.2) → va_S A s.heap H locs → lv_has ls 6 [(5, .int s26.1), (4, .int s20.1), (3, .int s14.1), (2, .int s7.1), (0, .ref (ad a)), (1, va_re ad p0)] → W p l e (headSpec wuX2_filter ({ frames := 4, cells := 0, slots := 0, locals := 111 })).room s m ([.ref (ad a), va_re ad p0] : List Value).toArray below meth c H locs 0 0 (MQ below (va_Qv (fun (_ : Unit) => True) (fun _ t => kE D ct ad G A y t) A) ([.ref (ad a), va_re ad p0] : List Value).toArray s 0 0 A) (F0 m 46 ls [])) ?_ _ _ hy25 _ _ _ hP hD hS (lv_sub hl [0, 1, 2, 3, 4, 5] rfl)
        rintro s26 ⟨z29, hF, hwz29⟩ H locs ls hP hD hS hl
        try dsimp only at hF
        refine lv_iload hx hb dX2_filter_46 (lv_at hl 0 rfl) ?_
        refine lv_iload_n hx hb dX2_filter_48 rfl (lv_at hl 2 rfl) ?_
        obtain ⟨y30, hy30, hF⟩ := bnd_some hF
        have J30 : ∀ (H : Heap) (locs : List Loc) (ls : Array Slot), va_P D classes (wld ct ad G s26.2) H → va_D A (wld ct ad G s26.2) → va_S A s.heap H locs → lv_has ls 6 [(5, .int s26.1), (4, .int s20.1), (3, .int s14.1), (2, .int s7.1), (0, .ref (ad a)), (1, va_re ad p0)] → W p l e (headSpec wuX2_filter ({ frames := 4, cells := 0, slots := 0, locals := 111 })).room s m ([.ref (ad a), va_re ad p0] : List Value).toArray below meth c H locs 0 0 (MQ below (va_Qv (fun (_ : Unit) => True) (fun _ t => kE D ct ad G A y t) A) ([.ref (ad a), va_re ad p0] : List Value).toArray s 0 0 A) (F0 m 57 ls [.int y30, .int s26.1]) := by
          intro H locs ls hP hD hS hl
          refine lv_icmp_ge (tgt := 77) hx hb dX2_filter_57 (by decide) (fun c31 => ?_) (fun c31 => ?_)
          · rw [if_pos c31] at hF
            obtain rfl := Option.some.inj hF
            subst hwz29
            exact K25 _ _ _ hP hD hS (lv_sub hl [0, 1, 2, 3, 4, 5] rfl)
          · rw [if_neg c31] at hF
            refine lv_aload_n hx hb dX2_filter_60 rfl (lv_at hl 4 rfl) ?_
            refine lv_aloadq_n hx hb dX2_filter_61 rfl (lv_at hl 5 rfl) ?_
            refine lv_iload_n hx hb dX2_filter_62 rfl (lv_at hl 3 rfl) ?_
            refine lv_iload_n hx hb dX2_filter_63 rfl (lv_at hl 2 rfl) ?_
            refine lv_iload hx hb dX2_filter_64 (lv_at hl 1 rfl) ?_
            refine lv_iload hx hb dX2_filter_66 (lv_at hl 0 rfl) ?_
            obtain ⟨y32, hy32, hF⟩ := bnd_some hF
            have hf9 := wA_in hD hA9 hS
            refine va_callv (va_runV (As := [va_re ad p0, .int s7.1, .int s14.1, .int s20.1, .int s26.1]) (rest := []) ⟨hx, hb, hml, hown, hts⟩ (kX2_filterEdge l D ct ad Z G s26.2 H.size a p0 s7.1 s14.1 s20.1 s26.1 y32 hc hk hy32) (cwV 5 hts gX2_filter_X2_filterEdge rfl rfl rfl (by decide +kernel) ⟨Nat.le_of_ble_eq_true rfl, Nat.le_of_ble_eq_true rfl⟩) ⟨fun a U g mk q => by obtain ⟨q0, q1, qP, qK, qD, qZ, qN⟩ := q; exact ⟨q0, q1, qP, va_K.moved (u := U) (U := U.calling g mk a) (Vm.Alike.refl U.vm) qK, qD, sF.moved (u := U) (U := U.calling g mk a) (Vm.Alike.refl U.vm) qZ, nF.same rfl qN⟩, va_recv hK hP (ci := 2) (q0 := a) rfl (wld_o ct ad G s26.2 hc hk (by decide)), fun U hU hW => ⟨rfl, by rw [hU], by rw [hU]; exact hP, va_K.moved hW.alike hK, hD.weaken (fun _ _ _ _ => trivial), by rw [hU]; exact ((hZ.kept hS.2.1).narrow hf9).moved hW.alike, hN.warm hW⟩⟩ rfl rfl hl.1 rfl (lv_room (Nat.le_of_ble_eq_true rfl)) dX2_filter_68 ⟨(Nat.zero_le _), (Nat.zero_le _)⟩) hS (fun q _ h => hf9 q h) hf9 (fun u t H locs ht hvm hw hB hz1 hk1 hS => ?_)
            obtain ⟨hP, hK9, hD9⟩ := hB
            rw [ht] at hP
            have hD := hD9.weaken (fun _ q _ h => hf9 q.1 h)
            obtain ⟨x33, ex33, hF⟩ := ltt_some hF
            refine lv_iinc (v := x33) (lv' := [(5, .int x33), (4, .int s20.1), (3, .int s14.1), (2, .int s7.1), (0, .ref (ad a)), (1, va_re ad p0)]) hx hb dX2_filter_71 hl (k := 0) rfl (by rw [ex33]; rfl) (by decide) rfl (fun ls hl => ?_)
            refine lv_goto (tgt := 46) hx hb dX2_filter_74 (by decide) ?_
            obtain rfl := Option.some.inj hF
            exact hwz29 _ _ _ hP hD hS (lv_sub hl [0, 1, 2, 3, 4, 5] rfl)
        clear hF
        have hF := hy30
        clear hy30
        refine lv_if_ne (tgt := 56) hx hb dX2_filter_49 (by decide) (fun c34 => ?_) (fun c34 => ?_)
        · rw [if_neg c34] at hF
          refine lv_iconst (v := (2 : Int32)) hx hb dX2_filter_56 (by decide) ?_
          obtain rfl := Option.some.inj hF
          exact J30 _ _ _ hP hD hS (lv_sub hl [0, 1, 2, 3, 4, 5] rfl)
        · rw [if_pos c34] at hF
          refine lv_iconst (v := (4 : Int32)) hx hb dX2_filter_52 (by decide) ?_
          refine lv_goto (tgt := 57) hx hb dX2_filter_53 (by decide) ?_
          obtain rfl := Option.some.inj hF
          exact J30 _ _ _ hP hD hS (lv_sub hl [0, 1, 2, 3, 4, 5] rfl)
set_option maxRecDepth 20000 in
theorem gX9_begin_X9_clearBlock : GoodIn wuX9_begin (wsV RX9 59 RX9 yX9_clearBlock wuX9_clearBlock) := gu_V mw_1551 mw_1552 mw_1553 mw_171 mw_1554
theorem dX9_begin_0 : decode cX9_begin 0 = .ok (.aload_n 0, 1) := by decide +kernel
theorem dX9_begin_1 : decode cX9_begin 1 = .ok (.aload_n 1, 1) := by decide +kernel
theorem dX9_begin_2 : decode cX9_begin 2 = .ok (.putfield 51, 3) := by decide +kernel
theorem dX9_begin_5 : decode cX9_begin 5 = .ok (.aload_n 0, 1) := by decide +kernel
theorem dX9_begin_6 : decode cX9_begin 6 = .ok (.iconst (-1), 1) := by decide +kernel
theorem dX9_begin_7 : decode cX9_begin 7 = .ok (.putfield 55, 3) := by decide +kernel
theorem dX9_begin_10 : decode cX9_begin 10 = .ok (.iconst 0, 1) := by decide +kernel
theorem dX9_begin_11 : decode cX9_begin 11 = .ok (.istore_n 2, 1) := by decide +kernel
theorem dX9_begin_12 : decode cX9_begin 12 = .ok (.iload_n 2, 1) := by decide +kernel
theorem dX9_begin_13 : decode cX9_begin 13 = .ok (.bipush 32, 2) := by decide +kernel
theorem dX9_begin_15 : decode cX9_begin 15 = .ok (.if_icmp .ge 14, 3) := by decide +kernel
theorem dX9_begin_18 : decode cX9_begin 18 = .ok (.aload_n 0, 1) := by decide +kernel
theorem dX9_begin_19 : decode cX9_begin 19 = .ok (.iload_n 2, 1) := by decide +kernel
theorem dX9_begin_20 : decode cX9_begin 20 = .ok (.invokevirtual 59, 3) := by decide +kernel
theorem dX9_begin_23 : decode cX9_begin 23 = .ok (.iinc 2 1, 3) := by decide +kernel
theorem dX9_begin_26 : decode cX9_begin 26 = .ok (.goto (-14), 3) := by decide +kernel
theorem dX9_begin_29 : decode cX9_begin 29 = .ok (.return_, 1) := by decide +kernel
def FX9_begin (G : GG) (M : DD) (a : Nat) (p0 : Option Nat) : Option (DD) :=
  ltt (uP M a 0 p0) fun M1 =>
  ltt (uI M1 a 11 ((-1 : Int32))) fun M2 =>
  bnd (itr (fun (s4 : Int32 × DD) => ((if ((32 : Int32)) ≤ s4.1 then (some (.inr (s4.1, s4.2))) else
  (bnd (FX9_clearBlock G s4.2 a s4.1) fun y8 =>
  ltt (s4.1 + (1 : Int32)) fun x9 =>
  some (.inl (x9, y8)))) : Option ((Int32 × DD) ⊕ (Int32 × DD)))) 1000000 ((0 : Int32), M2)) fun (y3 : Int32 × DD) =>
  some y3.2
set_option maxHeartbeats 4000000 in
set_option maxRecDepth 100000 in
theorem kX9_begin (l : Launch) (D : va_G) (ct : CT) (ad : Nat → Nat) (Z : Nat → Nat) (G : GG) (M : DD) (sz : Nat) (a : Nat) (p0 : Option Nat) (y : DD) (hc : a < G.1) (hk : G.2.1 a = 9) (hF : FX9_begin G M a p0 = some y) : Met l yX9_begin wuX9_begin ({ frames := 4, cells := 0, slots := 0, locals := 90 }) (va_Pc [.ref (ad a), va_re ad p0] (kB D ct ad Z G M sz)) (va_Qv (fun (_ : Unit) => True) (fun _ t => kE D ct ad G (wA ad G sz) y t) (wA ad G sz)) 0 0 (wA ad G sz) := by
  refine Met.ofW (cc := cX9_begin) (maxL := 3) (ret := none) (by decide) rfl ?_
  intro p e s m args below meth c s₁ B hml hv
  obtain ⟨rfl, hsz, hP, hK, hD0, hZ, hN⟩ := hv
  have hx := B.exec
  have hb := B.bytes
  have hr := B.returns
  have hts := atoms_spec (ws := wuX9_begin) B.pre
  have hown : s.vm.findClass RX9 = some m.cls := findClass_of_methodNamed B.named
  have hlocks := B.notSynchronized
  subst hsz
  have hD := wD_self (sz := s.heap.size) hD0
  have hA9 : ∀ q, s.heap.size ≤ q → wA ad G s.heap.size q := fun q h => Or.inr h
  generalize hAe : wA ad G s.heap.size = A at hD hA9 hZ ⊢
  have hS : va_S A s.heap s.heap [] := va_S.rf
  have hl := lv_entry ([.ref (ad a), va_re ad p0]) (n := 3) (by cases p0 <;> exact Nat.le_of_ble_eq_true rfl)
  rw [lg_entry_eq]
  generalize (lg_sl ([.ref (ad a), va_re ad p0]) ++ List.replicate (3 - (lg_sl ([.ref (ad a), va_re ad p0])).length) Slot.unset).toArray = ls at hl ⊢
  have hl : lv_has ls 3 [(0, .ref (ad a)), (1, va_re ad p0)] := by have e9 : lv_args 0 [.ref (ad a), va_re ad p0] = [(0, .ref (ad a)), (1, va_re ad p0)] := (by cases p0 <;> rfl); rw [e9] at hl; exact hl
  unfold FX9_begin at hF
  refine lv_aload_n hx hb dX9_begin_0 rfl (lv_at hl 0 rfl) ?_
  refine lv_aloadq_n hx hb dX9_begin_1 rfl (lv_at hl 1 rfl) ?_
  refine va_put (D := D) (ci := 9) (v := va_re ad p0) (ty := (.object "VideoSuite$Picture")) (C := RX9) (T := TX9) (N := 20) hx hb hts (mus hf_X9) tyX9 tyX9_ok nmX9 hown hK hP hD hS a (wld_o ct ad G M hc hk (by decide)) rfl 0 (by decide) (hts (.fieldLink RX9 51 "VideoSuite$Work" "pic" "LVideoSuite$Picture;") (mu mw_422)) (fun _ h9 => h9) rfl (by decide +kernel) (nar_q ad (Or.inl ⟨_, rfl⟩) p0).1 (nar_q ad (Or.inl ⟨_, rfl⟩) p0).2 (Nat.le_of_ble_eq_true rfl) dX9_begin_2 (fun H locs hP hD hS => ?_)
  obtain ⟨M1, eM1, hF⟩ := ltt_some hF
  rw [set_oP ct ad G M hc hk (by decide) (by rfl), ← eM1] at hP hD
  refine lv_aload_n hx hb dX9_begin_5 rfl (lv_at hl 0 rfl) ?_
  refine lv_iconst (v := (-1 : Int32)) hx hb dX9_begin_6 (by decide) ?_
  refine va_put (D := D) (ci := 9) (v := .int (-1 : Int32)) (ty := .int) (C := RX9) (T := TX9) (N := 20) hx hb hts (mus hf_X9) tyX9 tyX9_ok nmX9 hown hK hP hD hS a (wld_o ct ad G M1 hc hk (by decide)) rfl 11 (by decide) (hts (.fieldLink RX9 55 "VideoSuite$Work" "sliceNumber" "I") (mu mw_460)) (fun _ h9 => h9) rfl (by decide +kernel) rfl rfl (Nat.le_of_ble_eq_true rfl) dX9_begin_7 (fun H locs hP hD hS => ?_)
  obtain ⟨M2, eM2, hF⟩ := ltt_some hF
  rw [set_oI ct ad G M1 hc hk (by decide) (by rfl), ← eM2] at hP hD
  refine lv_iconst (v := (0 : Int32)) hx hb dX9_begin_10 (by decide) ?_
  refine lv_istore_n (lv' := [(2, .int (0 : Int32)), (0, .ref (ad a)), (1, va_re ad p0)]) hx hb dX9_begin_11 rfl hl (by decide) (by generalize p0 = o9; cases o9 <;> rfl) (fun ls hl => ?_)
  obtain ⟨y3, hy3, hF⟩ := bnd_some hF
  have K3 : ∀ (H : Heap) (locs : List Loc) (ls : Array Slot), va_P D classes (wld ct ad G y3.2) H → va_D A (wld ct ad G y3.2) → va_S A s.heap H locs → lv_has ls 3 [(2, .int y3.1), (0, .ref (ad a)), (1, va_re ad p0)] → W p l e (headSpec wuX9_begin ({ frames := 4, cells := 0, slots := 0, locals := 90 })).room s m ([.ref (ad a), va_re ad p0] : List Value).toArray below meth c H locs 0 0 (MQ below (va_Qv (fun (_ : Unit) => True) (fun _ t => kE D ct ad G A y t) A) ([.ref (ad a), va_re ad p0] : List Value).toArray s 0 0 A) (F0 m 29 ls []) := by
    intro H locs ls hP hD hS hl
    obtain rfl := Option.some.inj hF
    exact W.vret hx hb hr (fun t ht hW => ⟨⟨(), rfl, trivial, ⟨by rw [ht]; exact hP, va_K.moved hW.alike hK, hD⟩⟩, hS.F ht⟩) hS.2.2 dX9_begin_29
  clear hF
  refine itr_rule (fun (s4 : Int32 × DD) => ∀ (H : Heap) (locs : List Loc) (ls : Array Slot), va_P D classes (wld ct ad G s4.2) H → va_D A (wld ct ad G s4.2) → va_S A s.heap H locs → lv_has ls 3 [(2, .int s4.1), (0, .ref (ad a)), (1, va_re ad p0)] → W p l e (headSpec wuX9_begin ({ frames := 4, cells := 0, slots := 0, locals := 90 })).room s m ([.ref (ad a), va_re ad p0] : List Value).toArray below meth c H locs 0 0 (MQ below (va_Qv (fun (_ : Unit) => True) (fun _ t => kE D ct ad G A y t) A) ([.ref (ad a), va_re ad p0] : List Value).toArray s 0 0 A) (F0 m 12 ls [])) ?_ _ _ hy3 _ _ _ hP hD hS (lv_sub hl [0, 1, 2] rfl)
  rintro s4 ⟨z6, hF, hwz6⟩ H locs ls hP hD hS hl
  try dsimp only at hF
  refine lv_iload_n hx hb dX9_begin_12 rfl (lv_at hl 0 rfl) ?_
  refine lv_bipush (v := (32 : Int32)) hx hb dX9_begin_13 (by decide) ?_
  refine lv_icmp_ge (tgt := 29) hx hb dX9_begin_15 (by decide) (fun c7 => ?_) (fun c7 => ?_)
  · rw [if_pos c7] at hF
    obtain rfl := Option.some.inj hF
    subst hwz6
    exact K3 _ _ _ hP hD hS (lv_sub hl [0, 1, 2] rfl)
  · rw [if_neg c7] at hF
    refine lv_aload_n hx hb dX9_begin_18 rfl (lv_at hl 1 rfl) ?_
    refine lv_iload_n hx hb dX9_begin_19 rfl (lv_at hl 0 rfl) ?_
    obtain ⟨y8, hy8, hF⟩ := bnd_some hF
    have hf9 := wA_in hD hA9 hS
    refine va_callv (va_runV (As := [.int s4.1]) (rest := []) ⟨hx, hb, hml, hown, hts⟩ (kX9_clearBlock l D ct ad Z G s4.2 H.size a s4.1 y8 hc hk hy8) (cwV 1 hts gX9_begin_X9_clearBlock rfl rfl rfl (by decide +kernel) ⟨Nat.le_of_ble_eq_true rfl, Nat.le_of_ble_eq_true rfl⟩) ⟨fun a U g mk q => by obtain ⟨q0, q1, qP, qK, qD, qZ, qN⟩ := q; exact ⟨q0, q1, qP, va_K.moved (u := U) (U := U.calling g mk a) (Vm.Alike.refl U.vm) qK, qD, sF.moved (u := U) (U := U.calling g mk a) (Vm.Alike.refl U.vm) qZ, nF.same rfl qN⟩, va_recv hK hP (ci := 9) (q0 := a) rfl (wld_o ct ad G s4.2 hc hk (by decide)), fun U hU hW => ⟨rfl, by rw [hU], by rw [hU]; exact hP, va_K.moved hW.alike hK, hD.weaken (fun _ _ _ _ => trivial), by rw [hU]; exact ((hZ.kept hS.2.1).narrow hf9).moved hW.alike, hN.warm hW⟩⟩ rfl rfl hl.1 rfl (lv_room (Nat.le_of_ble_eq_true rfl)) dX9_begin_20 ⟨(Nat.zero_le _), (Nat.zero_le _)⟩) hS (fun q _ h => hf9 q h) hf9 (fun u t H locs ht hvm hw hB hz1 hk1 hS => ?_)
    obtain ⟨hP, hK9, hD9⟩ := hB
    rw [ht] at hP
    have hD := hD9.weaken (fun _ q _ h => hf9 q.1 h)
    obtain ⟨x9, ex9, hF⟩ := ltt_some hF
    refine lv_iinc (v := x9) (lv' := [(2, .int x9), (0, .ref (ad a)), (1, va_re ad p0)]) hx hb dX9_begin_23 hl (k := 0) rfl (by rw [ex9]; rfl) (by decide) (by generalize p0 = o9; cases o9 <;> rfl) (fun ls hl => ?_)
    refine lv_goto (tgt := 12) hx hb dX9_begin_26 (by decide) ?_
    obtain rfl := Option.some.inj hF
    exact hwz6 _ _ _ hP hD hS (lv_sub hl [0, 1, 2] rfl)
set_option maxRecDepth 20000 in
theorem gX0_beginTry_X9_begin : GoodIn wuX0_beginTry (wsV RX0 278 RX9 yX9_begin wuX9_begin) := gu_V mw_2445 mw_1548 mw_1549 mw_171 mw_1550
theorem dX0_beginTry_0 : decode cX0_beginTry 0 = .ok (.aload_n 0, 1) := by decide +kernel
theorem dX0_beginTry_1 : decode cX0_beginTry 1 = .ok (.getfield 36, 3) := by decide +kernel
theorem dX0_beginTry_4 : decode cX0_beginTry 4 = .ok (.getfield 81, 3) := by decide +kernel
theorem dX0_beginTry_7 : decode cX0_beginTry 7 = .ok (.getfield 252, 3) := by decide +kernel
theorem dX0_beginTry_10 : decode cX0_beginTry 10 = .ok (.bipush 12, 2) := by decide +kernel
theorem dX0_beginTry_12 : decode cX0_beginTry 12 = .ok (.iload_n 1, 1) := by decide +kernel
theorem dX0_beginTry_13 : decode cX0_beginTry 13 = .ok (.iastore, 1) := by decide +kernel
theorem dX0_beginTry_14 : decode cX0_beginTry 14 = .ok (.aload_n 0, 1) := by decide +kernel
theorem dX0_beginTry_15 : decode cX0_beginTry 15 = .ok (.dup, 1) := by decide +kernel
theorem dX0_beginTry_16 : decode cX0_beginTry 16 = .ok (.getfield 197, 3) := by decide +kernel
theorem dX0_beginTry_19 : decode cX0_beginTry 19 = .ok (.aload_n 0, 1) := by decide +kernel
theorem dX0_beginTry_20 : decode cX0_beginTry 20 = .ok (.getfield 23, 3) := by decide +kernel
theorem dX0_beginTry_23 : decode cX0_beginTry 23 = .ok (.iconst 0, 1) := by decide +kernel
theorem dX0_beginTry_24 : decode cX0_beginTry 24 = .ok (.iaload, 1) := by decide +kernel
theorem dX0_beginTry_25 : decode cX0_beginTry 25 = .ok (.aload_n 0, 1) := by decide +kernel
theorem dX0_beginTry_26 : decode cX0_beginTry 26 = .ok (.getfield 23, 3) := by decide +kernel
theorem dX0_beginTry_29 : decode cX0_beginTry 29 = .ok (.iconst 1, 1) := by decide +kernel
theorem dX0_beginTry_30 : decode cX0_beginTry 30 = .ok (.iaload, 1) := by decide +kernel
theorem dX0_beginTry_31 : decode cX0_beginTry 31 = .ok (.imul, 1) := by decide +kernel
theorem dX0_beginTry_32 : decode cX0_beginTry 32 = .ok (.iadd, 1) := by decide +kernel
theorem dX0_beginTry_33 : decode cX0_beginTry 33 = .ok (.putfield 197, 3) := by decide +kernel
theorem dX0_beginTry_36 : decode cX0_beginTry 36 = .ok (.aload_n 0, 1) := by decide +kernel
theorem dX0_beginTry_37 : decode cX0_beginTry 37 = .ok (.getfield 36, 3) := by decide +kernel
theorem dX0_beginTry_40 : decode cX0_beginTry 40 = .ok (.aload_n 0, 1) := by decide +kernel
theorem dX0_beginTry_41 : decode cX0_beginTry 41 = .ok (.getfield 36, 3) := by decide +kernel
theorem dX0_beginTry_44 : decode cX0_beginTry 44 = .ok (.getfield 266, 3) := by decide +kernel
theorem dX0_beginTry_47 : decode cX0_beginTry 47 = .ok (.invokevirtual 278, 3) := by decide +kernel
theorem dX0_beginTry_50 : decode cX0_beginTry 50 = .ok (.return_, 1) := by decide +kernel
def FX0_beginTry (G : GG) (M : DD) (a : Nat) (p0 : Int32) : Option (DD) :=
  dr G 9 ((M.2 a 3)) fun b2 =>
  dr G 3 ((M.2 b2 1)) fun b3 =>
  dr G 13 ((M.2 b3 0)) fun b4 =>
  chk (¬ (((12 : Int32)) < 0 ∨ G.2.2 b4 ≤ ((12 : Int32)).toNatClampNeg)) <|
  ltt (uI M b4 ((12 : Int32)).toNatClampNeg p0) fun M5 =>
  ltt (M5.1 a 18) fun x6 =>
  dr G 13 ((M5.2 a 1)) fun b7 =>
  chk (¬ (((0 : Int32)) < 0 ∨ G.2.2 b7 ≤ ((0 : Int32)).toNatClampNeg)) <|
  ltt (M5.1 b7 ((0 : Int32)).toNatClampNeg) fun x8 =>
  chk (¬ (((1 : Int32)) < 0 ∨ G.2.2 b7 ≤ ((1 : Int32)).toNatClampNeg)) <|
  ltt (M5.1 b7 ((1 : Int32)).toNatClampNeg) fun x9 =>
  ltt ((x8 * x9)) fun x10 =>
  ltt ((x6 + x10)) fun x11 =>
  ltt (uI M5 a 18 x11) fun M12 =>
  dr G 9 ((M12.2 a 3)) fun b13 =>
  bnd (FX9_begin G M12 b13 ((M12.2 b13 0))) fun y14 =>
  some y14
set_option maxHeartbeats 4000000 in
set_option maxRecDepth 100000 in
theorem kX0_beginTry (l : Launch) (D : va_G) (ct : CT) (ad : Nat → Nat) (Z : Nat → Nat) (G : GG) (M : DD) (sz : Nat) (a : Nat) (p0 : Int32) (y : DD) (hc : a < G.1) (hk : G.2.1 a = 0) (hF : FX0_beginTry G M a p0 = some y) : Met l yX0_beginTry wuX0_beginTry ({ frames := 5, cells := 0, slots := 0, locals := 112 }) (va_Pc [.ref (ad a), .int p0] (kB D ct ad Z G M sz)) (va_Qv (fun (_ : Unit) => True) (fun _ t => kE D ct ad G (wA ad G sz) y t) (wA ad G sz)) 0 0 (wA ad G sz) := by
  refine Met.ofW (cc := cX0_beginTry) (maxL := 2) (ret := none) (by decide) rfl ?_
  intro p e s m args below meth c s₁ B hml hv
  obtain ⟨rfl, hsz, hP, hK, hD0, hZ, hN⟩ := hv
  have hx := B.exec
  have hb := B.bytes
  have hr := B.returns
  have hts := atoms_spec (ws := wuX0_beginTry) B.pre
  have hown : s.vm.findClass RX0 = some m.cls := findClass_of_methodNamed B.named
  have hlocks := B.notSynchronized
  subst hsz
  have hD := wD_self (sz := s.heap.size) hD0
  have hA9 : ∀ q, s.heap.size ≤ q → wA ad G s.heap.size q := fun q h => Or.inr h
  generalize hAe : wA ad G s.heap.size = A at hD hA9 hZ ⊢
  have hS : va_S A s.heap s.heap [] := va_S.rf
  have hl := lv_entry ([.ref (ad a), .int p0]) (n := 2) (Nat.le_of_ble_eq_true rfl)
  rw [lg_entry_eq]
  generalize (lg_sl ([.ref (ad a), .int p0]) ++ List.replicate (2 - (lg_sl ([.ref (ad a), .int p0])).length) Slot.unset).toArray = ls at hl ⊢
  have hl : lv_has ls 2 [(0, .ref (ad a)), (1, .int p0)] := hl
  unfold FX0_beginTry at hF
  refine lv_aload_n hx hb dX0_beginTry_0 rfl (lv_at hl 0 rfl) ?_
  refine va_get (D := D) (ci := 0) (v := va_re ad (M.2 a 3)) (C := RX0) (T := TX0) (N := 21) hx hb hts (mus hf_X0) hown hK hP a (wld_o ct ad G M hc hk (by decide)) rfl 3 (by decide) (hts (.fieldLink RX0 36 "VideoSuite$Coder" "work" "LVideoSuite$Work;") (mu mw_817)) (fun _ h9 => h9) rfl dX0_beginTry_1 ?_
  obtain ⟨b2, ho2, hc2, hk2, hF⟩ := dr_some hF
  refine W_st (st' := [.ref (ad b2)]) (by rw [va_some ho2]) ?_
  refine va_get (D := D) (ci := 9) (v := va_re ad (M.2 b2 1)) (C := RX9) (T := TX9) (N := 20) hx hb hts (mus hf_X9) hown hK hP b2 (wld_o ct ad G M hc2 hk2 (by decide)) rfl 1 (by decide) (hts (.fieldLink RX0 81 "VideoSuite$Work" "head" "LVideoSuite$Header;") (mu mw_425)) (fun _ h9 => h9) rfl dX0_beginTry_4 ?_
  obtain ⟨b3, ho3, hc3, hk3, hF⟩ := dr_some hF
  refine W_st (st' := [.ref (ad b3)]) (by rw [va_some ho3]) ?_
  refine va_get (D := D) (ci := 3) (v := va_re ad (M.2 b3 0)) (C := RX3) (T := TX3) (N := 4) hx hb hts (mus hf_X3) hown hK hP b3 (wld_o ct ad G M hc3 hk3 (by decide)) rfl 0 (by decide) (hts (.fieldLink RX0 252 "VideoSuite$Header" "v" "[I") (mu mw_620)) (fun _ h9 => h9) rfl dX0_beginTry_7 ?_
  refine lv_bipush (v := (12 : Int32)) hx hb dX0_beginTry_10 (by decide) ?_
  refine lv_iload_n hx hb dX0_beginTry_12 rfl (lv_at hl 1 rfl) ?_
  obtain ⟨b4, ho4, hc4, hk4, hF⟩ := dr_some hF
  refine W_st (st' := [.int p0, .int (12 : Int32), .ref (ad b4)]) (by rw [va_some ho4]) ?_
  obtain ⟨hvc, hF⟩ := chk_some hF
  refine va_iast hx hb hK hP hD hS b4 1 (wld_i ct ad G M hc4 hk4) rfl hvc dX0_beginTry_13 (fun H locs hP hD hS => ?_)
  obtain ⟨M5, eM5, hF⟩ := ltt_some hF
  rw [set_i ct ad G M hc4 hk4, ← eM5] at hP hD
  refine lv_aload_n hx hb dX0_beginTry_14 rfl (lv_at hl 0 rfl) ?_
  refine lv_dup hx hb dX0_beginTry_15 rfl ?_
  refine va_get (D := D) (ci := 0) (v := .int (M5.1 a 18)) (C := RX0) (T := TX0) (N := 21) hx hb hts (mus hf_X0) hown hK hP a (wld_o ct ad G M5 hc hk (by decide)) rfl 18 (by decide) (hts (.fieldLink RX0 197 "VideoSuite$Coder" "spent" "I") (mu mw_836)) (fun _ h9 => h9) rfl dX0_beginTry_16 ?_
  obtain ⟨x6, ex6, hF⟩ := ltt_some hF
  refine lv_topi (fun zx6 ezx6 => ?_)
  obtain rfl : x6 = zx6 := ex6.trans ezx6.symm
  refine lv_aload_n hx hb dX0_beginTry_19 rfl (lv_at hl 0 rfl) ?_
  refine va_get (D := D) (ci := 0) (v := va_re ad (M5.2 a 1)) (C := RX0) (T := TX0) (N := 21) hx hb hts (mus hf_X0) hown hK hP a (wld_o ct ad G M5 hc hk (by decide)) rfl 1 (by decide) (hts (.fieldLink RX0 23 "VideoSuite$Coder" "now" "[I") (mu mw_813)) (fun _ h9 => h9) rfl dX0_beginTry_20 ?_
  refine lv_iconst (v := (0 : Int32)) hx hb dX0_beginTry_23 (by decide) ?_
  obtain ⟨b7, ho7, hc7, hk7, hF⟩ := dr_some hF
  refine W_st (st' := [.int (0 : Int32), .ref (ad b7), .int x6, .ref (ad a)]) (by rw [va_some ho7]) ?_
  obtain ⟨hvc, hF⟩ := chk_some hF
  refine va_iald hx hb hK hP b7 1 (wld_i ct ad G M5 hc7 hk7) rfl hvc dX0_beginTry_24 ?_
  obtain ⟨x8, ex8, hF⟩ := ltt_some hF
  refine lv_topi (fun zx8 ezx8 => ?_)
  obtain rfl : x8 = zx8 := ex8.trans ezx8.symm
  refine lv_aload_n hx hb dX0_beginTry_25 rfl (lv_at hl 0 rfl) ?_
  refine va_get (D := D) (ci := 0) (v := va_re ad (M5.2 a 1)) (C := RX0) (T := TX0) (N := 21) hx hb hts (mus hf_X0) hown hK hP a (wld_o ct ad G M5 hc hk (by decide)) rfl 1 (by decide) (hts (.fieldLink RX0 23 "VideoSuite$Coder" "now" "[I") (mu mw_813)) (fun _ h9 => h9) rfl dX0_beginTry_26 ?_
  refine lv_iconst (v := (1 : Int32)) hx hb dX0_beginTry_29 (by decide) ?_
  refine W_st (st' := [.int (1 : Int32), .ref (ad b7), .int x8, .int x6, .ref (ad a)]) (by rw [va_some ho7]) ?_
  obtain ⟨hvc, hF⟩ := chk_some hF
  refine va_iald hx hb hK hP b7 1 (wld_i ct ad G M5 hc7 hk7) rfl hvc dX0_beginTry_30 ?_
  obtain ⟨x9, ex9, hF⟩ := ltt_some hF
  refine lv_topi (fun zx9 ezx9 => ?_)
  obtain rfl : x9 = zx9 := ex9.trans ezx9.symm
  refine lv_imul hx hb dX0_beginTry_31 ?_
  obtain ⟨x10, ex10, hF⟩ := ltt_some hF
  refine lv_topi (fun zx10 ezx10 => ?_)
  obtain rfl : x10 = zx10 := ex10.trans ezx10.symm
  refine lv_iadd hx hb dX0_beginTry_32 ?_
  obtain ⟨x11, ex11, hF⟩ := ltt_some hF
  refine lv_topi (fun zx11 ezx11 => ?_)
  obtain rfl : x11 = zx11 := ex11.trans ezx11.symm
  refine va_put (D := D) (ci := 0) (v := .int x11) (ty := .int) (C := RX0) (T := TX0) (N := 21) hx hb hts (mus hf_X0) tyX0 tyX0_ok nmX0 hown hK hP hD hS a (wld_o ct ad G M5 hc hk (by decide)) rfl 18 (by decide) (hts (.fieldLink RX0 197 "VideoSuite$Coder" "spent" "I") (mu mw_836)) (fun _ h9 => h9) rfl (by decide +kernel) rfl rfl (Nat.le_of_ble_eq_true rfl) dX0_beginTry_33 (fun H locs hP hD hS => ?_)
  obtain ⟨M12, eM12, hF⟩ := ltt_some hF
  rw [set_oI ct ad G M5 hc hk (by decide) (by rfl), ← eM12] at hP hD
  refine lv_aload_n hx hb dX0_beginTry_36 rfl (lv_at hl 0 rfl) ?_
  refine va_get (D := D) (ci := 0) (v := va_re ad (M12.2 a 3)) (C := RX0) (T := TX0) (N := 21) hx hb hts (mus hf_X0) hown hK hP a (wld_o ct ad G M12 hc hk (by decide)) rfl 3 (by decide) (hts (.fieldLink RX0 36 "VideoSuite$Coder" "work" "LVideoSuite$Work;") (mu mw_817)) (fun _ h9 => h9) rfl dX0_beginTry_37 ?_
  refine lv_aload_n hx hb dX0_beginTry_40 rfl (lv_at hl 0 rfl) ?_
  refine va_get (D := D) (ci := 0) (v := va_re ad (M12.2 a 3)) (C := RX0) (T := TX0) (N := 21) hx hb hts (mus hf_X0) hown hK hP a (wld_o ct ad G M12 hc hk (by decide)) rfl 3 (by decide) (hts (.fieldLink RX0 36 "VideoSuite$Coder" "work" "LVideoSuite$Work;") (mu mw_817)) (fun _ h9 => h9) rfl dX0_beginTry_41 ?_
  obtain ⟨b13, ho13, hc13, hk13, hF⟩ := dr_some hF
  refine W_st (st' := [.ref (ad b13), .ref (ad b13)]) (by rw [va_some ho13]) ?_
  refine va_get (D := D) (ci := 9) (v := va_re ad (M12.2 b13 0)) (C := RX9) (T := TX9) (N := 20) hx hb hts (mus hf_X9) hown hK hP b13 (wld_o ct ad G M12 hc13 hk13 (by decide)) rfl 0 (by decide) (hts (.fieldLink RX0 266 "VideoSuite$Work" "pic" "LVideoSuite$Picture;") (mu mw_424)) (fun _ h9 => h9) rfl dX0_beginTry_44 ?_
  obtain ⟨y14, hy14, hF⟩ := bnd_some hF
  have hf9 := wA_in hD hA9 hS
  refine va_callv (va_runV (As := [va_re ad (M12.2 b13 0)]) (rest := []) ⟨hx, hb, hml, hown, hts⟩ (kX9_begin l D ct ad Z G M12 H.size b13 ((M12.2 b13 0)) y14 hc13 hk13 hy14) (cwV 1 hts gX0_beginTry_X9_begin rfl rfl rfl (by decide +kernel) ⟨Nat.le_of_ble_eq_true rfl, Nat.le_of_ble_eq_true rfl⟩) ⟨fun a U g mk q => by obtain ⟨q0, q1, qP, qK, qD, qZ, qN⟩ := q; exact ⟨q0, q1, qP, va_K.moved (u := U) (U := U.calling g mk a) (Vm.Alike.refl U.vm) qK, qD, sF.moved (u := U) (U := U.calling g mk a) (Vm.Alike.refl U.vm) qZ, nF.same rfl qN⟩, va_recv hK hP (ci := 9) (q0 := b13) rfl (wld_o ct ad G M12 hc13 hk13 (by decide)), fun U hU hW => ⟨rfl, by rw [hU], by rw [hU]; exact hP, va_K.moved hW.alike hK, hD.weaken (fun _ _ _ _ => trivial), by rw [hU]; exact ((hZ.kept hS.2.1).narrow hf9).moved hW.alike, hN.warm hW⟩⟩ rfl rfl hl.1 rfl (lv_room (Nat.le_of_ble_eq_true rfl)) dX0_beginTry_47 ⟨(Nat.zero_le _), (Nat.zero_le _)⟩) hS (fun q _ h => hf9 q h) hf9 (fun u t H locs ht hvm hw hB hz1 hk1 hS => ?_)
  obtain ⟨hP, hK9, hD9⟩ := hB
  rw [ht] at hP
  have hD := hD9.weaken (fun _ q _ h => hf9 q.1 h)
  obtain rfl := Option.some.inj hF
  exact W.vret hx hb hr (fun t ht hW => ⟨⟨(), rfl, trivial, ⟨by rw [ht]; exact hP, va_K.moved hW.alike hK, hD⟩⟩, hS.F ht⟩) hS.2.2 dX0_beginTry_50
set_option maxRecDepth 20000 in
theorem gX0_build_X6_colourStep : GoodIn wuX0_build (va_wsS RX0 522 yX6_colourStep wuX6_colourStep) := gu_S mw_2623 mw_975 mw_172 mw_976
set_option maxRecDepth 20000 in
set_option maxRecDepth 20000 in
theorem gX0_build_X9_sides : GoodIn wuX0_build (wsV RX0 353 RX9 yX9_sides wuX9_sides) := gu_V mw_2487 mw_1989 mw_1990 mw_171 mw_1991
set_option maxRecDepth 20000 in
set_option maxRecDepth 20000 in
theorem gX0_build_X6_fillColours : GoodIn wuX0_build (wsV RX0 551 RX6 yX6_fillColours wuX6_fillColours) := gu_V mw_2642 mw_2140 mw_2141 mw_172 mw_2142
set_option maxRecDepth 20000 in
set_option maxRecDepth 20000 in
theorem gX0_build_X0_maySkip : GoodIn wuX0_build (wsV RX0 554 RX0 yX0_maySkip wuX0_maySkip) := gu_V mw_2643 mw_2645 mw_146 mw_175 mw_2646
set_option maxRecDepth 20000 in
theorem gX0_build_X6_measureColours : GoodIn wuX0_build (wsV RX0 547 RX6 yX6_measureColours wuX6_measureColours) := gu_V mw_2638 mw_2639 mw_2640 mw_172 mw_2641
set_option maxRecDepth 20000 in
set_option maxRecDepth 20000 in
theorem gX0_build_X0_buildPieces : GoodIn wuX0_build (wsV RX0 543 RX0 yX0_buildPieces wuX0_buildPieces) := gu_V mw_2634 mw_2636 mw_145 mw_175 mw_2637
set_option maxRecDepth 20000 in
set_option maxRecDepth 20000 in
theorem gX0_build_X6_predictSixteen : GoodIn wuX0_build (wsV RX0 448 RX6 yX6_predictSixteen wuX6_predictSixteen) := gu_V mw_2573 mw_2073 mw_2074 mw_172 mw_2075
set_option maxRecDepth 20000 in
set_option maxRecDepth 20000 in
theorem gX0_build_X6_measureSixteen : GoodIn wuX0_build (wsV RX0 535 RX6 yX6_measureSixteen wuX6_measureSixteen) := gu_V mw_2629 mw_2630 mw_2631 mw_172 mw_2632
set_option maxRecDepth 20000 in
set_option maxRecDepth 20000 in
theorem gX0_build_X6_fillSixteen : GoodIn wuX0_build (wsV RX0 539 RX6 yX6_fillSixteen wuX6_fillSixteen) := gu_V mw_2633 mw_2077 mw_2078 mw_172 mw_2079
set_option maxRecDepth 20000 in
set_option maxRecDepth 20000 in
theorem gX0_build_X6_predictByLists : GoodIn wuX0_build (wsV RX0 498 RX6 yX6_predictByLists wuX6_predictByLists) := gu_V mw_2572 mw_1997 mw_1998 mw_172 mw_1999
set_option maxRecDepth 20000 in
set_option maxRecDepth 20000 in
theorem gX0_build_X6_predictColours_ : GoodIn wuX0_build (wsV RX0 515 RX6 yX6_predictColours_ wuX6_predictColours_) := gu_V mw_2610 mw_2053 mw_2054 mw_172 mw_2055
set_option maxRecDepth 20000 in
set_option maxRecDepth 20000 in
theorem gX0_build_X6_takeRaw : GoodIn wuX0_build (wsV RX0 525 RX6 yX6_takeRaw wuX6_takeRaw) := gu_V mw_2624 mw_2625 mw_2626 mw_172 mw_2627
set_option maxRecDepth 20000 in
set_option maxRecDepth 20000 in
theorem gX0_build_X6_fillRaw : GoodIn wuX0_build (wsV RX0 529 RX6 yX6_fillRaw wuX6_fillRaw) := gu_V mw_2628 mw_1978 mw_1979 mw_172 mw_1980
set_option maxRecDepth 20000 in
set_option maxRecDepth 20000 in
theorem gX0_build_J7_fill_fda19 : GoodIn wuX0_build (va_wsS RX0 362 yJ7_fill_fda19 wuJ7_fill_fda19) := gu_S mw_2498 mw_1556 mw_182 mw_1557
set_option maxRecDepth 20000 in
theorem dX0_build_0 : decode cX0_build 0 = .ok (.bipush 8, 2) := by decide +kernel
theorem dX0_build_2 : decode cX0_build 2 = .ok (.iload_n 1, 1) := by decide +kernel
theorem dX0_build_3 : decode cX0_build 3 = .ok (.imul, 1) := by decide +kernel
theorem dX0_build_4 : decode cX0_build 4 = .ok (.istore_n 3, 1) := by decide +kernel
theorem dX0_build_5 : decode cX0_build 5 = .ok (.aload_n 0, 1) := by decide +kernel
theorem dX0_build_6 : decode cX0_build 6 = .ok (.getfield 36, 3) := by decide +kernel
theorem dX0_build_9 : decode cX0_build 9 = .ok (.getfield 216, 3) := by decide +kernel
theorem dX0_build_12 : decode cX0_build 12 = .ok (.iload_n 3, 1) := by decide +kernel
theorem dX0_build_13 : decode cX0_build 13 = .ok (.iconst 0, 1) := by decide +kernel
theorem dX0_build_14 : decode cX0_build 14 = .ok (.iadd, 1) := by decide +kernel
theorem dX0_build_15 : decode cX0_build 15 = .ok (.iaload, 1) := by decide +kernel
theorem dX0_build_16 : decode cX0_build 16 = .ok (.istore 4, 2) := by decide +kernel
theorem dX0_build_18 : decode cX0_build 18 = .ok (.iload_n 2, 1) := by decide +kernel
theorem dX0_build_19 : decode cX0_build 19 = .ok (.aload_n 0, 1) := by decide +kernel
theorem dX0_build_20 : decode cX0_build 20 = .ok (.getfield 36, 3) := by decide +kernel
theorem dX0_build_23 : decode cX0_build 23 = .ok (.getfield 85, 3) := by decide +kernel
theorem dX0_build_26 : decode cX0_build 26 = .ok (.bipush 8, 2) := by decide +kernel
theorem dX0_build_28 : decode cX0_build 28 = .ok (.iaload, 1) := by decide +kernel
theorem dX0_build_29 : decode cX0_build 29 = .ok (.invokestatic 522, 3) := by decide +kernel
theorem dX0_build_32 : decode cX0_build 32 = .ok (.istore 5, 2) := by decide +kernel
theorem dX0_build_34 : decode cX0_build 34 = .ok (.iload 4, 2) := by decide +kernel
theorem dX0_build_36 : decode cX0_build 36 = .ok (.iconst 3, 1) := by decide +kernel
theorem dX0_build_37 : decode cX0_build 37 = .ok (.if_icmp .eq 7, 3) := by decide +kernel
theorem dX0_build_40 : decode cX0_build 40 = .ok (.iconst 1, 1) := by decide +kernel
theorem dX0_build_41 : decode cX0_build 41 = .ok (.goto 4, 3) := by decide +kernel
theorem dX0_build_44 : decode cX0_build 44 = .ok (.iconst 0, 1) := by decide +kernel
theorem dX0_build_45 : decode cX0_build 45 = .ok (.istore 6, 2) := by decide +kernel
theorem dX0_build_47 : decode cX0_build 47 = .ok (.iload 6, 2) := by decide +kernel
theorem dX0_build_49 : decode cX0_build 49 = .ok (.ifCond .ne 21, 3) := by decide +kernel
theorem dX0_build_52 : decode cX0_build 52 = .ok (.aload_n 0, 1) := by decide +kernel
theorem dX0_build_53 : decode cX0_build 53 = .ok (.getfield 36, 3) := by decide +kernel
theorem dX0_build_56 : decode cX0_build 56 = .ok (.getfield 216, 3) := by decide +kernel
theorem dX0_build_59 : decode cX0_build 59 = .ok (.iload_n 3, 1) := by decide +kernel
theorem dX0_build_60 : decode cX0_build 60 = .ok (.iconst 1, 1) := by decide +kernel
theorem dX0_build_61 : decode cX0_build 61 = .ok (.iadd, 1) := by decide +kernel
theorem dX0_build_62 : decode cX0_build 62 = .ok (.iaload, 1) := by decide +kernel
theorem dX0_build_63 : decode cX0_build 63 = .ok (.ifCond .ge 7, 3) := by decide +kernel
theorem dX0_build_66 : decode cX0_build 66 = .ok (.iconst 1, 1) := by decide +kernel
theorem dX0_build_67 : decode cX0_build 67 = .ok (.goto 4, 3) := by decide +kernel
theorem dX0_build_70 : decode cX0_build 70 = .ok (.iconst 0, 1) := by decide +kernel
theorem dX0_build_71 : decode cX0_build 71 = .ok (.istore 7, 2) := by decide +kernel
theorem dX0_build_73 : decode cX0_build 73 = .ok (.aload_n 0, 1) := by decide +kernel
theorem dX0_build_74 : decode cX0_build 74 = .ok (.getfield 36, 3) := by decide +kernel
theorem dX0_build_77 : decode cX0_build 77 = .ok (.iload_n 1, 1) := by decide +kernel
theorem dX0_build_78 : decode cX0_build 78 = .ok (.invokevirtual 353, 3) := by decide +kernel
theorem dX0_build_81 : decode cX0_build 81 = .ok (.istore 8, 2) := by decide +kernel
theorem dX0_build_83 : decode cX0_build 83 = .ok (.iload 4, 2) := by decide +kernel
theorem dX0_build_85 : decode cX0_build 85 = .ok (.iconst 2, 1) := by decide +kernel
theorem dX0_build_86 : decode cX0_build 86 = .ok (.if_icmp .ne 55, 3) := by decide +kernel
theorem dX0_build_89 : decode cX0_build 89 = .ok (.aload_n 0, 1) := by decide +kernel
theorem dX0_build_90 : decode cX0_build 90 = .ok (.getfield 43, 3) := by decide +kernel
theorem dX0_build_93 : decode cX0_build 93 = .ok (.aload_n 0, 1) := by decide +kernel
theorem dX0_build_94 : decode cX0_build 94 = .ok (.getfield 36, 3) := by decide +kernel
theorem dX0_build_97 : decode cX0_build 97 = .ok (.aload_n 0, 1) := by decide +kernel
theorem dX0_build_98 : decode cX0_build 98 = .ok (.getfield 69, 3) := by decide +kernel
theorem dX0_build_101 : decode cX0_build 101 = .ok (.iload_n 1, 1) := by decide +kernel
theorem dX0_build_102 : decode cX0_build 102 = .ok (.invokevirtual 525, 3) := by decide +kernel
theorem dX0_build_105 : decode cX0_build 105 = .ok (.aload_n 0, 1) := by decide +kernel
theorem dX0_build_106 : decode cX0_build 106 = .ok (.getfield 43, 3) := by decide +kernel
theorem dX0_build_109 : decode cX0_build 109 = .ok (.aload_n 0, 1) := by decide +kernel
theorem dX0_build_110 : decode cX0_build 110 = .ok (.getfield 36, 3) := by decide +kernel
theorem dX0_build_113 : decode cX0_build 113 = .ok (.iload_n 1, 1) := by decide +kernel
theorem dX0_build_114 : decode cX0_build 114 = .ok (.invokevirtual 529, 3) := by decide +kernel
theorem dX0_build_117 : decode cX0_build 117 = .ok (.aload_n 0, 1) := by decide +kernel
theorem dX0_build_118 : decode cX0_build 118 = .ok (.getfield 36, 3) := by decide +kernel
theorem dX0_build_121 : decode cX0_build 121 = .ok (.getfield 532, 3) := by decide +kernel
theorem dX0_build_124 : decode cX0_build 124 = .ok (.bipush 24, 2) := by decide +kernel
theorem dX0_build_126 : decode cX0_build 126 = .ok (.iload_n 1, 1) := by decide +kernel
theorem dX0_build_127 : decode cX0_build 127 = .ok (.imul, 1) := by decide +kernel
theorem dX0_build_128 : decode cX0_build 128 = .ok (.bipush 24, 2) := by decide +kernel
theorem dX0_build_130 : decode cX0_build 130 = .ok (.iload_n 1, 1) := by decide +kernel
theorem dX0_build_131 : decode cX0_build 131 = .ok (.imul, 1) := by decide +kernel
theorem dX0_build_132 : decode cX0_build 132 = .ok (.bipush 24, 2) := by decide +kernel
theorem dX0_build_134 : decode cX0_build 134 = .ok (.iadd, 1) := by decide +kernel
theorem dX0_build_135 : decode cX0_build 135 = .ok (.bipush 16, 2) := by decide +kernel
theorem dX0_build_137 : decode cX0_build 137 = .ok (.invokestatic 362, 3) := by decide +kernel
theorem dX0_build_140 : decode cX0_build 140 = .ok (.return_, 1) := by decide +kernel
theorem dX0_build_141 : decode cX0_build 141 = .ok (.iload 6, 2) := by decide +kernel
theorem dX0_build_143 : decode cX0_build 143 = .ok (.ifCond .eq 31, 3) := by decide +kernel
theorem dX0_build_146 : decode cX0_build 146 = .ok (.aload_n 0, 1) := by decide +kernel
theorem dX0_build_147 : decode cX0_build 147 = .ok (.getfield 43, 3) := by decide +kernel
theorem dX0_build_150 : decode cX0_build 150 = .ok (.aload_n 0, 1) := by decide +kernel
theorem dX0_build_151 : decode cX0_build 151 = .ok (.getfield 36, 3) := by decide +kernel
theorem dX0_build_154 : decode cX0_build 154 = .ok (.iload_n 1, 1) := by decide +kernel
theorem dX0_build_155 : decode cX0_build 155 = .ok (.aload_n 0, 1) := by decide +kernel
theorem dX0_build_156 : decode cX0_build 156 = .ok (.getfield 36, 3) := by decide +kernel
theorem dX0_build_159 : decode cX0_build 159 = .ok (.getfield 216, 3) := by decide +kernel
theorem dX0_build_162 : decode cX0_build 162 = .ok (.iload_n 3, 1) := by decide +kernel
theorem dX0_build_163 : decode cX0_build 163 = .ok (.iconst 5, 1) := by decide +kernel
theorem dX0_build_164 : decode cX0_build 164 = .ok (.iadd, 1) := by decide +kernel
theorem dX0_build_165 : decode cX0_build 165 = .ok (.iaload, 1) := by decide +kernel
theorem dX0_build_166 : decode cX0_build 166 = .ok (.iload 8, 2) := by decide +kernel
theorem dX0_build_168 : decode cX0_build 168 = .ok (.invokevirtual 515, 3) := by decide +kernel
theorem dX0_build_171 : decode cX0_build 171 = .ok (.goto 15, 3) := by decide +kernel
theorem dX0_build_174 : decode cX0_build 174 = .ok (.aload_n 0, 1) := by decide +kernel
theorem dX0_build_175 : decode cX0_build 175 = .ok (.getfield 43, 3) := by decide +kernel
theorem dX0_build_178 : decode cX0_build 178 = .ok (.aload_n 0, 1) := by decide +kernel
theorem dX0_build_179 : decode cX0_build 179 = .ok (.getfield 36, 3) := by decide +kernel
theorem dX0_build_182 : decode cX0_build 182 = .ok (.iload_n 1, 1) := by decide +kernel
theorem dX0_build_183 : decode cX0_build 183 = .ok (.invokevirtual 498, 3) := by decide +kernel
theorem dX0_build_186 : decode cX0_build 186 = .ok (.iload 4, 2) := by decide +kernel
theorem dX0_build_188 : decode cX0_build 188 = .ok (.iconst 1, 1) := by decide +kernel
theorem dX0_build_189 : decode cX0_build 189 = .ok (.if_icmp .ne 84, 3) := by decide +kernel
theorem dX0_build_192 : decode cX0_build 192 = .ok (.aload_n 0, 1) := by decide +kernel
theorem dX0_build_193 : decode cX0_build 193 = .ok (.getfield 43, 3) := by decide +kernel
theorem dX0_build_196 : decode cX0_build 196 = .ok (.aload_n 0, 1) := by decide +kernel
theorem dX0_build_197 : decode cX0_build 197 = .ok (.getfield 36, 3) := by decide +kernel
theorem dX0_build_200 : decode cX0_build 200 = .ok (.iload_n 1, 1) := by decide +kernel
theorem dX0_build_201 : decode cX0_build 201 = .ok (.aload_n 0, 1) := by decide +kernel
theorem dX0_build_202 : decode cX0_build 202 = .ok (.getfield 36, 3) := by decide +kernel
theorem dX0_build_205 : decode cX0_build 205 = .ok (.getfield 356, 3) := by decide +kernel
theorem dX0_build_208 : decode cX0_build 208 = .ok (.bipush 16, 2) := by decide +kernel
theorem dX0_build_210 : decode cX0_build 210 = .ok (.iload_n 1, 1) := by decide +kernel
theorem dX0_build_211 : decode cX0_build 211 = .ok (.imul, 1) := by decide +kernel
theorem dX0_build_212 : decode cX0_build 212 = .ok (.iaload, 1) := by decide +kernel
theorem dX0_build_213 : decode cX0_build 213 = .ok (.iload 8, 2) := by decide +kernel
theorem dX0_build_215 : decode cX0_build 215 = .ok (.invokevirtual 448, 3) := by decide +kernel
theorem dX0_build_218 : decode cX0_build 218 = .ok (.aload_n 0, 1) := by decide +kernel
theorem dX0_build_219 : decode cX0_build 219 = .ok (.getfield 36, 3) := by decide +kernel
theorem dX0_build_222 : decode cX0_build 222 = .ok (.getfield 216, 3) := by decide +kernel
theorem dX0_build_225 : decode cX0_build 225 = .ok (.iload_n 3, 1) := by decide +kernel
theorem dX0_build_226 : decode cX0_build 226 = .ok (.iconst 3, 1) := by decide +kernel
theorem dX0_build_227 : decode cX0_build 227 = .ok (.iadd, 1) := by decide +kernel
theorem dX0_build_228 : decode cX0_build 228 = .ok (.aload_n 0, 1) := by decide +kernel
theorem dX0_build_229 : decode cX0_build 229 = .ok (.getfield 43, 3) := by decide +kernel
theorem dX0_build_232 : decode cX0_build 232 = .ok (.aload_n 0, 1) := by decide +kernel
theorem dX0_build_233 : decode cX0_build 233 = .ok (.getfield 36, 3) := by decide +kernel
theorem dX0_build_236 : decode cX0_build 236 = .ok (.aload_n 0, 1) := by decide +kernel
theorem dX0_build_237 : decode cX0_build 237 = .ok (.getfield 69, 3) := by decide +kernel
theorem dX0_build_240 : decode cX0_build 240 = .ok (.iconst 0, 1) := by decide +kernel
theorem dX0_build_241 : decode cX0_build 241 = .ok (.aaload, 1) := by decide +kernel
theorem dX0_build_242 : decode cX0_build 242 = .ok (.iload_n 1, 1) := by decide +kernel
theorem dX0_build_243 : decode cX0_build 243 = .ok (.iload_n 2, 1) := by decide +kernel
theorem dX0_build_244 : decode cX0_build 244 = .ok (.invokevirtual 535, 3) := by decide +kernel
theorem dX0_build_247 : decode cX0_build 247 = .ok (.ifCond .eq 8, 3) := by decide +kernel
theorem dX0_build_250 : decode cX0_build 250 = .ok (.bipush 15, 2) := by decide +kernel
theorem dX0_build_252 : decode cX0_build 252 = .ok (.goto 4, 3) := by decide +kernel
theorem dX0_build_255 : decode cX0_build 255 = .ok (.iconst 0, 1) := by decide +kernel
theorem dX0_build_256 : decode cX0_build 256 = .ok (.iastore, 1) := by decide +kernel
theorem dX0_build_257 : decode cX0_build 257 = .ok (.aload_n 0, 1) := by decide +kernel
theorem dX0_build_258 : decode cX0_build 258 = .ok (.getfield 43, 3) := by decide +kernel
theorem dX0_build_261 : decode cX0_build 261 = .ok (.aload_n 0, 1) := by decide +kernel
theorem dX0_build_262 : decode cX0_build 262 = .ok (.getfield 36, 3) := by decide +kernel
theorem dX0_build_265 : decode cX0_build 265 = .ok (.iload_n 1, 1) := by decide +kernel
theorem dX0_build_266 : decode cX0_build 266 = .ok (.iload_n 2, 1) := by decide +kernel
theorem dX0_build_267 : decode cX0_build 267 = .ok (.invokevirtual 539, 3) := by decide +kernel
theorem dX0_build_270 : decode cX0_build 270 = .ok (.goto 13, 3) := by decide +kernel
theorem dX0_build_273 : decode cX0_build 273 = .ok (.aload_n 0, 1) := by decide +kernel
theorem dX0_build_274 : decode cX0_build 274 = .ok (.iload_n 1, 1) := by decide +kernel
theorem dX0_build_275 : decode cX0_build 275 = .ok (.iload_n 2, 1) := by decide +kernel
theorem dX0_build_276 : decode cX0_build 276 = .ok (.iload 8, 2) := by decide +kernel
theorem dX0_build_278 : decode cX0_build 278 = .ok (.iload 7, 2) := by decide +kernel
theorem dX0_build_280 : decode cX0_build 280 = .ok (.invokevirtual 543, 3) := by decide +kernel
theorem dX0_build_283 : decode cX0_build 283 = .ok (.iload 7, 2) := by decide +kernel
theorem dX0_build_285 : decode cX0_build 285 = .ok (.ifCond .ne 34, 3) := by decide +kernel
theorem dX0_build_288 : decode cX0_build 288 = .ok (.aload_n 0, 1) := by decide +kernel
theorem dX0_build_289 : decode cX0_build 289 = .ok (.getfield 36, 3) := by decide +kernel
theorem dX0_build_292 : decode cX0_build 292 = .ok (.getfield 216, 3) := by decide +kernel
theorem dX0_build_295 : decode cX0_build 295 = .ok (.iload_n 3, 1) := by decide +kernel
theorem dX0_build_296 : decode cX0_build 296 = .ok (.iconst 4, 1) := by decide +kernel
theorem dX0_build_297 : decode cX0_build 297 = .ok (.iadd, 1) := by decide +kernel
theorem dX0_build_298 : decode cX0_build 298 = .ok (.aload_n 0, 1) := by decide +kernel
theorem dX0_build_299 : decode cX0_build 299 = .ok (.getfield 43, 3) := by decide +kernel
theorem dX0_build_302 : decode cX0_build 302 = .ok (.aload_n 0, 1) := by decide +kernel
theorem dX0_build_303 : decode cX0_build 303 = .ok (.getfield 36, 3) := by decide +kernel
theorem dX0_build_306 : decode cX0_build 306 = .ok (.aload_n 0, 1) := by decide +kernel
theorem dX0_build_307 : decode cX0_build 307 = .ok (.getfield 69, 3) := by decide +kernel
theorem dX0_build_310 : decode cX0_build 310 = .ok (.iload_n 1, 1) := by decide +kernel
theorem dX0_build_311 : decode cX0_build 311 = .ok (.iload 5, 2) := by decide +kernel
theorem dX0_build_313 : decode cX0_build 313 = .ok (.iload 6, 2) := by decide +kernel
theorem dX0_build_315 : decode cX0_build 315 = .ok (.invokevirtual 547, 3) := by decide +kernel
theorem dX0_build_318 : decode cX0_build 318 = .ok (.iastore, 1) := by decide +kernel
theorem dX0_build_319 : decode cX0_build 319 = .ok (.aload_n 0, 1) := by decide +kernel
theorem dX0_build_320 : decode cX0_build 320 = .ok (.getfield 43, 3) := by decide +kernel
theorem dX0_build_323 : decode cX0_build 323 = .ok (.aload_n 0, 1) := by decide +kernel
theorem dX0_build_324 : decode cX0_build 324 = .ok (.getfield 36, 3) := by decide +kernel
theorem dX0_build_327 : decode cX0_build 327 = .ok (.iload_n 1, 1) := by decide +kernel
theorem dX0_build_328 : decode cX0_build 328 = .ok (.iload 5, 2) := by decide +kernel
theorem dX0_build_330 : decode cX0_build 330 = .ok (.invokevirtual 551, 3) := by decide +kernel
theorem dX0_build_333 : decode cX0_build 333 = .ok (.aload_n 0, 1) := by decide +kernel
theorem dX0_build_334 : decode cX0_build 334 = .ok (.getfield 23, 3) := by decide +kernel
theorem dX0_build_337 : decode cX0_build 337 = .ok (.bipush 8, 2) := by decide +kernel
theorem dX0_build_339 : decode cX0_build 339 = .ok (.iaload, 1) := by decide +kernel
theorem dX0_build_340 : decode cX0_build 340 = .ok (.ifCond .ne 23, 3) := by decide +kernel
theorem dX0_build_343 : decode cX0_build 343 = .ok (.aload_n 0, 1) := by decide +kernel
theorem dX0_build_344 : decode cX0_build 344 = .ok (.iload_n 1, 1) := by decide +kernel
theorem dX0_build_345 : decode cX0_build 345 = .ok (.invokevirtual 554, 3) := by decide +kernel
theorem dX0_build_348 : decode cX0_build 348 = .ok (.ifCond .eq 15, 3) := by decide +kernel
theorem dX0_build_351 : decode cX0_build 351 = .ok (.aload_n 0, 1) := by decide +kernel
theorem dX0_build_352 : decode cX0_build 352 = .ok (.getfield 36, 3) := by decide +kernel
theorem dX0_build_355 : decode cX0_build 355 = .ok (.getfield 216, 3) := by decide +kernel
theorem dX0_build_358 : decode cX0_build 358 = .ok (.iload_n 3, 1) := by decide +kernel
theorem dX0_build_359 : decode cX0_build 359 = .ok (.iconst 1, 1) := by decide +kernel
theorem dX0_build_360 : decode cX0_build 360 = .ok (.iadd, 1) := by decide +kernel
theorem dX0_build_361 : decode cX0_build 361 = .ok (.iconst (-1), 1) := by decide +kernel
theorem dX0_build_362 : decode cX0_build 362 = .ok (.iastore, 1) := by decide +kernel
theorem dX0_build_363 : decode cX0_build 363 = .ok (.return_, 1) := by decide +kernel
def FX0_build (G : GG) (M : DD) (a : Nat) (p0 : Int32) (p1 : Int32) : Option (DD) :=
  ltt ((((8 : Int32)) * p0)) fun x1 =>
  dr G 9 ((M.2 a 3)) fun b2 =>
  ltt ((x1 + ((0 : Int32)))) fun x3 =>
  dr G 13 ((M.2 b2 6)) fun b4 =>
  chk (¬ (x3 < 0 ∨ G.2.2 b4 ≤ x3.toNatClampNeg)) <|
  ltt (M.1 b4 x3.toNatClampNeg) fun x5 =>
  dr G 13 ((M.2 b2 2)) fun b6 =>
  chk (¬ (((8 : Int32)) < 0 ∨ G.2.2 b6 ≤ ((8 : Int32)).toNatClampNeg)) <|
  ltt (M.1 b6 ((8 : Int32)).toNatClampNeg) fun x7 =>
  bnd (FX6_colourStep G M p1 x7) fun y8 =>
  bnd (if x5 = ((3 : Int32)) then (some ((0 : Int32))) else
  (some ((1 : Int32)))) fun (y9 : Int32) =>
  bnd (if y9 = ((0 : Int32)) then (dr G 9 ((y8.1.2 a 3)) fun b75 =>
  ltt ((x1 + ((1 : Int32)))) fun x76 =>
  dr G 13 ((y8.1.2 b75 6)) fun b77 =>
  chk (¬ (x76 < 0 ∨ G.2.2 b77 ≤ x76.toNatClampNeg)) <|
  ltt (y8.1.1 b77 x76.toNatClampNeg) fun x78 =>
  bnd (if ((0 : Int32)) ≤ x78 then (some ((0 : Int32))) else
  (some ((1 : Int32)))) fun (y79 : Int32) =>
  some (y79)) else
  (some ((0 : Int32)))) fun (y10 : Int32) =>
  dr G 9 ((y8.1.2 a 3)) fun b11 =>
  bnd (FX9_sides G y8.1 b11 p0) fun y12 =>
  if x5 = ((2 : Int32)) then (dr G 6 ((y12.1.2 a 4)) fun b65 =>
  bnd (FX6_takeRaw G y12.1 b65 ((y12.1.2 a 3)) ((y12.1.2 a 9)) p0) fun y66 =>
  dr G 6 ((y66.2 a 4)) fun b67 =>
  bnd (FX6_fillRaw G y66 b67 ((y66.2 a 3)) p0) fun y68 =>
  dr G 9 ((y68.2 a 3)) fun b69 =>
  ltt ((((24 : Int32)) * p0)) fun x70 =>
  ltt ((((24 : Int32)) * p0)) fun x71 =>
  ltt ((x71 + ((24 : Int32)))) fun x72 =>
  bnd (FJ7_fill_fda19 G y68 ((y68.2 b69 8)) x70 x72 ((16 : Int32))) fun y73 =>
  some y73) else
  (bnd (if y9 = ((0 : Int32)) then (dr G 6 ((y12.1.2 a 4)) fun b57 =>
  bnd (FX6_predictByLists G y12.1 b57 ((y12.1.2 a 3)) p0) fun y58 =>
  some (y58)) else
  (dr G 9 ((y12.1.2 a 3)) fun b59 =>
  ltt ((x1 + ((5 : Int32)))) fun x60 =>
  dr G 13 ((y12.1.2 b59 6)) fun b61 =>
  chk (¬ (x60 < 0 ∨ G.2.2 b61 ≤ x60.toNatClampNeg)) <|
  ltt (y12.1.1 b61 x60.toNatClampNeg) fun x62 =>
  dr G 6 ((y12.1.2 a 4)) fun b63 =>
  bnd (FX6_predictColours_ G y12.1 b63 (some b59) p0 x62 y12.2) fun y64 =>
  some (y64))) fun (y14 : DD) =>
  bnd (if x5 = ((1 : Int32)) then (dr G 9 ((y14.2 a 3)) fun b39 =>
  ltt ((((16 : Int32)) * p0)) fun x40 =>
  dr G 13 ((y14.2 b39 7)) fun b41 =>
  chk (¬ (x40 < 0 ∨ G.2.2 b41 ≤ x40.toNatClampNeg)) <|
  ltt (y14.1 b41 x40.toNatClampNeg) fun x42 =>
  dr G 6 ((y14.2 a 4)) fun b43 =>
  bnd (FX6_predictSixteen G y14 b43 (some b39) p0 x42 y12.2) fun y44 =>
  dr G 9 ((y44.2 a 3)) fun b45 =>
  ltt ((x1 + ((3 : Int32)))) fun x46 =>
  dr G 15 ((y44.2 a 9)) fun b47 =>
  chk (¬ (((0 : Int32)) < 0 ∨ G.2.2 b47 ≤ ((0 : Int32)).toNatClampNeg)) <|
  dr G 6 ((y44.2 a 4)) fun b48 =>
  bnd (FX6_measureSixteen G y44 b48 ((y44.2 a 3)) ((y44.2 b47 ((0 : Int32)).toNatClampNeg)) p0 p1) fun y49 =>
  bnd (if y49.2 = ((0 : Int32)) then (some ((0 : Int32))) else
  (some ((15 : Int32)))) fun (y50 : Int32) =>
  dr G 13 ((y44.2 b45 6)) fun b51 =>
  chk (¬ (x46 < 0 ∨ G.2.2 b51 ≤ x46.toNatClampNeg)) <|
  ltt (uI y49.1 b51 x46.toNatClampNeg y50) fun M52 =>
  dr G 6 ((M52.2 a 4)) fun b53 =>
  bnd (FX6_fillSixteen G M52 b53 ((M52.2 a 3)) p0 p1) fun y54 =>
  some (y54)) else
  (bnd (FX0_buildPieces G y14 a p0 p1 y12.2 y10) fun y38 =>
  some (y38))) fun (y15 : DD) =>
  bnd (if y10 = ((0 : Int32)) then (dr G 9 ((y15.2 a 3)) fun b31 =>
  ltt ((x1 + ((4 : Int32)))) fun x32 =>
  dr G 6 ((y15.2 a 4)) fun b33 =>
  bnd (FX6_measureColours G y15 b33 ((y15.2 a 3)) ((y15.2 a 9)) p0 y8.2 y9) fun y34 =>
  dr G 13 ((y15.2 b31 6)) fun b35 =>
  chk (¬ (x32 < 0 ∨ G.2.2 b35 ≤ x32.toNatClampNeg)) <|
  ltt (uI y34.1 b35 x32.toNatClampNeg y34.2) fun M36 =>
  some (M36)) else
  (some (y15))) fun (y16 : DD) =>
  dr G 6 ((y16.2 a 4)) fun b17 =>
  bnd (FX6_fillColours G y16 b17 ((y16.2 a 3)) p0 y8.2) fun y18 =>
  dr G 13 ((y18.2 a 1)) fun b19 =>
  chk (¬ (((8 : Int32)) < 0 ∨ G.2.2 b19 ≤ ((8 : Int32)).toNatClampNeg)) <|
  ltt (y18.1 b19 ((8 : Int32)).toNatClampNeg) fun x20 =>
  bnd (if x20 = ((0 : Int32)) then (bnd (FX0_maySkip G y18 a p0) fun y23 =>
  bnd (if y23.2 = ((0 : Int32)) then (some (y23.1)) else
  (dr G 9 ((y23.1.2 a 3)) fun b26 =>
  ltt ((x1 + ((1 : Int32)))) fun x27 =>
  dr G 13 ((y23.1.2 b26 6)) fun b28 =>
  chk (¬ (x27 < 0 ∨ G.2.2 b28 ≤ x27.toNatClampNeg)) <|
  ltt (uI y23.1 b28 x27.toNatClampNeg ((-1 : Int32))) fun M29 =>
  some (M29))) fun (y24 : DD) =>
  some (y24)) else
  (some (y18))) fun (y21 : DD) =>
  some y21)
set_option maxHeartbeats 4000000 in
set_option maxRecDepth 100000 in
theorem kX0_build (l : Launch) (D : va_G) (ct : CT) (ad : Nat → Nat) (Z : Nat → Nat) (G : GG) (M : DD) (sz : Nat) (a : Nat) (p0 : Int32) (p1 : Int32) (y : DD) (hc : a < G.1) (hk : G.2.1 a = 0) (hF : FX0_build G M a p0 p1 = some y) : Met l yX0_build wuX0_build ({ frames := 5, cells := 0, slots := 0, locals := 140 }) (va_Pc [.ref (ad a), .int p0, .int p1] (kB D ct ad Z G M sz)) (va_Qv (fun (_ : Unit) => True) (fun _ t => kE D ct ad G (wA ad G sz) y t) (wA ad G sz)) 0 0 (wA ad G sz) := by
  refine Met.ofW (cc := cX0_build) (maxL := 9) (ret := none) (by decide) rfl ?_
  intro p e s m args below meth c s₁ B hml hv
  obtain ⟨rfl, hsz, hP, hK, hD0, hZ, hN⟩ := hv
  have hx := B.exec
  have hb := B.bytes
  have hr := B.returns
  have hts := atoms_spec (ws := wuX0_build) B.pre
  have hown : s.vm.findClass RX0 = some m.cls := findClass_of_methodNamed B.named
  have hlocks := B.notSynchronized
  subst hsz
  have hD := wD_self (sz := s.heap.size) hD0
  have hA9 : ∀ q, s.heap.size ≤ q → wA ad G s.heap.size q := fun q h => Or.inr h
  generalize hAe : wA ad G s.heap.size = A at hD hA9 hZ ⊢
  have hS : va_S A s.heap s.heap [] := va_S.rf
  have hl := lv_entry ([.ref (ad a), .int p0, .int p1]) (n := 9) (Nat.le_of_ble_eq_true rfl)
  rw [lg_entry_eq]
  generalize (lg_sl ([.ref (ad a), .int p0, .int p1]) ++ List.replicate (9 - (lg_sl ([.ref (ad a), .int p0, .int p1])).length) Slot.unset).toArray = ls at hl ⊢
  have hl : lv_has ls 9 [(0, .ref (ad a)), (1, .int p0), (2, .int p1)] := hl
  unfold FX0_build at hF
  refine lv_bipush (v := (8 : Int32)) hx hb dX0_build_0 (by decide) ?_
  refine lv_iload_n hx hb dX0_build_2 rfl (lv_at hl 1 rfl) ?_
  refine lv_imul hx hb dX0_build_3 ?_
  obtain ⟨x1, ex1, hF⟩ := ltt_some hF
  refine lv_topi (fun zx1 ezx1 => ?_)
  obtain rfl : x1 = zx1 := ex1.trans ezx1.symm
  refine lv_istore_n (lv' := [(3, .int x1), (0, .ref (ad a)), (1, .int p0), (2, .int p1)]) hx hb dX0_build_4 rfl hl (by decide) rfl (fun ls hl => ?_)
  refine lv_aload_n hx hb dX0_build_5 rfl (lv_at hl 1 rfl) ?_
  refine va_get (D := D) (ci := 0) (v := va_re ad (M.2 a 3)) (C := RX0) (T := TX0) (N := 21) hx hb hts (mus hf_X0) hown hK hP a (wld_o ct ad G M hc hk (by decide)) rfl 3 (by decide) (hts (.fieldLink RX0 36 "VideoSuite$Coder" "work" "LVideoSuite$Work;") (mu mw_817)) (fun _ h9 => h9) rfl dX0_build_6 ?_
  obtain ⟨b2, ho2, hc2, hk2, hF⟩ := dr_some hF
  refine W_st (st' := [.ref (ad b2)]) (by rw [va_some ho2]) ?_
  refine va_get (D := D) (ci := 9) (v := va_re ad (M.2 b2 6)) (C := RX9) (T := TX9) (N := 20) hx hb hts (mus hf_X9) hown hK hP b2 (wld_o ct ad G M hc2 hk2 (by decide)) rfl 6 (by decide) (hts (.fieldLink RX0 216 "VideoSuite$Work" "info" "[I") (mu mw_445)) (fun _ h9 => h9) rfl dX0_build_9 ?_
  refine lv_iload_n hx hb dX0_build_12 rfl (lv_at hl 0 rfl) ?_
  refine lv_iconst (v := (0 : Int32)) hx hb dX0_build_13 (by decide) ?_
  refine lv_iadd hx hb dX0_build_14 ?_
  obtain ⟨x3, ex3, hF⟩ := ltt_some hF
  refine lv_topi (fun zx3 ezx3 => ?_)
  obtain rfl : x3 = zx3 := ex3.trans ezx3.symm
  obtain ⟨b4, ho4, hc4, hk4, hF⟩ := dr_some hF
  refine W_st (st' := [.int x3, .ref (ad b4)]) (by rw [va_some ho4]) ?_
  obtain ⟨hvc, hF⟩ := chk_some hF
  refine va_iald hx hb hK hP b4 1 (wld_i ct ad G M hc4 hk4) rfl hvc dX0_build_15 ?_
  obtain ⟨x5, ex5, hF⟩ := ltt_some hF
  refine lv_topi (fun zx5 ezx5 => ?_)
  obtain rfl : x5 = zx5 := ex5.trans ezx5.symm
  refine lv_istore (lv' := [(4, .int x5), (3, .int x1), (0, .ref (ad a)), (1, .int p0), (2, .int p1)]) hx hb dX0_build_16 hl (by decide) rfl (fun ls hl => ?_)
  refine lv_iload_n hx hb dX0_build_18 rfl (lv_at hl 4 rfl) ?_
  refine lv_aload_n hx hb dX0_build_19 rfl (lv_at hl 2 rfl) ?_
  refine va_get (D := D) (ci := 0) (v := va_re ad (M.2 a 3)) (C := RX0) (T := TX0) (N := 21) hx hb hts (mus hf_X0) hown hK hP a (wld_o ct ad G M hc hk (by decide)) rfl 3 (by decide) (hts (.fieldLink RX0 36 "VideoSuite$Coder" "work" "LVideoSuite$Work;") (mu mw_817)) (fun _ h9 => h9) rfl dX0_build_20 ?_
  refine W_st (st' := [.ref (ad b2), .int p1]) (by rw [va_some ho2]) ?_
  refine va_get (D := D) (ci := 9) (v := va_re ad (M.2 b2 2)) (C := RX9) (T := TX9) (N := 20) hx hb hts (mus hf_X9) hown hK hP b2 (wld_o ct ad G M hc2 hk2 (by decide)) rfl 2 (by decide) (hts (.fieldLink RX0 85 "VideoSuite$Work" "par" "[I") (mu mw_430)) (fun _ h9 => h9) rfl dX0_build_23 ?_
  refine lv_bipush (v := (8 : Int32)) hx hb dX0_build_26 (by decide) ?_
  obtain ⟨b6, ho6, hc6, hk6, hF⟩ := dr_some hF
  refine W_st (st' := [.int (8 : Int32), .ref (ad b6), .int p1]) (by rw [va_some ho6]) ?_
  obtain ⟨hvc, hF⟩ := chk_some hF
  refine va_iald hx hb hK hP b6 1 (wld_i ct ad G M hc6 hk6) rfl hvc dX0_build_28 ?_
  obtain ⟨x7, ex7, hF⟩ := ltt_some hF
  refine lv_topi (fun zx7 ezx7 => ?_)
  obtain rfl : x7 = zx7 := ex7.trans ezx7.symm
  obtain ⟨y8, hy8, hF⟩ := bnd_some hF
  have hf9 := wA_in hD hA9 hS
  refine va_calli (va_runS (As := [.int p1, .int x7]) (rest := []) ⟨hx, hb, hml, hown, hts⟩ (kX6_colourStep l D ct ad Z G M s.heap.size p1 x7 y8 hy8) (va_cwS 2 hts gX0_build_X6_colourStep rfl rfl rfl (by decide +kernel) ⟨Nat.le_of_ble_eq_true rfl, Nat.le_of_ble_eq_true rfl⟩) ⟨fun a U g mk q => by obtain ⟨q0, q1, qP, qK, qD, qZ, qN⟩ := q; exact ⟨q0, q1, qP, va_K.moved (u := U) (U := U.calling g mk a) (Vm.Alike.refl U.vm) qK, qD, sF.moved (u := U) (U := U.calling g mk a) (Vm.Alike.refl U.vm) qZ, nF.same rfl qN⟩, fun U hU hW => ⟨rfl, by rw [hU], by rw [hU]; exact hP, va_K.moved hW.alike hK, hD.weaken (fun _ _ _ _ => trivial), by rw [hU]; exact ((hZ.kept hS.2.1).narrow hf9).moved hW.alike, hN.warm hW⟩⟩ rfl rfl hl.1 rfl (lv_room (Nat.le_of_ble_eq_true rfl)) dX0_build_29 ⟨(Nat.zero_le _), (Nat.zero_le _)⟩) hS (fun q _ h => hf9 q h) hf9 (fun r u t H locs ht hvm hw hB hz1 hk1 hS => ?_)
  obtain ⟨hP, hK9, hD9⟩ := hB
  rw [ht] at hP
  try dsimp only at hw
  subst hw
  have hD := hD9.weaken (fun _ q _ h => hf9 q.1 h)
  refine lv_istore (lv' := [(5, .int y8.2), (4, .int x5), (3, .int x1), (0, .ref (ad a)), (1, .int p0), (2, .int p1)]) hx hb dX0_build_32 hl (by decide) rfl (fun ls hl => ?_)
  refine lv_iload hx hb dX0_build_34 (lv_at hl 1 rfl) ?_
  refine lv_iconst (v := (3 : Int32)) hx hb dX0_build_36 (by decide) ?_
  obtain ⟨y9, hy9, hF⟩ := bnd_some hF
  have J9 : ∀ (H : Heap) (locs : List Loc) (ls : Array Slot), va_P D classes (wld ct ad G y8.1) H → va_D A (wld ct ad G y8.1) → va_S A s.heap H locs → lv_has ls 9 [(5, .int y8.2), (4, .int x5), (3, .int x1), (0, .ref (ad a)), (1, .int p0), (2, .int p1)] → W p l e (headSpec wuX0_build ({ frames := 5, cells := 0, slots := 0, locals := 140 })).room s m ([.ref (ad a), .int p0, .int p1] : List Value).toArray below meth c H locs 0 0 (MQ below (va_Qv (fun (_ : Unit) => True) (fun _ t => kE D ct ad G A y t) A) ([.ref (ad a), .int p0, .int p1] : List Value).toArray s 0 0 A) (F0 m 45 ls [.int y9]) := by
    intro H locs ls hP hD hS hl
    refine lv_istore (lv' := [(6, .int y9), (5, .int y8.2), (4, .int x5), (3, .int x1), (0, .ref (ad a)), (1, .int p0), (2, .int p1)]) hx hb dX0_build_45 hl (by decide) rfl (fun ls hl => ?_)
    refine lv_iload hx hb dX0_build_47 (lv_at hl 0 rfl) ?_
    obtain ⟨y10, hy10, hF⟩ := bnd_some hF
    have J10 : ∀ (H : Heap) (locs : List Loc) (ls : Array Slot), va_P D classes (wld ct ad G y8.1) H → va_D A (wld ct ad G y8.1) → va_S A s.heap H locs → lv_has ls 9 [(6, .int y9), (5, .int y8.2), (4, .int x5), (3, .int x1), (0, .ref (ad a)), (1, .int p0), (2, .int p1)] → W p l e (headSpec wuX0_build ({ frames := 5, cells := 0, slots := 0, locals := 140 })).room s m ([.ref (ad a), .int p0, .int p1] : List Value).toArray below meth c H locs 0 0 (MQ below (va_Qv (fun (_ : Unit) => True) (fun _ t => kE D ct ad G A y t) A) ([.ref (ad a), .int p0, .int p1] : List Value).toArray s 0 0 A) (F0 m 71 ls [.int y10]) := by
      intro H locs ls hP hD hS hl
      refine lv_istore (lv' := [(7, .int y10), (6, .int y9), (5, .int y8.2), (4, .int x5), (3, .int x1), (0, .ref (ad a)), (1, .int p0), (2, .int p1)]) hx hb dX0_build_71 hl (by decide) rfl (fun ls hl => ?_)
      refine lv_aload_n hx hb dX0_build_73 rfl (lv_at hl 5 rfl) ?_
      refine va_get (D := D) (ci := 0) (v := va_re ad (y8.1.2 a 3)) (C := RX0) (T := TX0) (N := 21) hx hb hts (mus hf_X0) hown hK hP a (wld_o ct ad G y8.1 hc hk (by decide)) rfl 3 (by decide) (hts (.fieldLink RX0 36 "VideoSuite$Coder" "work" "LVideoSuite$Work;") (mu mw_817)) (fun _ h9 => h9) rfl dX0_build_74 ?_
      refine lv_iload_n hx hb dX0_build_77 rfl (lv_at hl 6 rfl) ?_
      obtain ⟨b11, ho11, hc11, hk11, hF⟩ := dr_some hF
      refine W_st (st' := [.int p0, .ref (ad b11)]) (by rw [va_some ho11]) ?_
      obtain ⟨y12, hy12, hF⟩ := bnd_some hF
      have hf9 := wA_in hD hA9 hS
      refine va_calli (va_runV (As := [.int p0]) (rest := []) ⟨hx, hb, hml, hown, hts⟩ (kX9_sides l D ct ad Z G y8.1 H.size b11 p0 y12 hc11 hk11 hy12) (cwV 1 hts gX0_build_X9_sides rfl rfl rfl (by decide +kernel) ⟨Nat.le_of_ble_eq_true rfl, Nat.le_of_ble_eq_true rfl⟩) ⟨fun a U g mk q => by obtain ⟨q0, q1, qP, qK, qD, qZ, qN⟩ := q; exact ⟨q0, q1, qP, va_K.moved (u := U) (U := U.calling g mk a) (Vm.Alike.refl U.vm) qK, qD, sF.moved (u := U) (U := U.calling g mk a) (Vm.Alike.refl U.vm) qZ, nF.same rfl qN⟩, va_recv hK hP (ci := 9) (q0 := b11) rfl (wld_o ct ad G y8.1 hc11 hk11 (by decide)), fun U hU hW => ⟨rfl, by rw [hU], by rw [hU]; exact hP, va_K.moved hW.alike hK, hD.weaken (fun _ _ _ _ => trivial), by rw [hU]; exact ((hZ.kept hS.2.1).narrow hf9).moved hW.alike, hN.warm hW⟩⟩ rfl rfl hl.1 rfl (lv_room (Nat.le_of_ble_eq_true rfl)) dX0_build_78 ⟨(Nat.zero_le _), (Nat.zero_le _)⟩) hS (fun q _ h => hf9 q h) hf9 (fun r u t H locs ht hvm hw hB hz1 hk1 hS => ?_)
      obtain ⟨hP, hK9, hD9⟩ := hB
      rw [ht] at hP
      try dsimp only at hw
      subst hw
      have hD := hD9.weaken (fun _ q _ h => hf9 q.1 h)
      refine lv_istore (lv' := [(8, .int y12.2), (7, .int y10), (6, .int y9), (5, .int y8.2), (4, .int x5), (3, .int x1), (0, .ref (ad a)), (1, .int p0), (2, .int p1)]) hx hb dX0_build_81 hl (by decide) rfl (fun ls hl => ?_)
      refine lv_iload hx hb dX0_build_83 (lv_at hl 4 rfl) ?_
      refine lv_iconst (v := (2 : Int32)) hx hb dX0_build_85 (by decide) ?_
      refine lv_icmp_ne (tgt := 141) hx hb dX0_build_86 (by decide) (fun c13 => ?_) (fun c13 => ?_)
      · rw [if_neg c13] at hF
        refine lv_iload hx hb dX0_build_141 (lv_at hl 2 rfl) ?_
        obtain ⟨y14, hy14, hF⟩ := bnd_some hF
        have J14 : ∀ (H : Heap) (locs : List Loc) (ls : Array Slot), va_P D classes (wld ct ad G y14) H → va_D A (wld ct ad G y14) → va_S A s.heap H locs → lv_has ls 9 [(8, .int y12.2), (7, .int y10), (6, .int y9), (5, .int y8.2), (4, .int x5), (3, .int x1), (0, .ref (ad a)), (1, .int p0), (2, .int p1)] → W p l e (headSpec wuX0_build ({ frames := 5, cells := 0, slots := 0, locals := 140 })).room s m ([.ref (ad a), .int p0, .int p1] : List Value).toArray below meth c H locs 0 0 (MQ below (va_Qv (fun (_ : Unit) => True) (fun _ t => kE D ct ad G A y t) A) ([.ref (ad a), .int p0, .int p1] : List Value).toArray s 0 0 A) (F0 m 186 ls []) := by
          intro H locs ls hP hD hS hl
          refine lv_iload hx hb dX0_build_186 (lv_at hl 4 rfl) ?_
          refine lv_iconst (v := (1 : Int32)) hx hb dX0_build_188 (by decide) ?_
          obtain ⟨y15, hy15, hF⟩ := bnd_some hF
          have J15 : ∀ (H : Heap) (locs : List Loc) (ls : Array Slot), va_P D classes (wld ct ad G y15) H → va_D A (wld ct ad G y15) → va_S A s.heap H locs → lv_has ls 9 [(8, .int y12.2), (7, .int y10), (6, .int y9), (5, .int y8.2), (4, .int x5), (3, .int x1), (0, .ref (ad a)), (1, .int p0), (2, .int p1)] → W p l e (headSpec wuX0_build ({ frames := 5, cells := 0, slots := 0, locals := 140 })).room s m ([.ref (ad a), .int p0, .int p1] : List Value).toArray below meth c H locs 0 0 (MQ below (va_Qv (fun (_ : Unit) => True) (fun _ t => kE D ct ad G A y t) A) ([.ref (ad a), .int p0, .int p1] : List Value).toArray s 0 0 A) (F0 m 283 ls []) := by
            intro H locs ls hP hD hS hl
            refine lv_iload hx hb dX0_build_283 (lv_at hl 1 rfl) ?_
            obtain ⟨y16, hy16, hF⟩ := bnd_some hF
            have J16 : ∀ (H : Heap) (locs : List Loc) (ls : Array Slot), va_P D classes (wld ct ad G y16) H → va_D A (wld ct ad G y16) → va_S A s.heap H locs → lv_has ls 9 [(8, .int y12.2), (7, .int y10), (6, .int y9), (5, .int y8.2), (4, .int x5), (3, .int x1), (0, .ref (ad a)), (1, .int p0), (2, .int p1)] → W p l e (headSpec wuX0_build ({ frames := 5, cells := 0, slots := 0, locals := 140 })).room s m ([.ref (ad a), .int p0, .int p1] : List Value).toArray below meth c H locs 0 0 (MQ below (va_Qv (fun (_ : Unit) => True) (fun _ t => kE D ct ad G A y t) A) ([.ref (ad a), .int p0, .int p1] : List Value).toArray s 0 0 A) (F0 m 319 ls []) := by
              intro H locs ls hP hD hS hl
              refine lv_aload_n hx hb dX0_build_319 rfl (lv_at hl 6 rfl) ?_
              refine va_get (D := D) (ci := 0) (v := va_re ad (y16.2 a 4)) (C := RX0) (T := TX0) (N := 21) hx hb hts (mus hf_X0) hown hK hP a (wld_o ct ad G y16 hc hk (by decide)) rfl 4 (by decide) (hts (.fieldLink RX0 43 "VideoSuite$Coder" "samples" "LVideoSuite$Samples;") (mu mw_818)) (fun _ h9 => h9) rfl dX0_build_320 ?_
              refine lv_aload_n hx hb dX0_build_323 rfl (lv_at hl 6 rfl) ?_
              refine va_get (D := D) (ci := 0) (v := va_re ad (y16.2 a 3)) (C := RX0) (T := TX0) (N := 21) hx hb hts (mus hf_X0) hown hK hP a (wld_o ct ad G y16 hc hk (by decide)) rfl 3 (by decide) (hts (.fieldLink RX0 36 "VideoSuite$Coder" "work" "LVideoSuite$Work;") (mu mw_817)) (fun _ h9 => h9) rfl dX0_build_324 ?_
              refine lv_iload_n hx hb dX0_build_327 rfl (lv_at hl 7 rfl) ?_
              refine lv_iload hx hb dX0_build_328 (lv_at hl 3 rfl) ?_
              obtain ⟨b17, ho17, hc17, hk17, hF⟩ := dr_some hF
              refine W_st (st' := [.int y8.2, .int p0, va_re ad (y16.2 a 3), .ref (ad b17)]) (by rw [va_some ho17]) ?_
              obtain ⟨y18, hy18, hF⟩ := bnd_some hF
              have hf9 := wA_in hD hA9 hS
              refine va_callv (va_runV (As := [va_re ad (y16.2 a 3), .int p0, .int y8.2]) (rest := []) ⟨hx, hb, hml, hown, hts⟩ (kX6_fillColours l D ct ad Z G y16 H.size b17 ((y16.2 a 3)) p0 y8.2 y18 hc17 hk17 hy18) (cwV 3 hts gX0_build_X6_fillColours rfl rfl rfl (by decide +kernel) ⟨Nat.le_of_ble_eq_true rfl, Nat.le_of_ble_eq_true rfl⟩) ⟨fun a U g mk q => by obtain ⟨q0, q1, qP, qK, qD, qZ, qN⟩ := q; exact ⟨q0, q1, qP, va_K.moved (u := U) (U := U.calling g mk a) (Vm.Alike.refl U.vm) qK, qD, sF.moved (u := U) (U := U.calling g mk a) (Vm.Alike.refl U.vm) qZ, nF.same rfl qN⟩, va_recv hK hP (ci := 6) (q0 := b17) rfl (wld_o ct ad G y16 hc17 hk17 (by decide)), fun U hU hW => ⟨rfl, by rw [hU], by rw [hU]; exact hP, va_K.moved hW.alike hK, hD.weaken (fun _ _ _ _ => trivial), by rw [hU]; exact ((hZ.kept hS.2.1).narrow hf9).moved hW.alike, hN.warm hW⟩⟩ rfl rfl hl.1 rfl (lv_room (Nat.le_of_ble_eq_true rfl)) dX0_build_330 ⟨(Nat.zero_le _), (Nat.zero_le _)⟩) hS (fun q _ h => hf9 q h) hf9 (fun u t H locs ht hvm hw hB hz1 hk1 hS => ?_)
              obtain ⟨hP, hK9, hD9⟩ := hB
              rw [ht] at hP
              have hD := hD9.weaken (fun _ q _ h => hf9 q.1 h)
              refine lv_aload_n hx hb dX0_build_333 rfl (lv_at hl 6 rfl) ?_
              refine va_get (D := D) (ci := 0) (v := va_re ad (y18.2 a 1)) (C := RX0) (T := TX0) (N := 21) hx hb hts (mus hf_X0) hown hK hP a (wld_o ct ad G y18 hc hk (by decide)) rfl 1 (by decide) (hts (.fieldLink RX0 23 "VideoSuite$Coder" "now" "[I") (mu mw_813)) (fun _ h9 => h9) rfl dX0_build_334 ?_
              refine lv_bipush (v := (8 : Int32)) hx hb dX0_build_337 (by decide) ?_
              obtain ⟨b19, ho19, hc19, hk19, hF⟩ := dr_some hF
              refine W_st (st' := [.int (8 : Int32), .ref (ad b19)]) (by rw [va_some ho19]) ?_
              obtain ⟨hvc, hF⟩ := chk_some hF
              refine va_iald hx hb hK hP b19 1 (wld_i ct ad G y18 hc19 hk19) rfl hvc dX0_build_339 ?_
              obtain ⟨x20, ex20, hF⟩ := ltt_some hF
              refine lv_topi (fun zx20 ezx20 => ?_)
              obtain rfl : x20 = zx20 := ex20.trans ezx20.symm
              obtain ⟨y21, hy21, hF⟩ := bnd_some hF
              have J21 : ∀ (H : Heap) (locs : List Loc) (ls : Array Slot), va_P D classes (wld ct ad G y21) H → va_D A (wld ct ad G y21) → va_S A s.heap H locs → lv_has ls 9 [(8, .int y12.2), (7, .int y10), (6, .int y9), (5, .int y8.2), (4, .int x5), (3, .int x1), (0, .ref (ad a)), (1, .int p0), (2, .int p1)] → W p l e (headSpec wuX0_build ({ frames := 5, cells := 0, slots := 0, locals := 140 })).room s m ([.ref (ad a), .int p0, .int p1] : List Value).toArray below meth c H locs 0 0 (MQ below (va_Qv (fun (_ : Unit) => True) (fun _ t => kE D ct ad G A y t) A) ([.ref (ad a), .int p0, .int p1] : List Value).toArray s 0 0 A) (F0 m 363 ls []) := by
                intro H locs ls hP hD hS hl
                obtain rfl := Option.some.inj hF
                exact W.vret hx hb hr (fun t ht hW => ⟨⟨(), rfl, trivial, ⟨by rw [ht]; exact hP, va_K.moved hW.alike hK, hD⟩⟩, hS.F ht⟩) hS.2.2 dX0_build_363
              clear hF
              have hF := hy21
              clear hy21
              refine lv_if_ne (tgt := 363) hx hb dX0_build_340 (by decide) (fun c22 => ?_) (fun c22 => ?_)
              · rw [if_neg c22] at hF
                obtain rfl := Option.some.inj hF
                exact J21 _ _ _ hP hD hS (lv_sub hl [0, 1, 2, 3, 4, 5, 6, 7, 8] rfl)
              · rw [if_pos c22] at hF
                refine lv_aload_n hx hb dX0_build_343 rfl (lv_at hl 6 rfl) ?_
                refine lv_iload_n hx hb dX0_build_344 rfl (lv_at hl 7 rfl) ?_
                obtain ⟨y23, hy23, hF⟩ := bnd_some hF
                have hf9 := wA_in hD hA9 hS
                refine va_calli (va_runV (As := [.int p0]) (rest := []) ⟨hx, hb, hml, hown, hts⟩ (kX0_maySkip l D ct ad Z G y18 H.size a p0 y23 hc hk hy23) (cwV 1 hts gX0_build_X0_maySkip rfl rfl rfl (by decide +kernel) ⟨Nat.le_of_ble_eq_true rfl, Nat.le_of_ble_eq_true rfl⟩) ⟨fun a U g mk q => by obtain ⟨q0, q1, qP, qK, qD, qZ, qN⟩ := q; exact ⟨q0, q1, qP, va_K.moved (u := U) (U := U.calling g mk a) (Vm.Alike.refl U.vm) qK, qD, sF.moved (u := U) (U := U.calling g mk a) (Vm.Alike.refl U.vm) qZ, nF.same rfl qN⟩, va_recv hK hP (ci := 0) (q0 := a) rfl (wld_o ct ad G y18 hc hk (by decide)), fun U hU hW => ⟨rfl, by rw [hU], by rw [hU]; exact hP, va_K.moved hW.alike hK, hD.weaken (fun _ _ _ _ => trivial), by rw [hU]; exact ((hZ.kept hS.2.1).narrow hf9).moved hW.alike, hN.warm hW⟩⟩ rfl rfl hl.1 rfl (lv_room (Nat.le_of_ble_eq_true rfl)) dX0_build_345 ⟨(Nat.zero_le _), (Nat.zero_le _)⟩) hS (fun q _ h => hf9 q h) hf9 (fun r u t H locs ht hvm hw hB hz1 hk1 hS => ?_)
                obtain ⟨hP, hK9, hD9⟩ := hB
                rw [ht] at hP
                try dsimp only at hw
                subst hw
                have hD := hD9.weaken (fun _ q _ h => hf9 q.1 h)
                obtain ⟨y24, hy24, hF⟩ := bnd_some hF
                have J24 : ∀ (H : Heap) (locs : List Loc) (ls : Array Slot), va_P D classes (wld ct ad G y24) H → va_D A (wld ct ad G y24) → va_S A s.heap H locs → lv_has ls 9 [(8, .int y12.2), (7, .int y10), (6, .int y9), (5, .int y8.2), (4, .int x5), (3, .int x1), (0, .ref (ad a)), (1, .int p0), (2, .int p1)] → W p l e (headSpec wuX0_build ({ frames := 5, cells := 0, slots := 0, locals := 140 })).room s m ([.ref (ad a), .int p0, .int p1] : List Value).toArray below meth c H locs 0 0 (MQ below (va_Qv (fun (_ : Unit) => True) (fun _ t => kE D ct ad G A y t) A) ([.ref (ad a), .int p0, .int p1] : List Value).toArray s 0 0 A) (F0 m 363 ls []) := by
                  intro H locs ls hP hD hS hl
                  obtain rfl := Option.some.inj hF
                  exact J21 _ _ _ hP hD hS (lv_sub hl [0, 1, 2, 3, 4, 5, 6, 7, 8] rfl)
                clear hF
                have hF := hy24
                clear hy24
                refine lv_if_eq (tgt := 363) hx hb dX0_build_348 (by decide) (fun c25 => ?_) (fun c25 => ?_)
                · rw [if_pos c25] at hF
                  obtain rfl := Option.some.inj hF
                  exact J24 _ _ _ hP hD hS (lv_sub hl [0, 1, 2, 3, 4, 5, 6, 7, 8] rfl)
                · rw [if_neg c25] at hF
                  refine lv_aload_n hx hb dX0_build_351 rfl (lv_at hl 6 rfl) ?_
                  refine va_get (D := D) (ci := 0) (v := va_re ad (y23.1.2 a 3)) (C := RX0) (T := TX0) (N := 21) hx hb hts (mus hf_X0) hown hK hP a (wld_o ct ad G y23.1 hc hk (by decide)) rfl 3 (by decide) (hts (.fieldLink RX0 36 "VideoSuite$Coder" "work" "LVideoSuite$Work;") (mu mw_817)) (fun _ h9 => h9) rfl dX0_build_352 ?_
                  obtain ⟨b26, ho26, hc26, hk26, hF⟩ := dr_some hF
                  refine W_st (st' := [.ref (ad b26)]) (by rw [va_some ho26]) ?_
                  refine va_get (D := D) (ci := 9) (v := va_re ad (y23.1.2 b26 6)) (C := RX9) (T := TX9) (N := 20) hx hb hts (mus hf_X9) hown hK hP b26 (wld_o ct ad G y23.1 hc26 hk26 (by decide)) rfl 6 (by decide) (hts (.fieldLink RX0 216 "VideoSuite$Work" "info" "[I") (mu mw_445)) (fun _ h9 => h9) rfl dX0_build_355 ?_
                  refine lv_iload_n hx hb dX0_build_358 rfl (lv_at hl 5 rfl) ?_
                  refine lv_iconst (v := (1 : Int32)) hx hb dX0_build_359 (by decide) ?_
                  refine lv_iadd hx hb dX0_build_360 ?_
                  obtain ⟨x27, ex27, hF⟩ := ltt_some hF
                  refine lv_topi (fun zx27 ezx27 => ?_)
                  obtain rfl : x27 = zx27 := ex27.trans ezx27.symm
                  refine lv_iconst (v := (-1 : Int32)) hx hb dX0_build_361 (by decide) ?_
                  obtain ⟨b28, ho28, hc28, hk28, hF⟩ := dr_some hF
                  refine W_st (st' := [.int (-1 : Int32), .int x27, .ref (ad b28)]) (by rw [va_some ho28]) ?_
                  obtain ⟨hvc, hF⟩ := chk_some hF
                  refine va_iast hx hb hK hP hD hS b28 1 (wld_i ct ad G y23.1 hc28 hk28) rfl hvc dX0_build_362 (fun H locs hP hD hS => ?_)
                  obtain ⟨M29, eM29, hF⟩ := ltt_some hF
                  rw [set_i ct ad G y23.1 hc28 hk28, ← eM29] at hP hD
                  obtain rfl := Option.some.inj hF
                  exact J24 _ _ _ hP hD hS (lv_sub hl [0, 1, 2, 3, 4, 5, 6, 7, 8] rfl)
            clear hF
            have hF := hy16
            clear hy16
            refine lv_if_ne (tgt := 319) hx hb dX0_build_285 (by decide) (fun c30 => ?_) (fun c30 => ?_)
            · rw [if_neg c30] at hF
              obtain rfl := Option.some.inj hF
              exact J16 _ _ _ hP hD hS (lv_sub hl [0, 1, 2, 3, 4, 5, 6, 7, 8] rfl)
            · rw [if_pos c30] at hF
              refine lv_aload_n hx hb dX0_build_288 rfl (lv_at hl 6 rfl) ?_
              refine va_get (D := D) (ci := 0) (v := va_re ad (y15.2 a 3)) (C := RX0) (T := TX0) (N := 21) hx hb hts (mus hf_X0) hown hK hP a (wld_o ct ad G y15 hc hk (by decide)) rfl 3 (by decide) (hts (.fieldLink RX0 36 "VideoSuite$Coder" "work" "LVideoSuite$Work;") (mu mw_817)) (fun _ h9 => h9) rfl dX0_build_289 ?_
              obtain ⟨b31, ho31, hc31, hk31, hF⟩ := dr_some hF
              refine W_st (st' := [.ref (ad b31)]) (by rw [va_some ho31]) ?_
              refine va_get (D := D) (ci := 9) (v := va_re ad (y15.2 b31 6)) (C := RX9) (T := TX9) (N := 20) hx hb hts (mus hf_X9) hown hK hP b31 (wld_o ct ad G y15 hc31 hk31 (by decide)) rfl 6 (by decide) (hts (.fieldLink RX0 216 "VideoSuite$Work" "info" "[I") (mu mw_445)) (fun _ h9 => h9) rfl dX0_build_292 ?_
              refine lv_iload_n hx hb dX0_build_295 rfl (lv_at hl 5 rfl) ?_
              refine lv_iconst (v := (4 : Int32)) hx hb dX0_build_296 (by decide) ?_
              refine lv_iadd hx hb dX0_build_297 ?_
              obtain ⟨x32, ex32, hF⟩ := ltt_some hF
              refine lv_topi (fun zx32 ezx32 => ?_)
              obtain rfl : x32 = zx32 := ex32.trans ezx32.symm
              refine lv_aload_n hx hb dX0_build_298 rfl (lv_at hl 6 rfl) ?_
              refine va_get (D := D) (ci := 0) (v := va_re ad (y15.2 a 4)) (C := RX0) (T := TX0) (N := 21) hx hb hts (mus hf_X0) hown hK hP a (wld_o ct ad G y15 hc hk (by decide)) rfl 4 (by decide) (hts (.fieldLink RX0 43 "VideoSuite$Coder" "samples" "LVideoSuite$Samples;") (mu mw_818)) (fun _ h9 => h9) rfl dX0_build_299 ?_
              refine lv_aload_n hx hb dX0_build_302 rfl (lv_at hl 6 rfl) ?_
              refine va_get (D := D) (ci := 0) (v := va_re ad (y15.2 a 3)) (C := RX0) (T := TX0) (N := 21) hx hb hts (mus hf_X0) hown hK hP a (wld_o ct ad G y15 hc hk (by decide)) rfl 3 (by decide) (hts (.fieldLink RX0 36 "VideoSuite$Coder" "work" "LVideoSuite$Work;") (mu mw_817)) (fun _ h9 => h9) rfl dX0_build_303 ?_
              refine lv_aload_n hx hb dX0_build_306 rfl (lv_at hl 6 rfl) ?_
              refine va_get (D := D) (ci := 0) (v := va_re ad (y15.2 a 9)) (C := RX0) (T := TX0) (N := 21) hx hb hts (mus hf_X0) hown hK hP a (wld_o ct ad G y15 hc hk (by decide)) rfl 9 (by decide) (hts (.fieldLink RX0 69 "VideoSuite$Coder" "source" "[[I") (mu mw_823)) (fun _ h9 => h9) rfl dX0_build_307 ?_
              refine lv_iload_n hx hb dX0_build_310 rfl (lv_at hl 7 rfl) ?_
              refine lv_iload hx hb dX0_build_311 (lv_at hl 3 rfl) ?_
              refine lv_iload hx hb dX0_build_313 (lv_at hl 2 rfl) ?_
              obtain ⟨b33, ho33, hc33, hk33, hF⟩ := dr_some hF
              refine W_st (st' := [.int y9, .int y8.2, .int p0, va_re ad (y15.2 a 9), va_re ad (y15.2 a 3), .ref (ad b33), .int x32, va_re ad (y15.2 b31 6)]) (by rw [va_some ho33]) ?_
              obtain ⟨y34, hy34, hF⟩ := bnd_some hF
              have hf9 := wA_in hD hA9 hS
              refine va_calli (va_runV (As := [va_re ad (y15.2 a 3), va_re ad (y15.2 a 9), .int p0, .int y8.2, .int y9]) (rest := [.int x32, va_re ad (y15.2 b31 6)]) ⟨hx, hb, hml, hown, hts⟩ (kX6_measureColours l D ct ad Z G y15 H.size b33 ((y15.2 a 3)) ((y15.2 a 9)) p0 y8.2 y9 y34 hc33 hk33 hy34) (cwV 5 hts gX0_build_X6_measureColours rfl rfl rfl (by decide +kernel) ⟨Nat.le_of_ble_eq_true rfl, Nat.le_of_ble_eq_true rfl⟩) ⟨fun a U g mk q => by obtain ⟨q0, q1, qP, qK, qD, qZ, qN⟩ := q; exact ⟨q0, q1, qP, va_K.moved (u := U) (U := U.calling g mk a) (Vm.Alike.refl U.vm) qK, qD, sF.moved (u := U) (U := U.calling g mk a) (Vm.Alike.refl U.vm) qZ, nF.same rfl qN⟩, va_recv hK hP (ci := 6) (q0 := b33) rfl (wld_o ct ad G y15 hc33 hk33 (by decide)), fun U hU hW => ⟨rfl, by rw [hU], by rw [hU]; exact hP, va_K.moved hW.alike hK, hD.weaken (fun _ _ _ _ => trivial), by rw [hU]; exact ((hZ.kept hS.2.1).narrow hf9).moved hW.alike, hN.warm hW⟩⟩ rfl rfl hl.1 rfl (lv_room (by simp only [List.map, va_re_cat]; exact Nat.le_of_ble_eq_true rfl)) dX0_build_315 ⟨(Nat.zero_le _), (Nat.zero_le _)⟩) hS (fun q _ h => hf9 q h) hf9 (fun r u t H locs ht hvm hw hB hz1 hk1 hS => ?_)
              obtain ⟨hP, hK9, hD9⟩ := hB
              rw [ht] at hP
              try dsimp only at hw
              subst hw
              have hD := hD9.weaken (fun _ q _ h => hf9 q.1 h)
              obtain ⟨b35, ho35, hc35, hk35, hF⟩ := dr_some hF
              refine W_st (st' := [.int y34.2, .int x32, .ref (ad b35)]) (by rw [va_some ho35]) ?_
              obtain ⟨hvc, hF⟩ := chk_some hF
              refine va_iast hx hb hK hP hD hS b35 1 (wld_i ct ad G y34.1 hc35 hk35) rfl hvc dX0_build_318 (fun H locs hP hD hS => ?_)
              obtain ⟨M36, eM36, hF⟩ := ltt_some hF
              rw [set_i ct ad G y34.1 hc35 hk35, ← eM36] at hP hD
              obtain rfl := Option.some.inj hF
              exact J16 _ _ _ hP hD hS (lv_sub hl [0, 1, 2, 3, 4, 5, 6, 7, 8] rfl)
          clear hF
          have hF := hy15
          clear hy15
          refine lv_icmp_ne (tgt := 273) hx hb dX0_build_189 (by decide) (fun c37 => ?_) (fun c37 => ?_)
          · rw [if_neg c37] at hF
            refine lv_aload_n hx hb dX0_build_273 rfl (lv_at hl 6 rfl) ?_
            refine lv_iload_n hx hb dX0_build_274 rfl (lv_at hl 7 rfl) ?_
            refine lv_iload_n hx hb dX0_build_275 rfl (lv_at hl 8 rfl) ?_
            refine lv_iload hx hb dX0_build_276 (lv_at hl 0 rfl) ?_
            refine lv_iload hx hb dX0_build_278 (lv_at hl 1 rfl) ?_
            obtain ⟨y38, hy38, hF⟩ := bnd_some hF
            have hf9 := wA_in hD hA9 hS
            refine va_callv (va_runV (As := [.int p0, .int p1, .int y12.2, .int y10]) (rest := []) ⟨hx, hb, hml, hown, hts⟩ (kX0_buildPieces l D ct ad Z G y14 H.size a p0 p1 y12.2 y10 y38 hc hk hy38) (cwV 4 hts gX0_build_X0_buildPieces rfl rfl rfl (by decide +kernel) ⟨Nat.le_of_ble_eq_true rfl, Nat.le_of_ble_eq_true rfl⟩) ⟨fun a U g mk q => by obtain ⟨q0, q1, qP, qK, qD, qZ, qN⟩ := q; exact ⟨q0, q1, qP, va_K.moved (u := U) (U := U.calling g mk a) (Vm.Alike.refl U.vm) qK, qD, sF.moved (u := U) (U := U.calling g mk a) (Vm.Alike.refl U.vm) qZ, nF.same rfl qN⟩, va_recv hK hP (ci := 0) (q0 := a) rfl (wld_o ct ad G y14 hc hk (by decide)), fun U hU hW => ⟨rfl, by rw [hU], by rw [hU]; exact hP, va_K.moved hW.alike hK, hD.weaken (fun _ _ _ _ => trivial), by rw [hU]; exact ((hZ.kept hS.2.1).narrow hf9).moved hW.alike, hN.warm hW⟩⟩ rfl rfl hl.1 rfl (lv_room (Nat.le_of_ble_eq_true rfl)) dX0_build_280 ⟨(Nat.zero_le _), (Nat.zero_le _)⟩) hS (fun q _ h => hf9 q h) hf9 (fun u t H locs ht hvm hw hB hz1 hk1 hS => ?_)
            obtain ⟨hP, hK9, hD9⟩ := hB
            rw [ht] at hP
            have hD := hD9.weaken (fun _ q _ h => hf9 q.1 h)
            obtain rfl := Option.some.inj hF
            exact J15 _ _ _ hP hD hS (lv_sub hl [0, 1, 2, 3, 4, 5, 6, 7, 8] rfl)
          · rw [if_pos c37] at hF
            refine lv_aload_n hx hb dX0_build_192 rfl (lv_at hl 6 rfl) ?_
            refine va_get (D := D) (ci := 0) (v := va_re ad (y14.2 a 4)) (C := RX0) (T := TX0) (N := 21) hx hb hts (mus hf_X0) hown hK hP a (wld_o ct ad G y14 hc hk (by decide)) rfl 4 (by decide) (hts (.fieldLink RX0 43 "VideoSuite$Coder" "samples" "LVideoSuite$Samples;") (mu mw_818)) (fun _ h9 => h9) rfl dX0_build_193 ?_
            refine lv_aload_n hx hb dX0_build_196 rfl (lv_at hl 6 rfl) ?_
            refine va_get (D := D) (ci := 0) (v := va_re ad (y14.2 a 3)) (C := RX0) (T := TX0) (N := 21) hx hb hts (mus hf_X0) hown hK hP a (wld_o ct ad G y14 hc hk (by decide)) rfl 3 (by decide) (hts (.fieldLink RX0 36 "VideoSuite$Coder" "work" "LVideoSuite$Work;") (mu mw_817)) (fun _ h9 => h9) rfl dX0_build_197 ?_
            refine lv_iload_n hx hb dX0_build_200 rfl (lv_at hl 7 rfl) ?_
            refine lv_aload_n hx hb dX0_build_201 rfl (lv_at hl 6 rfl) ?_
            refine va_get (D := D) (ci := 0) (v := va_re ad (y14.2 a 3)) (C := RX0) (T := TX0) (N := 21) hx hb hts (mus hf_X0) hown hK hP a (wld_o ct ad G y14 hc hk (by decide)) rfl 3 (by decide) (hts (.fieldLink RX0 36 "VideoSuite$Coder" "work" "LVideoSuite$Work;") (mu mw_817)) (fun _ h9 => h9) rfl dX0_build_202 ?_
            obtain ⟨b39, ho39, hc39, hk39, hF⟩ := dr_some hF
            refine W_st (st' := [.ref (ad b39), .int p0, .ref (ad b39), va_re ad (y14.2 a 4)]) (by rw [va_some ho39]) ?_
            refine va_get (D := D) (ci := 9) (v := va_re ad (y14.2 b39 7)) (C := RX9) (T := TX9) (N := 20) hx hb hts (mus hf_X9) hown hK hP b39 (wld_o ct ad G y14 hc39 hk39 (by decide)) rfl 7 (by decide) (hts (.fieldLink RX0 356 "VideoSuite$Work" "mode" "[I") (mu mw_448)) (fun _ h9 => h9) rfl dX0_build_205 ?_
            refine lv_bipush (v := (16 : Int32)) hx hb dX0_build_208 (by decide) ?_
            refine lv_iload_n hx hb dX0_build_210 rfl (lv_at hl 7 rfl) ?_
            refine lv_imul hx hb dX0_build_211 ?_
            obtain ⟨x40, ex40, hF⟩ := ltt_some hF
            refine lv_topi (fun zx40 ezx40 => ?_)
            obtain rfl : x40 = zx40 := ex40.trans ezx40.symm
            obtain ⟨b41, ho41, hc41, hk41, hF⟩ := dr_some hF
            refine W_st (st' := [.int x40, .ref (ad b41), .int p0, .ref (ad b39), va_re ad (y14.2 a 4)]) (by rw [va_some ho41]) ?_
            obtain ⟨hvc, hF⟩ := chk_some hF
            refine va_iald hx hb hK hP b41 1 (wld_i ct ad G y14 hc41 hk41) rfl hvc dX0_build_212 ?_
            obtain ⟨x42, ex42, hF⟩ := ltt_some hF
            refine lv_topi (fun zx42 ezx42 => ?_)
            obtain rfl : x42 = zx42 := ex42.trans ezx42.symm
            refine lv_iload hx hb dX0_build_213 (lv_at hl 0 rfl) ?_
            obtain ⟨b43, ho43, hc43, hk43, hF⟩ := dr_some hF
            refine W_st (st' := [.int y12.2, .int x42, .int p0, .ref (ad b39), .ref (ad b43)]) (by rw [va_some ho43]) ?_
            obtain ⟨y44, hy44, hF⟩ := bnd_some hF
            have hf9 := wA_in hD hA9 hS
            refine va_callv (va_runV (As := [.ref (ad b39), .int p0, .int x42, .int y12.2]) (rest := []) ⟨hx, hb, hml, hown, hts⟩ (kX6_predictSixteen l D ct ad Z G y14 H.size b43 (some b39) p0 x42 y12.2 y44 hc43 hk43 hy44) (cwV 4 hts gX0_build_X6_predictSixteen rfl rfl rfl (by decide +kernel) ⟨Nat.le_of_ble_eq_true rfl, Nat.le_of_ble_eq_true rfl⟩) ⟨fun a U g mk q => by obtain ⟨q0, q1, qP, qK, qD, qZ, qN⟩ := q; exact ⟨q0, q1, qP, va_K.moved (u := U) (U := U.calling g mk a) (Vm.Alike.refl U.vm) qK, qD, sF.moved (u := U) (U := U.calling g mk a) (Vm.Alike.refl U.vm) qZ, nF.same rfl qN⟩, va_recv hK hP (ci := 6) (q0 := b43) rfl (wld_o ct ad G y14 hc43 hk43 (by decide)), fun U hU hW => ⟨rfl, by rw [hU], by rw [hU]; exact hP, va_K.moved hW.alike hK, hD.weaken (fun _ _ _ _ => trivial), by rw [hU]; exact ((hZ.kept hS.2.1).narrow hf9).moved hW.alike, hN.warm hW⟩⟩ rfl rfl hl.1 rfl (lv_room (Nat.le_of_ble_eq_true rfl)) dX0_build_215 ⟨(Nat.zero_le _), (Nat.zero_le _)⟩) hS (fun q _ h => hf9 q h) hf9 (fun u t H locs ht hvm hw hB hz1 hk1 hS => ?_)
            obtain ⟨hP, hK9, hD9⟩ := hB
            rw [ht] at hP
            have hD := hD9.weaken (fun _ q _ h => hf9 q.1 h)
            refine lv_aload_n hx hb dX0_build_218 rfl (lv_at hl 6 rfl) ?_
            refine va_get (D := D) (ci := 0) (v := va_re ad (y44.2 a 3)) (C := RX0) (T := TX0) (N := 21) hx hb hts (mus hf_X0) hown hK hP a (wld_o ct ad G y44 hc hk (by decide)) rfl 3 (by decide) (hts (.fieldLink RX0 36 "VideoSuite$Coder" "work" "LVideoSuite$Work;") (mu mw_817)) (fun _ h9 => h9) rfl dX0_build_219 ?_
            obtain ⟨b45, ho45, hc45, hk45, hF⟩ := dr_some hF
            refine W_st (st' := [.ref (ad b45)]) (by rw [va_some ho45]) ?_
            refine va_get (D := D) (ci := 9) (v := va_re ad (y44.2 b45 6)) (C := RX9) (T := TX9) (N := 20) hx hb hts (mus hf_X9) hown hK hP b45 (wld_o ct ad G y44 hc45 hk45 (by decide)) rfl 6 (by decide) (hts (.fieldLink RX0 216 "VideoSuite$Work" "info" "[I") (mu mw_445)) (fun _ h9 => h9) rfl dX0_build_222 ?_
            refine lv_iload_n hx hb dX0_build_225 rfl (lv_at hl 5 rfl) ?_
            refine lv_iconst (v := (3 : Int32)) hx hb dX0_build_226 (by decide) ?_
            refine lv_iadd hx hb dX0_build_227 ?_
            obtain ⟨x46, ex46, hF⟩ := ltt_some hF
            refine lv_topi (fun zx46 ezx46 => ?_)
            obtain rfl : x46 = zx46 := ex46.trans ezx46.symm
            refine lv_aload_n hx hb dX0_build_228 rfl (lv_at hl 6 rfl) ?_
            refine va_get (D := D) (ci := 0) (v := va_re ad (y44.2 a 4)) (C := RX0) (T := TX0) (N := 21) hx hb hts (mus hf_X0) hown hK hP a (wld_o ct ad G y44 hc hk (by decide)) rfl 4 (by decide) (hts (.fieldLink RX0 43 "VideoSuite$Coder" "samples" "LVideoSuite$Samples;") (mu mw_818)) (fun _ h9 => h9) rfl dX0_build_229 ?_
            refine lv_aload_n hx hb dX0_build_232 rfl (lv_at hl 6 rfl) ?_
            refine va_get (D := D) (ci := 0) (v := va_re ad (y44.2 a 3)) (C := RX0) (T := TX0) (N := 21) hx hb hts (mus hf_X0) hown hK hP a (wld_o ct ad G y44 hc hk (by decide)) rfl 3 (by decide) (hts (.fieldLink RX0 36 "VideoSuite$Coder" "work" "LVideoSuite$Work;") (mu mw_817)) (fun _ h9 => h9) rfl dX0_build_233 ?_
            refine lv_aload_n hx hb dX0_build_236 rfl (lv_at hl 6 rfl) ?_
            refine va_get (D := D) (ci := 0) (v := va_re ad (y44.2 a 9)) (C := RX0) (T := TX0) (N := 21) hx hb hts (mus hf_X0) hown hK hP a (wld_o ct ad G y44 hc hk (by decide)) rfl 9 (by decide) (hts (.fieldLink RX0 69 "VideoSuite$Coder" "source" "[[I") (mu mw_823)) (fun _ h9 => h9) rfl dX0_build_237 ?_
            refine lv_iconst (v := (0 : Int32)) hx hb dX0_build_240 (by decide) ?_
            obtain ⟨b47, ho47, hc47, hk47, hF⟩ := dr_some hF
            refine W_st (st' := [.int (0 : Int32), .ref (ad b47), va_re ad (y44.2 a 3), va_re ad (y44.2 a 4), .int x46, va_re ad (y44.2 b45 6)]) (by rw [va_some ho47]) ?_
            obtain ⟨hvc, hF⟩ := chk_some hF
            refine ld_g hx hb hK hP hc47 hk47 hvc dX0_build_241 ?_
            refine lv_iload_n hx hb dX0_build_242 rfl (lv_at hl 7 rfl) ?_
            refine lv_iload_n hx hb dX0_build_243 rfl (lv_at hl 8 rfl) ?_
            obtain ⟨b48, ho48, hc48, hk48, hF⟩ := dr_some hF
            refine W_st (st' := [.int p1, .int p0, va_re ad (y44.2 b47 ((0 : Int32)).toNatClampNeg), va_re ad (y44.2 a 3), .ref (ad b48), .int x46, va_re ad (y44.2 b45 6)]) (by rw [va_some ho48]) ?_
            obtain ⟨y49, hy49, hF⟩ := bnd_some hF
            have hf9 := wA_in hD hA9 hS
            refine va_calli (va_runV (As := [va_re ad (y44.2 a 3), va_re ad (y44.2 b47 ((0 : Int32)).toNatClampNeg), .int p0, .int p1]) (rest := [.int x46, va_re ad (y44.2 b45 6)]) ⟨hx, hb, hml, hown, hts⟩ (kX6_measureSixteen l D ct ad Z G y44 H.size b48 ((y44.2 a 3)) ((y44.2 b47 ((0 : Int32)).toNatClampNeg)) p0 p1 y49 hc48 hk48 hy49) (cwV 4 hts gX0_build_X6_measureSixteen rfl rfl rfl (by decide +kernel) ⟨Nat.le_of_ble_eq_true rfl, Nat.le_of_ble_eq_true rfl⟩) ⟨fun a U g mk q => by obtain ⟨q0, q1, qP, qK, qD, qZ, qN⟩ := q; exact ⟨q0, q1, qP, va_K.moved (u := U) (U := U.calling g mk a) (Vm.Alike.refl U.vm) qK, qD, sF.moved (u := U) (U := U.calling g mk a) (Vm.Alike.refl U.vm) qZ, nF.same rfl qN⟩, va_recv hK hP (ci := 6) (q0 := b48) rfl (wld_o ct ad G y44 hc48 hk48 (by decide)), fun U hU hW => ⟨rfl, by rw [hU], by rw [hU]; exact hP, va_K.moved hW.alike hK, hD.weaken (fun _ _ _ _ => trivial), by rw [hU]; exact ((hZ.kept hS.2.1).narrow hf9).moved hW.alike, hN.warm hW⟩⟩ rfl rfl hl.1 rfl (lv_room (by simp only [List.map, va_re_cat]; exact Nat.le_of_ble_eq_true rfl)) dX0_build_244 ⟨(Nat.zero_le _), (Nat.zero_le _)⟩) hS (fun q _ h => hf9 q h) hf9 (fun r u t H locs ht hvm hw hB hz1 hk1 hS => ?_)
            obtain ⟨hP, hK9, hD9⟩ := hB
            rw [ht] at hP
            try dsimp only at hw
            subst hw
            have hD := hD9.weaken (fun _ q _ h => hf9 q.1 h)
            obtain ⟨y50, hy50, hF⟩ := bnd_some hF
            have J50 : ∀ (H : Heap) (locs : List Loc) (ls : Array Slot), va_P D classes (wld ct ad G y49.1) H → va_D A (wld ct ad G y49.1) → va_S A s.heap H locs → lv_has ls 9 [(8, .int y12.2), (7, .int y10), (6, .int y9), (5, .int y8.2), (4, .int x5), (3, .int x1), (0, .ref (ad a)), (1, .int p0), (2, .int p1)] → W p l e (headSpec wuX0_build ({ frames := 5, cells := 0, slots := 0, locals := 140 })).room s m ([.ref (ad a), .int p0, .int p1] : List Value).toArray below meth c H locs 0 0 (MQ below (va_Qv (fun (_ : Unit) => True) (fun _ t => kE D ct ad G A y t) A) ([.ref (ad a), .int p0, .int p1] : List Value).toArray s 0 0 A) (F0 m 256 ls [.int y50, .int x46, va_re ad (y44.2 b45 6)]) := by
              intro H locs ls hP hD hS hl
              obtain ⟨b51, ho51, hc51, hk51, hF⟩ := dr_some hF
              refine W_st (st' := [.int y50, .int x46, .ref (ad b51)]) (by rw [va_some ho51]) ?_
              obtain ⟨hvc, hF⟩ := chk_some hF
              refine va_iast hx hb hK hP hD hS b51 1 (wld_i ct ad G y49.1 hc51 hk51) rfl hvc dX0_build_256 (fun H locs hP hD hS => ?_)
              obtain ⟨M52, eM52, hF⟩ := ltt_some hF
              rw [set_i ct ad G y49.1 hc51 hk51, ← eM52] at hP hD
              refine lv_aload_n hx hb dX0_build_257 rfl (lv_at hl 6 rfl) ?_
              refine va_get (D := D) (ci := 0) (v := va_re ad (M52.2 a 4)) (C := RX0) (T := TX0) (N := 21) hx hb hts (mus hf_X0) hown hK hP a (wld_o ct ad G M52 hc hk (by decide)) rfl 4 (by decide) (hts (.fieldLink RX0 43 "VideoSuite$Coder" "samples" "LVideoSuite$Samples;") (mu mw_818)) (fun _ h9 => h9) rfl dX0_build_258 ?_
              refine lv_aload_n hx hb dX0_build_261 rfl (lv_at hl 6 rfl) ?_
              refine va_get (D := D) (ci := 0) (v := va_re ad (M52.2 a 3)) (C := RX0) (T := TX0) (N := 21) hx hb hts (mus hf_X0) hown hK hP a (wld_o ct ad G M52 hc hk (by decide)) rfl 3 (by decide) (hts (.fieldLink RX0 36 "VideoSuite$Coder" "work" "LVideoSuite$Work;") (mu mw_817)) (fun _ h9 => h9) rfl dX0_build_262 ?_
              refine lv_iload_n hx hb dX0_build_265 rfl (lv_at hl 7 rfl) ?_
              refine lv_iload_n hx hb dX0_build_266 rfl (lv_at hl 8 rfl) ?_
              obtain ⟨b53, ho53, hc53, hk53, hF⟩ := dr_some hF
              refine W_st (st' := [.int p1, .int p0, va_re ad (M52.2 a 3), .ref (ad b53)]) (by rw [va_some ho53]) ?_
              obtain ⟨y54, hy54, hF⟩ := bnd_some hF
              have hf9 := wA_in hD hA9 hS
              refine va_callv (va_runV (As := [va_re ad (M52.2 a 3), .int p0, .int p1]) (rest := []) ⟨hx, hb, hml, hown, hts⟩ (kX6_fillSixteen l D ct ad Z G M52 H.size b53 ((M52.2 a 3)) p0 p1 y54 hc53 hk53 hy54) (cwV 3 hts gX0_build_X6_fillSixteen rfl rfl rfl (by decide +kernel) ⟨Nat.le_of_ble_eq_true rfl, Nat.le_of_ble_eq_true rfl⟩) ⟨fun a U g mk q => by obtain ⟨q0, q1, qP, qK, qD, qZ, qN⟩ := q; exact ⟨q0, q1, qP, va_K.moved (u := U) (U := U.calling g mk a) (Vm.Alike.refl U.vm) qK, qD, sF.moved (u := U) (U := U.calling g mk a) (Vm.Alike.refl U.vm) qZ, nF.same rfl qN⟩, va_recv hK hP (ci := 6) (q0 := b53) rfl (wld_o ct ad G M52 hc53 hk53 (by decide)), fun U hU hW => ⟨rfl, by rw [hU], by rw [hU]; exact hP, va_K.moved hW.alike hK, hD.weaken (fun _ _ _ _ => trivial), by rw [hU]; exact ((hZ.kept hS.2.1).narrow hf9).moved hW.alike, hN.warm hW⟩⟩ rfl rfl hl.1 rfl (lv_room (Nat.le_of_ble_eq_true rfl)) dX0_build_267 ⟨(Nat.zero_le _), (Nat.zero_le _)⟩) hS (fun q _ h => hf9 q h) hf9 (fun u t H locs ht hvm hw hB hz1 hk1 hS => ?_)
              obtain ⟨hP, hK9, hD9⟩ := hB
              rw [ht] at hP
              have hD := hD9.weaken (fun _ q _ h => hf9 q.1 h)
              refine lv_goto (tgt := 283) hx hb dX0_build_270 (by decide) ?_
              obtain rfl := Option.some.inj hF
              exact J15 _ _ _ hP hD hS (lv_sub hl [0, 1, 2, 3, 4, 5, 6, 7, 8] rfl)
            clear hF
            have hF := hy50
            clear hy50
            refine lv_if_eq (tgt := 255) hx hb dX0_build_247 (by decide) (fun c55 => ?_) (fun c55 => ?_)
            · rw [if_pos c55] at hF
              refine lv_iconst (v := (0 : Int32)) hx hb dX0_build_255 (by decide) ?_
              obtain rfl := Option.some.inj hF
              exact J50 _ _ _ hP hD hS (lv_sub hl [0, 1, 2, 3, 4, 5, 6, 7, 8] rfl)
            · rw [if_neg c55] at hF
              refine lv_bipush (v := (15 : Int32)) hx hb dX0_build_250 (by decide) ?_
              refine lv_goto (tgt := 256) hx hb dX0_build_252 (by decide) ?_
              obtain rfl := Option.some.inj hF
              exact J50 _ _ _ hP hD hS (lv_sub hl [0, 1, 2, 3, 4, 5, 6, 7, 8] rfl)
        clear hF
        have hF := hy14
        clear hy14
        refine lv_if_eq (tgt := 174) hx hb dX0_build_143 (by decide) (fun c56 => ?_) (fun c56 => ?_)
        · rw [if_pos c56] at hF
          refine lv_aload_n hx hb dX0_build_174 rfl (lv_at hl 6 rfl) ?_
          refine va_get (D := D) (ci := 0) (v := va_re ad (y12.1.2 a 4)) (C := RX0) (T := TX0) (N := 21) hx hb hts (mus hf_X0) hown hK hP a (wld_o ct ad G y12.1 hc hk (by decide)) rfl 4 (by decide) (hts (.fieldLink RX0 43 "VideoSuite$Coder" "samples" "LVideoSuite$Samples;") (mu mw_818)) (fun _ h9 => h9) rfl dX0_build_175 ?_
          refine lv_aload_n hx hb dX0_build_178 rfl (lv_at hl 6 rfl) ?_
          refine va_get (D := D) (ci := 0) (v := va_re ad (y12.1.2 a 3)) (C := RX0) (T := TX0) (N := 21) hx hb hts (mus hf_X0) hown hK hP a (wld_o ct ad G y12.1 hc hk (by decide)) rfl 3 (by decide) (hts (.fieldLink RX0 36 "VideoSuite$Coder" "work" "LVideoSuite$Work;") (mu mw_817)) (fun _ h9 => h9) rfl dX0_build_179 ?_
          refine lv_iload_n hx hb dX0_build_182 rfl (lv_at hl 7 rfl) ?_
          obtain ⟨b57, ho57, hc57, hk57, hF⟩ := dr_some hF
          refine W_st (st' := [.int p0, va_re ad (y12.1.2 a 3), .ref (ad b57)]) (by rw [va_some ho57]) ?_
          obtain ⟨y58, hy58, hF⟩ := bnd_some hF
          have hf9 := wA_in hD hA9 hS
          refine va_callv (va_runV (As := [va_re ad (y12.1.2 a 3), .int p0]) (rest := []) ⟨hx, hb, hml, hown, hts⟩ (kX6_predictByLists l D ct ad Z G y12.1 H.size b57 ((y12.1.2 a 3)) p0 y58 hc57 hk57 hy58) (cwV 2 hts gX0_build_X6_predictByLists rfl rfl rfl (by decide +kernel) ⟨Nat.le_of_ble_eq_true rfl, Nat.le_of_ble_eq_true rfl⟩) ⟨fun a U g mk q => by obtain ⟨q0, q1, qP, qK, qD, qZ, qN⟩ := q; exact ⟨q0, q1, qP, va_K.moved (u := U) (U := U.calling g mk a) (Vm.Alike.refl U.vm) qK, qD, sF.moved (u := U) (U := U.calling g mk a) (Vm.Alike.refl U.vm) qZ, nF.same rfl qN⟩, va_recv hK hP (ci := 6) (q0 := b57) rfl (wld_o ct ad G y12.1 hc57 hk57 (by decide)), fun U hU hW => ⟨rfl, by rw [hU], by rw [hU]; exact hP, va_K.moved hW.alike hK, hD.weaken (fun _ _ _ _ => trivial), by rw [hU]; exact ((hZ.kept hS.2.1).narrow hf9).moved hW.alike, hN.warm hW⟩⟩ rfl rfl hl.1 rfl (lv_room (Nat.le_of_ble_eq_true rfl)) dX0_build_183 ⟨(Nat.zero_le _), (Nat.zero_le _)⟩) hS (fun q _ h => hf9 q h) hf9 (fun u t H locs ht hvm hw hB hz1 hk1 hS => ?_)
          obtain ⟨hP, hK9, hD9⟩ := hB
          rw [ht] at hP
          have hD := hD9.weaken (fun _ q _ h => hf9 q.1 h)
          obtain rfl := Option.some.inj hF
          exact J14 _ _ _ hP hD hS (lv_sub hl [0, 1, 2, 3, 4, 5, 6, 7, 8] rfl)
        · rw [if_neg c56] at hF
          refine lv_aload_n hx hb dX0_build_146 rfl (lv_at hl 6 rfl) ?_
          refine va_get (D := D) (ci := 0) (v := va_re ad (y12.1.2 a 4)) (C := RX0) (T := TX0) (N := 21) hx hb hts (mus hf_X0) hown hK hP a (wld_o ct ad G y12.1 hc hk (by decide)) rfl 4 (by decide) (hts (.fieldLink RX0 43 "VideoSuite$Coder" "samples" "LVideoSuite$Samples;") (mu mw_818)) (fun _ h9 => h9) rfl dX0_build_147 ?_
          refine lv_aload_n hx hb dX0_build_150 rfl (lv_at hl 6 rfl) ?_
          refine va_get (D := D) (ci := 0) (v := va_re ad (y12.1.2 a 3)) (C := RX0) (T := TX0) (N := 21) hx hb hts (mus hf_X0) hown hK hP a (wld_o ct ad G y12.1 hc hk (by decide)) rfl 3 (by decide) (hts (.fieldLink RX0 36 "VideoSuite$Coder" "work" "LVideoSuite$Work;") (mu mw_817)) (fun _ h9 => h9) rfl dX0_build_151 ?_
          refine lv_iload_n hx hb dX0_build_154 rfl (lv_at hl 7 rfl) ?_
          refine lv_aload_n hx hb dX0_build_155 rfl (lv_at hl 6 rfl) ?_
          refine va_get (D := D) (ci := 0) (v := va_re ad (y12.1.2 a 3)) (C := RX0) (T := TX0) (N := 21) hx hb hts (mus hf_X0) hown hK hP a (wld_o ct ad G y12.1 hc hk (by decide)) rfl 3 (by decide) (hts (.fieldLink RX0 36 "VideoSuite$Coder" "work" "LVideoSuite$Work;") (mu mw_817)) (fun _ h9 => h9) rfl dX0_build_156 ?_
          obtain ⟨b59, ho59, hc59, hk59, hF⟩ := dr_some hF
          refine W_st (st' := [.ref (ad b59), .int p0, .ref (ad b59), va_re ad (y12.1.2 a 4)]) (by rw [va_some ho59]) ?_
          refine va_get (D := D) (ci := 9) (v := va_re ad (y12.1.2 b59 6)) (C := RX9) (T := TX9) (N := 20) hx hb hts (mus hf_X9) hown hK hP b59 (wld_o ct ad G y12.1 hc59 hk59 (by decide)) rfl 6 (by decide) (hts (.fieldLink RX0 216 "VideoSuite$Work" "info" "[I") (mu mw_445)) (fun _ h9 => h9) rfl dX0_build_159 ?_
          refine lv_iload_n hx hb dX0_build_162 rfl (lv_at hl 5 rfl) ?_
          refine lv_iconst (v := (5 : Int32)) hx hb dX0_build_163 (by decide) ?_
          refine lv_iadd hx hb dX0_build_164 ?_
          obtain ⟨x60, ex60, hF⟩ := ltt_some hF
          refine lv_topi (fun zx60 ezx60 => ?_)
          obtain rfl : x60 = zx60 := ex60.trans ezx60.symm
          obtain ⟨b61, ho61, hc61, hk61, hF⟩ := dr_some hF
          refine W_st (st' := [.int x60, .ref (ad b61), .int p0, .ref (ad b59), va_re ad (y12.1.2 a 4)]) (by rw [va_some ho61]) ?_
          obtain ⟨hvc, hF⟩ := chk_some hF
          refine va_iald hx hb hK hP b61 1 (wld_i ct ad G y12.1 hc61 hk61) rfl hvc dX0_build_165 ?_
          obtain ⟨x62, ex62, hF⟩ := ltt_some hF
          refine lv_topi (fun zx62 ezx62 => ?_)
          obtain rfl : x62 = zx62 := ex62.trans ezx62.symm
          refine lv_iload hx hb dX0_build_166 (lv_at hl 0 rfl) ?_
          obtain ⟨b63, ho63, hc63, hk63, hF⟩ := dr_some hF
          refine W_st (st' := [.int y12.2, .int x62, .int p0, .ref (ad b59), .ref (ad b63)]) (by rw [va_some ho63]) ?_
          obtain ⟨y64, hy64, hF⟩ := bnd_some hF
          have hf9 := wA_in hD hA9 hS
          refine va_callv (va_runV (As := [.ref (ad b59), .int p0, .int x62, .int y12.2]) (rest := []) ⟨hx, hb, hml, hown, hts⟩ (kX6_predictColours_ l D ct ad Z G y12.1 H.size b63 (some b59) p0 x62 y12.2 y64 hc63 hk63 hy64) (cwV 4 hts gX0_build_X6_predictColours_ rfl rfl rfl (by decide +kernel) ⟨Nat.le_of_ble_eq_true rfl, Nat.le_of_ble_eq_true rfl⟩) ⟨fun a U g mk q => by obtain ⟨q0, q1, qP, qK, qD, qZ, qN⟩ := q; exact ⟨q0, q1, qP, va_K.moved (u := U) (U := U.calling g mk a) (Vm.Alike.refl U.vm) qK, qD, sF.moved (u := U) (U := U.calling g mk a) (Vm.Alike.refl U.vm) qZ, nF.same rfl qN⟩, va_recv hK hP (ci := 6) (q0 := b63) rfl (wld_o ct ad G y12.1 hc63 hk63 (by decide)), fun U hU hW => ⟨rfl, by rw [hU], by rw [hU]; exact hP, va_K.moved hW.alike hK, hD.weaken (fun _ _ _ _ => trivial), by rw [hU]; exact ((hZ.kept hS.2.1).narrow hf9).moved hW.alike, hN.warm hW⟩⟩ rfl rfl hl.1 rfl (lv_room (Nat.le_of_ble_eq_true rfl)) dX0_build_168 ⟨(Nat.zero_le _), (Nat.zero_le _)⟩) hS (fun q _ h => hf9 q h) hf9 (fun u t H locs ht hvm hw hB hz1 hk1 hS => ?_)
          obtain ⟨hP, hK9, hD9⟩ := hB
          rw [ht] at hP
          have hD := hD9.weaken (fun _ q _ h => hf9 q.1 h)
          refine lv_goto (tgt := 186) hx hb dX0_build_171 (by decide) ?_
          obtain rfl := Option.some.inj hF
          exact J14 _ _ _ hP hD hS (lv_sub hl [0, 1, 2, 3, 4, 5, 6, 7, 8] rfl)
      · rw [if_pos c13] at hF
        refine lv_aload_n hx hb dX0_build_89 rfl (lv_at hl 6 rfl) ?_
        refine va_get (D := D) (ci := 0) (v := va_re ad (y12.1.2 a 4)) (C := RX0) (T := TX0) (N := 21) hx hb hts (mus hf_X0) hown hK hP a (wld_o ct ad G y12.1 hc hk (by decide)) rfl 4 (by decide) (hts (.fieldLink RX0 43 "VideoSuite$Coder" "samples" "LVideoSuite$Samples;") (mu mw_818)) (fun _ h9 => h9) rfl dX0_build_90 ?_
        refine lv_aload_n hx hb dX0_build_93 rfl (lv_at hl 6 rfl) ?_
        refine va_get (D := D) (ci := 0) (v := va_re ad (y12.1.2 a 3)) (C := RX0) (T := TX0) (N := 21) hx hb hts (mus hf_X0) hown hK hP a (wld_o ct ad G y12.1 hc hk (by decide)) rfl 3 (by decide) (hts (.fieldLink RX0 36 "VideoSuite$Coder" "work" "LVideoSuite$Work;") (mu mw_817)) (fun _ h9 => h9) rfl dX0_build_94 ?_
        refine lv_aload_n hx hb dX0_build_97 rfl (lv_at hl 6 rfl) ?_
        refine va_get (D := D) (ci := 0) (v := va_re ad (y12.1.2 a 9)) (C := RX0) (T := TX0) (N := 21) hx hb hts (mus hf_X0) hown hK hP a (wld_o ct ad G y12.1 hc hk (by decide)) rfl 9 (by decide) (hts (.fieldLink RX0 69 "VideoSuite$Coder" "source" "[[I") (mu mw_823)) (fun _ h9 => h9) rfl dX0_build_98 ?_
        refine lv_iload_n hx hb dX0_build_101 rfl (lv_at hl 7 rfl) ?_
        obtain ⟨b65, ho65, hc65, hk65, hF⟩ := dr_some hF
        refine W_st (st' := [.int p0, va_re ad (y12.1.2 a 9), va_re ad (y12.1.2 a 3), .ref (ad b65)]) (by rw [va_some ho65]) ?_
        obtain ⟨y66, hy66, hF⟩ := bnd_some hF
        have hf9 := wA_in hD hA9 hS
        refine va_callv (va_runV (As := [va_re ad (y12.1.2 a 3), va_re ad (y12.1.2 a 9), .int p0]) (rest := []) ⟨hx, hb, hml, hown, hts⟩ (kX6_takeRaw l D ct ad Z G y12.1 H.size b65 ((y12.1.2 a 3)) ((y12.1.2 a 9)) p0 y66 hc65 hk65 hy66) (cwV 3 hts gX0_build_X6_takeRaw rfl rfl rfl (by decide +kernel) ⟨Nat.le_of_ble_eq_true rfl, Nat.le_of_ble_eq_true rfl⟩) ⟨fun a U g mk q => by obtain ⟨q0, q1, qP, qK, qD, qZ, qN⟩ := q; exact ⟨q0, q1, qP, va_K.moved (u := U) (U := U.calling g mk a) (Vm.Alike.refl U.vm) qK, qD, sF.moved (u := U) (U := U.calling g mk a) (Vm.Alike.refl U.vm) qZ, nF.same rfl qN⟩, va_recv hK hP (ci := 6) (q0 := b65) rfl (wld_o ct ad G y12.1 hc65 hk65 (by decide)), fun U hU hW => ⟨rfl, by rw [hU], by rw [hU]; exact hP, va_K.moved hW.alike hK, hD.weaken (fun _ _ _ _ => trivial), by rw [hU]; exact ((hZ.kept hS.2.1).narrow hf9).moved hW.alike, hN.warm hW⟩⟩ rfl rfl hl.1 rfl (lv_room (Nat.le_of_ble_eq_true rfl)) dX0_build_102 ⟨(Nat.zero_le _), (Nat.zero_le _)⟩) hS (fun q _ h => hf9 q h) hf9 (fun u t H locs ht hvm hw hB hz1 hk1 hS => ?_)
        obtain ⟨hP, hK9, hD9⟩ := hB
        rw [ht] at hP
        have hD := hD9.weaken (fun _ q _ h => hf9 q.1 h)
        refine lv_aload_n hx hb dX0_build_105 rfl (lv_at hl 6 rfl) ?_
        refine va_get (D := D) (ci := 0) (v := va_re ad (y66.2 a 4)) (C := RX0) (T := TX0) (N := 21) hx hb hts (mus hf_X0) hown hK hP a (wld_o ct ad G y66 hc hk (by decide)) rfl 4 (by decide) (hts (.fieldLink RX0 43 "VideoSuite$Coder" "samples" "LVideoSuite$Samples;") (mu mw_818)) (fun _ h9 => h9) rfl dX0_build_106 ?_
        refine lv_aload_n hx hb dX0_build_109 rfl (lv_at hl 6 rfl) ?_
        refine va_get (D := D) (ci := 0) (v := va_re ad (y66.2 a 3)) (C := RX0) (T := TX0) (N := 21) hx hb hts (mus hf_X0) hown hK hP a (wld_o ct ad G y66 hc hk (by decide)) rfl 3 (by decide) (hts (.fieldLink RX0 36 "VideoSuite$Coder" "work" "LVideoSuite$Work;") (mu mw_817)) (fun _ h9 => h9) rfl dX0_build_110 ?_
        refine lv_iload_n hx hb dX0_build_113 rfl (lv_at hl 7 rfl) ?_
        obtain ⟨b67, ho67, hc67, hk67, hF⟩ := dr_some hF
        refine W_st (st' := [.int p0, va_re ad (y66.2 a 3), .ref (ad b67)]) (by rw [va_some ho67]) ?_
        obtain ⟨y68, hy68, hF⟩ := bnd_some hF
        have hf9 := wA_in hD hA9 hS
        refine va_callv (va_runV (As := [va_re ad (y66.2 a 3), .int p0]) (rest := []) ⟨hx, hb, hml, hown, hts⟩ (kX6_fillRaw l D ct ad Z G y66 H.size b67 ((y66.2 a 3)) p0 y68 hc67 hk67 hy68) (cwV 2 hts gX0_build_X6_fillRaw rfl rfl rfl (by decide +kernel) ⟨Nat.le_of_ble_eq_true rfl, Nat.le_of_ble_eq_true rfl⟩) ⟨fun a U g mk q => by obtain ⟨q0, q1, qP, qK, qD, qZ, qN⟩ := q; exact ⟨q0, q1, qP, va_K.moved (u := U) (U := U.calling g mk a) (Vm.Alike.refl U.vm) qK, qD, sF.moved (u := U) (U := U.calling g mk a) (Vm.Alike.refl U.vm) qZ, nF.same rfl qN⟩, va_recv hK hP (ci := 6) (q0 := b67) rfl (wld_o ct ad G y66 hc67 hk67 (by decide)), fun U hU hW => ⟨rfl, by rw [hU], by rw [hU]; exact hP, va_K.moved hW.alike hK, hD.weaken (fun _ _ _ _ => trivial), by rw [hU]; exact ((hZ.kept hS.2.1).narrow hf9).moved hW.alike, hN.warm hW⟩⟩ rfl rfl hl.1 rfl (lv_room (Nat.le_of_ble_eq_true rfl)) dX0_build_114 ⟨(Nat.zero_le _), (Nat.zero_le _)⟩) hS (fun q _ h => hf9 q h) hf9 (fun u t H locs ht hvm hw hB hz1 hk1 hS => ?_)
        obtain ⟨hP, hK9, hD9⟩ := hB
        rw [ht] at hP
        have hD := hD9.weaken (fun _ q _ h => hf9 q.1 h)
        refine lv_aload_n hx hb dX0_build_117 rfl (lv_at hl 6 rfl) ?_
        refine va_get (D := D) (ci := 0) (v := va_re ad (y68.2 a 3)) (C := RX0) (T := TX0) (N := 21) hx hb hts (mus hf_X0) hown hK hP a (wld_o ct ad G y68 hc hk (by decide)) rfl 3 (by decide) (hts (.fieldLink RX0 36 "VideoSuite$Coder" "work" "LVideoSuite$Work;") (mu mw_817)) (fun _ h9 => h9) rfl dX0_build_118 ?_
        obtain ⟨b69, ho69, hc69, hk69, hF⟩ := dr_some hF
        refine W_st (st' := [.ref (ad b69)]) (by rw [va_some ho69]) ?_
        refine va_get (D := D) (ci := 9) (v := va_re ad (y68.2 b69 8)) (C := RX9) (T := TX9) (N := 20) hx hb hts (mus hf_X9) hown hK hP b69 (wld_o ct ad G y68 hc69 hk69 (by decide)) rfl 8 (by decide) (hts (.fieldLink RX0 532 "VideoSuite$Work" "total" "[I") (mu mw_453)) (fun _ h9 => h9) rfl dX0_build_121 ?_
        refine lv_bipush (v := (24 : Int32)) hx hb dX0_build_124 (by decide) ?_
        refine lv_iload_n hx hb dX0_build_126 rfl (lv_at hl 7 rfl) ?_
        refine lv_imul hx hb dX0_build_127 ?_
        obtain ⟨x70, ex70, hF⟩ := ltt_some hF
        refine lv_topi (fun zx70 ezx70 => ?_)
        obtain rfl : x70 = zx70 := ex70.trans ezx70.symm
        refine lv_bipush (v := (24 : Int32)) hx hb dX0_build_128 (by decide) ?_
        refine lv_iload_n hx hb dX0_build_130 rfl (lv_at hl 7 rfl) ?_
        refine lv_imul hx hb dX0_build_131 ?_
        obtain ⟨x71, ex71, hF⟩ := ltt_some hF
        refine lv_topi (fun zx71 ezx71 => ?_)
        obtain rfl : x71 = zx71 := ex71.trans ezx71.symm
        refine lv_bipush (v := (24 : Int32)) hx hb dX0_build_132 (by decide) ?_
        refine lv_iadd hx hb dX0_build_134 ?_
        obtain ⟨x72, ex72, hF⟩ := ltt_some hF
        refine lv_topi (fun zx72 ezx72 => ?_)
        obtain rfl : x72 = zx72 := ex72.trans ezx72.symm
        refine lv_bipush (v := (16 : Int32)) hx hb dX0_build_135 (by decide) ?_
        obtain ⟨y73, hy73, hF⟩ := bnd_some hF
        have hf9 := wA_in hD hA9 hS
        refine va_callv (va_runS (As := [va_re ad (y68.2 b69 8), .int x70, .int x72, .int (16 : Int32)]) (rest := []) ⟨hx, hb, hml, hown, hts⟩ (kJ7_fill_fda19 l D ct ad Z G y68 H.size ((y68.2 b69 8)) x70 x72 ((16 : Int32)) y73 hy73) (va_cwS 4 hts gX0_build_J7_fill_fda19 rfl rfl rfl (by decide +kernel) ⟨Nat.le_of_ble_eq_true rfl, Nat.le_of_ble_eq_true rfl⟩) ⟨fun a U g mk q => by obtain ⟨q0, q1, qP, qK, qD, qZ, qN⟩ := q; exact ⟨q0, q1, qP, va_K.moved (u := U) (U := U.calling g mk a) (Vm.Alike.refl U.vm) qK, qD, sF.moved (u := U) (U := U.calling g mk a) (Vm.Alike.refl U.vm) qZ, nF.same rfl qN⟩, fun U hU hW => ⟨rfl, by rw [hU], by rw [hU]; exact hP, va_K.moved hW.alike hK, hD.weaken (fun _ _ _ _ => trivial), by rw [hU]; exact ((hZ.kept hS.2.1).narrow hf9).moved hW.alike, hN.warm hW⟩⟩ rfl rfl hl.1 rfl (lv_room (Nat.le_of_ble_eq_true rfl)) dX0_build_137 ⟨(Nat.zero_le _), (Nat.zero_le _)⟩) hS (fun q _ h => hf9 q h) hf9 (fun u t H locs ht hvm hw hB hz1 hk1 hS => ?_)
        obtain ⟨hP, hK9, hD9⟩ := hB
        rw [ht] at hP
        have hD := hD9.weaken (fun _ q _ h => hf9 q.1 h)
        obtain rfl := Option.some.inj hF
        exact W.vret hx hb hr (fun t ht hW => ⟨⟨(), rfl, trivial, ⟨by rw [ht]; exact hP, va_K.moved hW.alike hK, hD⟩⟩, hS.F ht⟩) hS.2.2 dX0_build_140
    clear hF
    have hF := hy10
    clear hy10
    refine lv_if_ne (tgt := 70) hx hb dX0_build_49 (by decide) (fun c74 => ?_) (fun c74 => ?_)
    · rw [if_neg c74] at hF
      refine lv_iconst (v := (0 : Int32)) hx hb dX0_build_70 (by decide) ?_
      obtain rfl := Option.some.inj hF
      exact J10 _ _ _ hP hD hS (lv_sub hl [0, 1, 2, 3, 4, 5, 6] rfl)
    · rw [if_pos c74] at hF
      refine lv_aload_n hx hb dX0_build_52 rfl (lv_at hl 4 rfl) ?_
      refine va_get (D := D) (ci := 0) (v := va_re ad (y8.1.2 a 3)) (C := RX0) (T := TX0) (N := 21) hx hb hts (mus hf_X0) hown hK hP a (wld_o ct ad G y8.1 hc hk (by decide)) rfl 3 (by decide) (hts (.fieldLink RX0 36 "VideoSuite$Coder" "work" "LVideoSuite$Work;") (mu mw_817)) (fun _ h9 => h9) rfl dX0_build_53 ?_
      obtain ⟨b75, ho75, hc75, hk75, hF⟩ := dr_some hF
      refine W_st (st' := [.ref (ad b75)]) (by rw [va_some ho75]) ?_
      refine va_get (D := D) (ci := 9) (v := va_re ad (y8.1.2 b75 6)) (C := RX9) (T := TX9) (N := 20) hx hb hts (mus hf_X9) hown hK hP b75 (wld_o ct ad G y8.1 hc75 hk75 (by decide)) rfl 6 (by decide) (hts (.fieldLink RX0 216 "VideoSuite$Work" "info" "[I") (mu mw_445)) (fun _ h9 => h9) rfl dX0_build_56 ?_
      refine lv_iload_n hx hb dX0_build_59 rfl (lv_at hl 3 rfl) ?_
      refine lv_iconst (v := (1 : Int32)) hx hb dX0_build_60 (by decide) ?_
      refine lv_iadd hx hb dX0_build_61 ?_
      obtain ⟨x76, ex76, hF⟩ := ltt_some hF
      refine lv_topi (fun zx76 ezx76 => ?_)
      obtain rfl : x76 = zx76 := ex76.trans ezx76.symm
      obtain ⟨b77, ho77, hc77, hk77, hF⟩ := dr_some hF
      refine W_st (st' := [.int x76, .ref (ad b77)]) (by rw [va_some ho77]) ?_
      obtain ⟨hvc, hF⟩ := chk_some hF
      refine va_iald hx hb hK hP b77 1 (wld_i ct ad G y8.1 hc77 hk77) rfl hvc dX0_build_62 ?_
      obtain ⟨x78, ex78, hF⟩ := ltt_some hF
      refine lv_topi (fun zx78 ezx78 => ?_)
      obtain rfl : x78 = zx78 := ex78.trans ezx78.symm
      obtain ⟨y79, hy79, hF⟩ := bnd_some hF
      have J79 : ∀ (H : Heap) (locs : List Loc) (ls : Array Slot), va_P D classes (wld ct ad G y8.1) H → va_D A (wld ct ad G y8.1) → va_S A s.heap H locs → lv_has ls 9 [(6, .int y9), (5, .int y8.2), (4, .int x5), (3, .int x1), (0, .ref (ad a)), (1, .int p0), (2, .int p1)] → W p l e (headSpec wuX0_build ({ frames := 5, cells := 0, slots := 0, locals := 140 })).room s m ([.ref (ad a), .int p0, .int p1] : List Value).toArray below meth c H locs 0 0 (MQ below (va_Qv (fun (_ : Unit) => True) (fun _ t => kE D ct ad G A y t) A) ([.ref (ad a), .int p0, .int p1] : List Value).toArray s 0 0 A) (F0 m 71 ls [.int y79]) := by
        intro H locs ls hP hD hS hl
        obtain rfl := Option.some.inj hF
        exact J10 _ _ _ hP hD hS (lv_sub hl [0, 1, 2, 3, 4, 5, 6] rfl)
      clear hF
      have hF := hy79
      clear hy79
      refine lv_if_ge (tgt := 70) hx hb dX0_build_63 (by decide) (fun c80 => ?_) (fun c80 => ?_)
      · rw [if_pos c80] at hF
        refine lv_iconst (v := (0 : Int32)) hx hb dX0_build_70 (by decide) ?_
        obtain rfl := Option.some.inj hF
        exact J79 _ _ _ hP hD hS (lv_sub hl [0, 1, 2, 3, 4, 5, 6] rfl)
      · rw [if_neg c80] at hF
        refine lv_iconst (v := (1 : Int32)) hx hb dX0_build_66 (by decide) ?_
        refine lv_goto (tgt := 71) hx hb dX0_build_67 (by decide) ?_
        obtain rfl := Option.some.inj hF
        exact J79 _ _ _ hP hD hS (lv_sub hl [0, 1, 2, 3, 4, 5, 6] rfl)
  clear hF
  have hF := hy9
  clear hy9
  refine lv_icmp_eq (tgt := 44) hx hb dX0_build_37 (by decide) (fun c81 => ?_) (fun c81 => ?_)
  · rw [if_pos c81] at hF
    refine lv_iconst (v := (0 : Int32)) hx hb dX0_build_44 (by decide) ?_
    obtain rfl := Option.some.inj hF
    exact J9 _ _ _ hP hD hS (lv_sub hl [0, 1, 2, 3, 4, 5] rfl)
  · rw [if_neg c81] at hF
    refine lv_iconst (v := (1 : Int32)) hx hb dX0_build_40 (by decide) ?_
    refine lv_goto (tgt := 45) hx hb dX0_build_41 (by decide) ?_
    obtain rfl := Option.some.inj hF
    exact J9 _ _ _ hP hD hS (lv_sub hl [0, 1, 2, 3, 4, 5] rfl)
set_option maxRecDepth 20000 in
theorem gX0_chooseByCosts_X9_sides : GoodIn wuX0_chooseByCosts (wsV RX0 353 RX9 yX9_sides wuX9_sides) := gu_V mw_2487 mw_1989 mw_1990 mw_171 mw_1991
set_option maxRecDepth 20000 in
set_option maxRecDepth 20000 in
theorem gX0_chooseByCosts_X0_costOfFour : GoodIn wuX0_chooseByCosts (wsV RX0 459 RX0 yX0_costOfFour wuX0_costOfFour) := gu_V mw_2574 mw_2576 mw_138 mw_175 mw_2577
set_option maxRecDepth 20000 in
set_option maxRecDepth 20000 in
theorem gX0_chooseByCosts_X0_offer : GoodIn wuX0_chooseByCosts (wsV RX0 439 RX0 yX0_offer wuX0_offer) := gu_V mw_2560 mw_2562 mw_135 mw_175 mw_2563
set_option maxRecDepth 20000 in
set_option maxRecDepth 20000 in
theorem gX0_chooseByCosts_X9_clearBlock : GoodIn wuX0_chooseByCosts (wsV RX0 462 RX9 yX9_clearBlock wuX9_clearBlock) := gu_V mw_2578 mw_1552 mw_1553 mw_171 mw_1554
set_option maxRecDepth 20000 in
set_option maxRecDepth 20000 in
theorem gX0_chooseByCosts_X0_chooseColours : GoodIn wuX0_chooseByCosts (wsV RX0 468 RX0 yX0_chooseColours wuX0_chooseColours) := gu_V mw_2606 mw_2608 mw_142 mw_175 mw_2609
set_option maxRecDepth 20000 in
theorem gX0_chooseByCosts_X0_useBest : GoodIn wuX0_chooseByCosts (wsV RX0 465 RX0 yX0_useBest wuX0_useBest) := gu_V mw_2602 mw_2604 mw_141 mw_175 mw_2605
set_option maxRecDepth 20000 in
set_option maxRecDepth 20000 in
theorem gX0_chooseByCosts_X9_mayBeSixteen : GoodIn wuX0_chooseByCosts (va_wsS RX0 346 yX9_mayBeSixteen wuX9_mayBeSixteen) := gu_S mw_2497 mw_2169 mw_171 mw_2170
set_option maxRecDepth 20000 in
set_option maxRecDepth 20000 in
theorem gX0_chooseByCosts_X6_predictSixteen : GoodIn wuX0_chooseByCosts (wsV RX0 448 RX6 yX6_predictSixteen wuX6_predictSixteen) := gu_V mw_2573 mw_2073 mw_2074 mw_172 mw_2075
set_option maxRecDepth 20000 in
set_option maxRecDepth 20000 in
theorem gX0_chooseByCosts_X6_differences : GoodIn wuX0_chooseByCosts (wsV RX0 452 RX6 yX6_differences wuX6_differences) := gu_V mw_2539 mw_2540 mw_2541 mw_172 mw_2542
set_option maxRecDepth 20000 in
set_option maxRecDepth 20000 in
theorem gX0_chooseByCosts_X0_priceOfBit : GoodIn wuX0_chooseByCosts (wsV RX0 456 RX0 yX0_priceOfBit wuX0_priceOfBit) := gu_V mw_2543 mw_2545 mw_132 mw_175 mw_2546
set_option maxRecDepth 20000 in
set_option maxRecDepth 20000 in
theorem gX0_chooseByCosts_X0_searchList : GoodIn wuX0_chooseByCosts (wsV RX0 436 RX0 yX0_searchList wuX0_searchList) := gu_V mw_2530 mw_2532 mw_130 mw_175 mw_2533
set_option maxRecDepth 20000 in
set_option maxRecDepth 20000 in
theorem gX0_chooseByCosts_X0_costOfBoth : GoodIn wuX0_chooseByCosts (wsV RX0 442 RX0 yX0_costOfBoth wuX0_costOfBoth) := gu_V mw_2564 mw_2566 mw_136 mw_175 mw_2567
set_option maxRecDepth 20000 in
set_option maxRecDepth 20000 in
theorem gX0_chooseByCosts_X0_costOfDirect : GoodIn wuX0_chooseByCosts (wsV RX0 445 RX0 yX0_costOfDirect wuX0_costOfDirect) := gu_V mw_2568 mw_2570 mw_137 mw_175 mw_2571
set_option maxRecDepth 20000 in
theorem dX0_chooseByCosts_0 : decode cX0_chooseByCosts 0 = .ok (.aload_n 0, 1) := by decide +kernel
theorem dX0_chooseByCosts_1 : decode cX0_chooseByCosts 1 = .ok (.getfield 36, 3) := by decide +kernel
theorem dX0_chooseByCosts_4 : decode cX0_chooseByCosts 4 = .ok (.getfield 81, 3) := by decide +kernel
theorem dX0_chooseByCosts_7 : decode cX0_chooseByCosts 7 = .ok (.getfield 252, 3) := by decide +kernel
theorem dX0_chooseByCosts_10 : decode cX0_chooseByCosts 10 = .ok (.iconst 1, 1) := by decide +kernel
theorem dX0_chooseByCosts_11 : decode cX0_chooseByCosts 11 = .ok (.iaload, 1) := by decide +kernel
theorem dX0_chooseByCosts_12 : decode cX0_chooseByCosts 12 = .ok (.istore_n 2, 1) := by decide +kernel
theorem dX0_chooseByCosts_13 : decode cX0_chooseByCosts 13 = .ok (.aload_n 0, 1) := by decide +kernel
theorem dX0_chooseByCosts_14 : decode cX0_chooseByCosts 14 = .ok (.getfield 75, 3) := by decide +kernel
theorem dX0_chooseByCosts_17 : decode cX0_chooseByCosts 17 = .ok (.bipush 10, 2) := by decide +kernel
theorem dX0_chooseByCosts_19 : decode cX0_chooseByCosts 19 = .ok (.ldc_w 435, 3) := by decide +kernel
theorem dX0_chooseByCosts_22 : decode cX0_chooseByCosts 22 = .ok (.iastore, 1) := by decide +kernel
theorem dX0_chooseByCosts_23 : decode cX0_chooseByCosts 23 = .ok (.aload_n 0, 1) := by decide +kernel
theorem dX0_chooseByCosts_24 : decode cX0_chooseByCosts 24 = .ok (.getfield 75, 3) := by decide +kernel
theorem dX0_chooseByCosts_27 : decode cX0_chooseByCosts 27 = .ok (.bipush 11, 2) := by decide +kernel
theorem dX0_chooseByCosts_29 : decode cX0_chooseByCosts 29 = .ok (.iconst 1, 1) := by decide +kernel
theorem dX0_chooseByCosts_30 : decode cX0_chooseByCosts 30 = .ok (.iastore, 1) := by decide +kernel
theorem dX0_chooseByCosts_31 : decode cX0_chooseByCosts 31 = .ok (.aload_n 0, 1) := by decide +kernel
theorem dX0_chooseByCosts_32 : decode cX0_chooseByCosts 32 = .ok (.getfield 75, 3) := by decide +kernel
theorem dX0_chooseByCosts_35 : decode cX0_chooseByCosts 35 = .ok (.bipush 12, 2) := by decide +kernel
theorem dX0_chooseByCosts_37 : decode cX0_chooseByCosts 37 = .ok (.iconst 2, 1) := by decide +kernel
theorem dX0_chooseByCosts_38 : decode cX0_chooseByCosts 38 = .ok (.iastore, 1) := by decide +kernel
theorem dX0_chooseByCosts_39 : decode cX0_chooseByCosts 39 = .ok (.iload_n 2, 1) := by decide +kernel
theorem dX0_chooseByCosts_40 : decode cX0_chooseByCosts 40 = .ok (.iconst 2, 1) := by decide +kernel
theorem dX0_chooseByCosts_41 : decode cX0_chooseByCosts 41 = .ok (.if_icmp .eq 29, 3) := by decide +kernel
theorem dX0_chooseByCosts_44 : decode cX0_chooseByCosts 44 = .ok (.aload_n 0, 1) := by decide +kernel
theorem dX0_chooseByCosts_45 : decode cX0_chooseByCosts 45 = .ok (.iload_n 1, 1) := by decide +kernel
theorem dX0_chooseByCosts_46 : decode cX0_chooseByCosts 46 = .ok (.iconst 0, 1) := by decide +kernel
theorem dX0_chooseByCosts_47 : decode cX0_chooseByCosts 47 = .ok (.invokevirtual 436, 3) := by decide +kernel
theorem dX0_chooseByCosts_50 : decode cX0_chooseByCosts 50 = .ok (.aload_n 0, 1) := by decide +kernel
theorem dX0_chooseByCosts_51 : decode cX0_chooseByCosts 51 = .ok (.aload_n 0, 1) := by decide +kernel
theorem dX0_chooseByCosts_52 : decode cX0_chooseByCosts 52 = .ok (.getfield 75, 3) := by decide +kernel
theorem dX0_chooseByCosts_55 : decode cX0_chooseByCosts 55 = .ok (.iconst 0, 1) := by decide +kernel
theorem dX0_chooseByCosts_56 : decode cX0_chooseByCosts 56 = .ok (.iaload, 1) := by decide +kernel
theorem dX0_chooseByCosts_57 : decode cX0_chooseByCosts 57 = .ok (.iconst 3, 1) := by decide +kernel
theorem dX0_chooseByCosts_58 : decode cX0_chooseByCosts 58 = .ok (.iload_n 2, 1) := by decide +kernel
theorem dX0_chooseByCosts_59 : decode cX0_chooseByCosts 59 = .ok (.ifCond .ne 7, 3) := by decide +kernel
theorem dX0_chooseByCosts_62 : decode cX0_chooseByCosts 62 = .ok (.iconst 0, 1) := by decide +kernel
theorem dX0_chooseByCosts_63 : decode cX0_chooseByCosts 63 = .ok (.goto 4, 3) := by decide +kernel
theorem dX0_chooseByCosts_66 : decode cX0_chooseByCosts 66 = .ok (.iconst 1, 1) := by decide +kernel
theorem dX0_chooseByCosts_67 : decode cX0_chooseByCosts 67 = .ok (.invokevirtual 439, 3) := by decide +kernel
theorem dX0_chooseByCosts_70 : decode cX0_chooseByCosts 70 = .ok (.iload_n 2, 1) := by decide +kernel
theorem dX0_chooseByCosts_71 : decode cX0_chooseByCosts 71 = .ok (.iconst 1, 1) := by decide +kernel
theorem dX0_chooseByCosts_72 : decode cX0_chooseByCosts 72 = .ok (.if_icmp .ne 43, 3) := by decide +kernel
theorem dX0_chooseByCosts_75 : decode cX0_chooseByCosts 75 = .ok (.aload_n 0, 1) := by decide +kernel
theorem dX0_chooseByCosts_76 : decode cX0_chooseByCosts 76 = .ok (.iload_n 1, 1) := by decide +kernel
theorem dX0_chooseByCosts_77 : decode cX0_chooseByCosts 77 = .ok (.iconst 1, 1) := by decide +kernel
theorem dX0_chooseByCosts_78 : decode cX0_chooseByCosts 78 = .ok (.invokevirtual 436, 3) := by decide +kernel
theorem dX0_chooseByCosts_81 : decode cX0_chooseByCosts 81 = .ok (.aload_n 0, 1) := by decide +kernel
theorem dX0_chooseByCosts_82 : decode cX0_chooseByCosts 82 = .ok (.aload_n 0, 1) := by decide +kernel
theorem dX0_chooseByCosts_83 : decode cX0_chooseByCosts 83 = .ok (.getfield 75, 3) := by decide +kernel
theorem dX0_chooseByCosts_86 : decode cX0_chooseByCosts 86 = .ok (.iconst 5, 1) := by decide +kernel
theorem dX0_chooseByCosts_87 : decode cX0_chooseByCosts 87 = .ok (.iaload, 1) := by decide +kernel
theorem dX0_chooseByCosts_88 : decode cX0_chooseByCosts 88 = .ok (.iconst 3, 1) := by decide +kernel
theorem dX0_chooseByCosts_89 : decode cX0_chooseByCosts 89 = .ok (.iconst 2, 1) := by decide +kernel
theorem dX0_chooseByCosts_90 : decode cX0_chooseByCosts 90 = .ok (.invokevirtual 439, 3) := by decide +kernel
theorem dX0_chooseByCosts_93 : decode cX0_chooseByCosts 93 = .ok (.aload_n 0, 1) := by decide +kernel
theorem dX0_chooseByCosts_94 : decode cX0_chooseByCosts 94 = .ok (.aload_n 0, 1) := by decide +kernel
theorem dX0_chooseByCosts_95 : decode cX0_chooseByCosts 95 = .ok (.iload_n 1, 1) := by decide +kernel
theorem dX0_chooseByCosts_96 : decode cX0_chooseByCosts 96 = .ok (.invokevirtual 442, 3) := by decide +kernel
theorem dX0_chooseByCosts_99 : decode cX0_chooseByCosts 99 = .ok (.iconst 3, 1) := by decide +kernel
theorem dX0_chooseByCosts_100 : decode cX0_chooseByCosts 100 = .ok (.iconst 3, 1) := by decide +kernel
theorem dX0_chooseByCosts_101 : decode cX0_chooseByCosts 101 = .ok (.invokevirtual 439, 3) := by decide +kernel
theorem dX0_chooseByCosts_104 : decode cX0_chooseByCosts 104 = .ok (.aload_n 0, 1) := by decide +kernel
theorem dX0_chooseByCosts_105 : decode cX0_chooseByCosts 105 = .ok (.aload_n 0, 1) := by decide +kernel
theorem dX0_chooseByCosts_106 : decode cX0_chooseByCosts 106 = .ok (.iload_n 1, 1) := by decide +kernel
theorem dX0_chooseByCosts_107 : decode cX0_chooseByCosts 107 = .ok (.invokevirtual 445, 3) := by decide +kernel
theorem dX0_chooseByCosts_110 : decode cX0_chooseByCosts 110 = .ok (.iconst 3, 1) := by decide +kernel
theorem dX0_chooseByCosts_111 : decode cX0_chooseByCosts 111 = .ok (.iconst 0, 1) := by decide +kernel
theorem dX0_chooseByCosts_112 : decode cX0_chooseByCosts 112 = .ok (.invokevirtual 439, 3) := by decide +kernel
theorem dX0_chooseByCosts_115 : decode cX0_chooseByCosts 115 = .ok (.aload_n 0, 1) := by decide +kernel
theorem dX0_chooseByCosts_116 : decode cX0_chooseByCosts 116 = .ok (.getfield 36, 3) := by decide +kernel
theorem dX0_chooseByCosts_119 : decode cX0_chooseByCosts 119 = .ok (.iload_n 1, 1) := by decide +kernel
theorem dX0_chooseByCosts_120 : decode cX0_chooseByCosts 120 = .ok (.invokevirtual 353, 3) := by decide +kernel
theorem dX0_chooseByCosts_123 : decode cX0_chooseByCosts 123 = .ok (.istore_n 3, 1) := by decide +kernel
theorem dX0_chooseByCosts_124 : decode cX0_chooseByCosts 124 = .ok (.iconst 0, 1) := by decide +kernel
theorem dX0_chooseByCosts_125 : decode cX0_chooseByCosts 125 = .ok (.istore 4, 2) := by decide +kernel
theorem dX0_chooseByCosts_127 : decode cX0_chooseByCosts 127 = .ok (.iload 4, 2) := by decide +kernel
theorem dX0_chooseByCosts_129 : decode cX0_chooseByCosts 129 = .ok (.iconst 4, 1) := by decide +kernel
theorem dX0_chooseByCosts_130 : decode cX0_chooseByCosts 130 = .ok (.if_icmp .ge 69, 3) := by decide +kernel
theorem dX0_chooseByCosts_133 : decode cX0_chooseByCosts 133 = .ok (.iload 4, 2) := by decide +kernel
theorem dX0_chooseByCosts_135 : decode cX0_chooseByCosts 135 = .ok (.iload_n 3, 1) := by decide +kernel
theorem dX0_chooseByCosts_136 : decode cX0_chooseByCosts 136 = .ok (.invokestatic 346, 3) := by decide +kernel
theorem dX0_chooseByCosts_139 : decode cX0_chooseByCosts 139 = .ok (.ifCond .eq 54, 3) := by decide +kernel
theorem dX0_chooseByCosts_142 : decode cX0_chooseByCosts 142 = .ok (.aload_n 0, 1) := by decide +kernel
theorem dX0_chooseByCosts_143 : decode cX0_chooseByCosts 143 = .ok (.getfield 43, 3) := by decide +kernel
theorem dX0_chooseByCosts_146 : decode cX0_chooseByCosts 146 = .ok (.aload_n 0, 1) := by decide +kernel
theorem dX0_chooseByCosts_147 : decode cX0_chooseByCosts 147 = .ok (.getfield 36, 3) := by decide +kernel
theorem dX0_chooseByCosts_150 : decode cX0_chooseByCosts 150 = .ok (.iload_n 1, 1) := by decide +kernel
theorem dX0_chooseByCosts_151 : decode cX0_chooseByCosts 151 = .ok (.iload 4, 2) := by decide +kernel
theorem dX0_chooseByCosts_153 : decode cX0_chooseByCosts 153 = .ok (.iload_n 3, 1) := by decide +kernel
theorem dX0_chooseByCosts_154 : decode cX0_chooseByCosts 154 = .ok (.invokevirtual 448, 3) := by decide +kernel
theorem dX0_chooseByCosts_157 : decode cX0_chooseByCosts 157 = .ok (.aload_n 0, 1) := by decide +kernel
theorem dX0_chooseByCosts_158 : decode cX0_chooseByCosts 158 = .ok (.aload_n 0, 1) := by decide +kernel
theorem dX0_chooseByCosts_159 : decode cX0_chooseByCosts 159 = .ok (.getfield 43, 3) := by decide +kernel
theorem dX0_chooseByCosts_162 : decode cX0_chooseByCosts 162 = .ok (.aload_n 0, 1) := by decide +kernel
theorem dX0_chooseByCosts_163 : decode cX0_chooseByCosts 163 = .ok (.getfield 36, 3) := by decide +kernel
theorem dX0_chooseByCosts_166 : decode cX0_chooseByCosts 166 = .ok (.aload_n 0, 1) := by decide +kernel
theorem dX0_chooseByCosts_167 : decode cX0_chooseByCosts 167 = .ok (.getfield 69, 3) := by decide +kernel
theorem dX0_chooseByCosts_170 : decode cX0_chooseByCosts 170 = .ok (.iconst 0, 1) := by decide +kernel
theorem dX0_chooseByCosts_171 : decode cX0_chooseByCosts 171 = .ok (.aaload, 1) := by decide +kernel
theorem dX0_chooseByCosts_172 : decode cX0_chooseByCosts 172 = .ok (.iload_n 1, 1) := by decide +kernel
theorem dX0_chooseByCosts_173 : decode cX0_chooseByCosts 173 = .ok (.iconst 0, 1) := by decide +kernel
theorem dX0_chooseByCosts_174 : decode cX0_chooseByCosts 174 = .ok (.bipush 16, 2) := by decide +kernel
theorem dX0_chooseByCosts_176 : decode cX0_chooseByCosts 176 = .ok (.invokevirtual 452, 3) := by decide +kernel
theorem dX0_chooseByCosts_179 : decode cX0_chooseByCosts 179 = .ok (.bipush 8, 2) := by decide +kernel
theorem dX0_chooseByCosts_181 : decode cX0_chooseByCosts 181 = .ok (.aload_n 0, 1) := by decide +kernel
theorem dX0_chooseByCosts_182 : decode cX0_chooseByCosts 182 = .ok (.invokevirtual 456, 3) := by decide +kernel
theorem dX0_chooseByCosts_185 : decode cX0_chooseByCosts 185 = .ok (.imul, 1) := by decide +kernel
theorem dX0_chooseByCosts_186 : decode cX0_chooseByCosts 186 = .ok (.iadd, 1) := by decide +kernel
theorem dX0_chooseByCosts_187 : decode cX0_chooseByCosts 187 = .ok (.iconst 1, 1) := by decide +kernel
theorem dX0_chooseByCosts_188 : decode cX0_chooseByCosts 188 = .ok (.iload 4, 2) := by decide +kernel
theorem dX0_chooseByCosts_190 : decode cX0_chooseByCosts 190 = .ok (.invokevirtual 439, 3) := by decide +kernel
theorem dX0_chooseByCosts_193 : decode cX0_chooseByCosts 193 = .ok (.iinc 4 1, 3) := by decide +kernel
theorem dX0_chooseByCosts_196 : decode cX0_chooseByCosts 196 = .ok (.goto (-69), 3) := by decide +kernel
theorem dX0_chooseByCosts_199 : decode cX0_chooseByCosts 199 = .ok (.aload_n 0, 1) := by decide +kernel
theorem dX0_chooseByCosts_200 : decode cX0_chooseByCosts 200 = .ok (.aload_n 0, 1) := by decide +kernel
theorem dX0_chooseByCosts_201 : decode cX0_chooseByCosts 201 = .ok (.iload_n 1, 1) := by decide +kernel
theorem dX0_chooseByCosts_202 : decode cX0_chooseByCosts 202 = .ok (.iload_n 3, 1) := by decide +kernel
theorem dX0_chooseByCosts_203 : decode cX0_chooseByCosts 203 = .ok (.invokevirtual 459, 3) := by decide +kernel
theorem dX0_chooseByCosts_206 : decode cX0_chooseByCosts 206 = .ok (.iconst 0, 1) := by decide +kernel
theorem dX0_chooseByCosts_207 : decode cX0_chooseByCosts 207 = .ok (.iconst 0, 1) := by decide +kernel
theorem dX0_chooseByCosts_208 : decode cX0_chooseByCosts 208 = .ok (.invokevirtual 439, 3) := by decide +kernel
theorem dX0_chooseByCosts_211 : decode cX0_chooseByCosts 211 = .ok (.aload_n 0, 1) := by decide +kernel
theorem dX0_chooseByCosts_212 : decode cX0_chooseByCosts 212 = .ok (.getfield 36, 3) := by decide +kernel
theorem dX0_chooseByCosts_215 : decode cX0_chooseByCosts 215 = .ok (.iload_n 1, 1) := by decide +kernel
theorem dX0_chooseByCosts_216 : decode cX0_chooseByCosts 216 = .ok (.invokevirtual 462, 3) := by decide +kernel
theorem dX0_chooseByCosts_219 : decode cX0_chooseByCosts 219 = .ok (.aload_n 0, 1) := by decide +kernel
theorem dX0_chooseByCosts_220 : decode cX0_chooseByCosts 220 = .ok (.getfield 36, 3) := by decide +kernel
theorem dX0_chooseByCosts_223 : decode cX0_chooseByCosts 223 = .ok (.getfield 216, 3) := by decide +kernel
theorem dX0_chooseByCosts_226 : decode cX0_chooseByCosts 226 = .ok (.bipush 8, 2) := by decide +kernel
theorem dX0_chooseByCosts_228 : decode cX0_chooseByCosts 228 = .ok (.iload_n 1, 1) := by decide +kernel
theorem dX0_chooseByCosts_229 : decode cX0_chooseByCosts 229 = .ok (.imul, 1) := by decide +kernel
theorem dX0_chooseByCosts_230 : decode cX0_chooseByCosts 230 = .ok (.iconst 0, 1) := by decide +kernel
theorem dX0_chooseByCosts_231 : decode cX0_chooseByCosts 231 = .ok (.iadd, 1) := by decide +kernel
theorem dX0_chooseByCosts_232 : decode cX0_chooseByCosts 232 = .ok (.aload_n 0, 1) := by decide +kernel
theorem dX0_chooseByCosts_233 : decode cX0_chooseByCosts 233 = .ok (.getfield 75, 3) := by decide +kernel
theorem dX0_chooseByCosts_236 : decode cX0_chooseByCosts 236 = .ok (.bipush 11, 2) := by decide +kernel
theorem dX0_chooseByCosts_238 : decode cX0_chooseByCosts 238 = .ok (.iaload, 1) := by decide +kernel
theorem dX0_chooseByCosts_239 : decode cX0_chooseByCosts 239 = .ok (.iastore, 1) := by decide +kernel
theorem dX0_chooseByCosts_240 : decode cX0_chooseByCosts 240 = .ok (.aload_n 0, 1) := by decide +kernel
theorem dX0_chooseByCosts_241 : decode cX0_chooseByCosts 241 = .ok (.getfield 75, 3) := by decide +kernel
theorem dX0_chooseByCosts_244 : decode cX0_chooseByCosts 244 = .ok (.bipush 11, 2) := by decide +kernel
theorem dX0_chooseByCosts_246 : decode cX0_chooseByCosts 246 = .ok (.iaload, 1) := by decide +kernel
theorem dX0_chooseByCosts_247 : decode cX0_chooseByCosts 247 = .ok (.iconst 3, 1) := by decide +kernel
theorem dX0_chooseByCosts_248 : decode cX0_chooseByCosts 248 = .ok (.if_icmp .ne 19, 3) := by decide +kernel
theorem dX0_chooseByCosts_251 : decode cX0_chooseByCosts 251 = .ok (.aload_n 0, 1) := by decide +kernel
theorem dX0_chooseByCosts_252 : decode cX0_chooseByCosts 252 = .ok (.iload_n 1, 1) := by decide +kernel
theorem dX0_chooseByCosts_253 : decode cX0_chooseByCosts 253 = .ok (.iload_n 2, 1) := by decide +kernel
theorem dX0_chooseByCosts_254 : decode cX0_chooseByCosts 254 = .ok (.aload_n 0, 1) := by decide +kernel
theorem dX0_chooseByCosts_255 : decode cX0_chooseByCosts 255 = .ok (.getfield 75, 3) := by decide +kernel
theorem dX0_chooseByCosts_258 : decode cX0_chooseByCosts 258 = .ok (.bipush 12, 2) := by decide +kernel
theorem dX0_chooseByCosts_260 : decode cX0_chooseByCosts 260 = .ok (.iaload, 1) := by decide +kernel
theorem dX0_chooseByCosts_261 : decode cX0_chooseByCosts 261 = .ok (.invokevirtual 465, 3) := by decide +kernel
theorem dX0_chooseByCosts_264 : decode cX0_chooseByCosts 264 = .ok (.goto 70, 3) := by decide +kernel
theorem dX0_chooseByCosts_267 : decode cX0_chooseByCosts 267 = .ok (.iconst 0, 1) := by decide +kernel
theorem dX0_chooseByCosts_268 : decode cX0_chooseByCosts 268 = .ok (.istore 4, 2) := by decide +kernel
theorem dX0_chooseByCosts_270 : decode cX0_chooseByCosts 270 = .ok (.iload 4, 2) := by decide +kernel
theorem dX0_chooseByCosts_272 : decode cX0_chooseByCosts 272 = .ok (.bipush 16, 2) := by decide +kernel
theorem dX0_chooseByCosts_274 : decode cX0_chooseByCosts 274 = .ok (.if_icmp .ge 54, 3) := by decide +kernel
theorem dX0_chooseByCosts_277 : decode cX0_chooseByCosts 277 = .ok (.aload_n 0, 1) := by decide +kernel
theorem dX0_chooseByCosts_278 : decode cX0_chooseByCosts 278 = .ok (.getfield 36, 3) := by decide +kernel
theorem dX0_chooseByCosts_281 : decode cX0_chooseByCosts 281 = .ok (.getfield 356, 3) := by decide +kernel
theorem dX0_chooseByCosts_284 : decode cX0_chooseByCosts 284 = .ok (.bipush 16, 2) := by decide +kernel
theorem dX0_chooseByCosts_286 : decode cX0_chooseByCosts 286 = .ok (.iload_n 1, 1) := by decide +kernel
theorem dX0_chooseByCosts_287 : decode cX0_chooseByCosts 287 = .ok (.imul, 1) := by decide +kernel
theorem dX0_chooseByCosts_288 : decode cX0_chooseByCosts 288 = .ok (.iload 4, 2) := by decide +kernel
theorem dX0_chooseByCosts_290 : decode cX0_chooseByCosts 290 = .ok (.iadd, 1) := by decide +kernel
theorem dX0_chooseByCosts_291 : decode cX0_chooseByCosts 291 = .ok (.aload_n 0, 1) := by decide +kernel
theorem dX0_chooseByCosts_292 : decode cX0_chooseByCosts 292 = .ok (.getfield 75, 3) := by decide +kernel
theorem dX0_chooseByCosts_295 : decode cX0_chooseByCosts 295 = .ok (.bipush 11, 2) := by decide +kernel
theorem dX0_chooseByCosts_297 : decode cX0_chooseByCosts 297 = .ok (.iaload, 1) := by decide +kernel
theorem dX0_chooseByCosts_298 : decode cX0_chooseByCosts 298 = .ok (.ifCond .ne 16, 3) := by decide +kernel
theorem dX0_chooseByCosts_301 : decode cX0_chooseByCosts 301 = .ok (.aload_n 0, 1) := by decide +kernel
theorem dX0_chooseByCosts_302 : decode cX0_chooseByCosts 302 = .ok (.getfield 75, 3) := by decide +kernel
theorem dX0_chooseByCosts_305 : decode cX0_chooseByCosts 305 = .ok (.bipush 13, 2) := by decide +kernel
theorem dX0_chooseByCosts_307 : decode cX0_chooseByCosts 307 = .ok (.iload 4, 2) := by decide +kernel
theorem dX0_chooseByCosts_309 : decode cX0_chooseByCosts 309 = .ok (.iadd, 1) := by decide +kernel
theorem dX0_chooseByCosts_310 : decode cX0_chooseByCosts 310 = .ok (.iaload, 1) := by decide +kernel
theorem dX0_chooseByCosts_311 : decode cX0_chooseByCosts 311 = .ok (.goto 10, 3) := by decide +kernel
theorem dX0_chooseByCosts_314 : decode cX0_chooseByCosts 314 = .ok (.aload_n 0, 1) := by decide +kernel
theorem dX0_chooseByCosts_315 : decode cX0_chooseByCosts 315 = .ok (.getfield 75, 3) := by decide +kernel
theorem dX0_chooseByCosts_318 : decode cX0_chooseByCosts 318 = .ok (.bipush 12, 2) := by decide +kernel
theorem dX0_chooseByCosts_320 : decode cX0_chooseByCosts 320 = .ok (.iaload, 1) := by decide +kernel
theorem dX0_chooseByCosts_321 : decode cX0_chooseByCosts 321 = .ok (.iastore, 1) := by decide +kernel
theorem dX0_chooseByCosts_322 : decode cX0_chooseByCosts 322 = .ok (.iinc 4 1, 3) := by decide +kernel
theorem dX0_chooseByCosts_325 : decode cX0_chooseByCosts 325 = .ok (.goto (-55), 3) := by decide +kernel
theorem dX0_chooseByCosts_328 : decode cX0_chooseByCosts 328 = .ok (.aload_n 0, 1) := by decide +kernel
theorem dX0_chooseByCosts_329 : decode cX0_chooseByCosts 329 = .ok (.iload_n 1, 1) := by decide +kernel
theorem dX0_chooseByCosts_330 : decode cX0_chooseByCosts 330 = .ok (.iload_n 3, 1) := by decide +kernel
theorem dX0_chooseByCosts_331 : decode cX0_chooseByCosts 331 = .ok (.invokevirtual 468, 3) := by decide +kernel
theorem dX0_chooseByCosts_334 : decode cX0_chooseByCosts 334 = .ok (.return_, 1) := by decide +kernel
def FX0_chooseByCosts (G : GG) (M : DD) (a : Nat) (p0 : Int32) : Option (DD) :=
  dr G 9 ((M.2 a 3)) fun b2 =>
  dr G 3 ((M.2 b2 1)) fun b3 =>
  dr G 13 ((M.2 b3 0)) fun b4 =>
  chk (¬ (((1 : Int32)) < 0 ∨ G.2.2 b4 ≤ ((1 : Int32)).toNatClampNeg)) <|
  ltt (M.1 b4 ((1 : Int32)).toNatClampNeg) fun x5 =>
  dr G 13 ((M.2 a 20)) fun b6 =>
  chk (¬ (((10 : Int32)) < 0 ∨ G.2.2 b6 ≤ ((10 : Int32)).toNatClampNeg)) <|
  ltt (uI M b6 ((10 : Int32)).toNatClampNeg ((2147483647 : Int32))) fun M7 =>
  dr G 13 ((M7.2 a 20)) fun b8 =>
  chk (¬ (((11 : Int32)) < 0 ∨ G.2.2 b8 ≤ ((11 : Int32)).toNatClampNeg)) <|
  ltt (uI M7 b8 ((11 : Int32)).toNatClampNeg ((1 : Int32))) fun M9 =>
  dr G 13 ((M9.2 a 20)) fun b10 =>
  chk (¬ (((12 : Int32)) < 0 ∨ G.2.2 b10 ≤ ((12 : Int32)).toNatClampNeg)) <|
  ltt (uI M9 b10 ((12 : Int32)).toNatClampNeg ((2 : Int32))) fun M11 =>
  bnd (if x5 = ((2 : Int32)) then (some (M11)) else
  (bnd (FX0_searchList G M11 a p0 ((0 : Int32))) fun y80 =>
  dr G 13 ((y80.2 a 20)) fun b81 =>
  chk (¬ (((0 : Int32)) < 0 ∨ G.2.2 b81 ≤ ((0 : Int32)).toNatClampNeg)) <|
  ltt (y80.1 b81 ((0 : Int32)).toNatClampNeg) fun x82 =>
  bnd (if x5 = ((0 : Int32)) then (some ((0 : Int32))) else
  (some ((1 : Int32)))) fun (y83 : Int32) =>
  bnd (FX0_offer G y80 a x82 ((3 : Int32)) y83) fun y84 =>
  some (y84))) fun (y12 : DD) =>
  bnd (if x5 = ((1 : Int32)) then (bnd (FX0_searchList G y12 a p0 ((1 : Int32))) fun y71 =>
  dr G 13 ((y71.2 a 20)) fun b72 =>
  chk (¬ (((5 : Int32)) < 0 ∨ G.2.2 b72 ≤ ((5 : Int32)).toNatClampNeg)) <|
  ltt (y71.1 b72 ((5 : Int32)).toNatClampNeg) fun x73 =>
  bnd (FX0_offer G y71 a x73 ((3 : Int32)) ((2 : Int32))) fun y74 =>
  bnd (FX0_costOfBoth G y74 a p0) fun y75 =>
  bnd (FX0_offer G y75.1 a y75.2 ((3 : Int32)) ((3 : Int32))) fun y76 =>
  bnd (FX0_costOfDirect G y76 a p0) fun y77 =>
  bnd (FX0_offer G y77.1 a y77.2 ((3 : Int32)) ((0 : Int32))) fun y78 =>
  some (y78)) else
  (some (y12))) fun (y13 : DD) =>
  dr G 9 ((y13.2 a 3)) fun b14 =>
  bnd (FX9_sides G y13 b14 p0) fun y15 =>
  bnd (itr (fun (s17 : Int32 × DD) => ((if ((4 : Int32)) ≤ s17.1 then (some (.inr (s17.1, s17.2))) else
  (bnd (FX9_mayBeSixteen G s17.2 s17.1 y15.2) fun y57 =>
  bnd (if y57.2 = ((0 : Int32)) then (some (y57.1)) else
  (dr G 6 ((y57.1.2 a 4)) fun b61 =>
  bnd (FX6_predictSixteen G y57.1 b61 ((y57.1.2 a 3)) p0 s17.1 y15.2) fun y62 =>
  dr G 15 ((y62.2 a 9)) fun b63 =>
  chk (¬ (((0 : Int32)) < 0 ∨ G.2.2 b63 ≤ ((0 : Int32)).toNatClampNeg)) <|
  dr G 6 ((y62.2 a 4)) fun b64 =>
  bnd (FX6_differences G y62 b64 ((y62.2 a 3)) ((y62.2 b63 ((0 : Int32)).toNatClampNeg)) p0 ((0 : Int32)) ((16 : Int32))) fun y65 =>
  bnd (FX0_priceOfBit G y65.1 a) fun y66 =>
  ltt ((((8 : Int32)) * y66.2)) fun x67 =>
  ltt ((y65.2 + x67)) fun x68 =>
  bnd (FX0_offer G y66.1 a x68 ((1 : Int32)) s17.1) fun y69 =>
  some (y69))) fun (y58 : DD) =>
  ltt (s17.1 + (1 : Int32)) fun x59 =>
  some (.inl (x59, y58)))) : Option ((Int32 × DD) ⊕ (Int32 × DD)))) 1000000 ((0 : Int32), y15.1)) fun (y16 : Int32 × DD) =>
  bnd (FX0_costOfFour G y16.2 a p0 y15.2) fun y19 =>
  bnd (FX0_offer G y19.1 a y19.2 ((0 : Int32)) ((0 : Int32))) fun y20 =>
  dr G 9 ((y20.2 a 3)) fun b21 =>
  bnd (FX9_clearBlock G y20 b21 p0) fun y22 =>
  dr G 9 ((y22.2 a 3)) fun b23 =>
  ltt ((((8 : Int32)) * p0)) fun x24 =>
  ltt ((x24 + ((0 : Int32)))) fun x25 =>
  dr G 13 ((y22.2 a 20)) fun b26 =>
  chk (¬ (((11 : Int32)) < 0 ∨ G.2.2 b26 ≤ ((11 : Int32)).toNatClampNeg)) <|
  ltt (y22.1 b26 ((11 : Int32)).toNatClampNeg) fun x27 =>
  dr G 13 ((y22.2 b23 6)) fun b28 =>
  chk (¬ (x25 < 0 ∨ G.2.2 b28 ≤ x25.toNatClampNeg)) <|
  ltt (uI y22 b28 x25.toNatClampNeg x27) fun M29 =>
  dr G 13 ((M29.2 a 20)) fun b30 =>
  chk (¬ (((11 : Int32)) < 0 ∨ G.2.2 b30 ≤ ((11 : Int32)).toNatClampNeg)) <|
  ltt (M29.1 b30 ((11 : Int32)).toNatClampNeg) fun x31 =>
  bnd (if x31 = ((3 : Int32)) then (chk (¬ (((12 : Int32)) < 0 ∨ G.2.2 b30 ≤ ((12 : Int32)).toNatClampNeg)) <|
  ltt (M29.1 b30 ((12 : Int32)).toNatClampNeg) fun x53 =>
  bnd (FX0_useBest G M29 a p0 x5 x53) fun y54 =>
  some (y16.1, y54)) else
  (bnd (itr (fun (s35 : Int32 × DD) => ((if ((16 : Int32)) ≤ s35.1 then (some (.inr (s35.1, s35.2))) else
  (dr G 9 ((s35.2.2 a 3)) fun b40 =>
  ltt ((((16 : Int32)) * p0)) fun x41 =>
  ltt ((x41 + s35.1)) fun x42 =>
  dr G 13 ((s35.2.2 a 20)) fun b43 =>
  chk (¬ (((11 : Int32)) < 0 ∨ G.2.2 b43 ≤ ((11 : Int32)).toNatClampNeg)) <|
  ltt (s35.2.1 b43 ((11 : Int32)).toNatClampNeg) fun x44 =>
  bnd (if x44 = ((0 : Int32)) then (ltt ((((13 : Int32)) + s35.1)) fun x51 =>
  chk (¬ (x51 < 0 ∨ G.2.2 b43 ≤ x51.toNatClampNeg)) <|
  ltt (s35.2.1 b43 x51.toNatClampNeg) fun x52 =>
  some (x52)) else
  (chk (¬ (((12 : Int32)) < 0 ∨ G.2.2 b43 ≤ ((12 : Int32)).toNatClampNeg)) <|
  ltt (s35.2.1 b43 ((12 : Int32)).toNatClampNeg) fun x50 =>
  some (x50))) fun (y45 : Int32) =>
  dr G 13 ((s35.2.2 b40 7)) fun b46 =>
  chk (¬ (x42 < 0 ∨ G.2.2 b46 ≤ x42.toNatClampNeg)) <|
  ltt (uI s35.2 b46 x42.toNatClampNeg y45) fun M47 =>
  ltt (s35.1 + (1 : Int32)) fun x48 =>
  some (.inl (x48, M47)))) : Option ((Int32 × DD) ⊕ (Int32 × DD)))) 1000000 ((0 : Int32), M29)) fun (y34 : Int32 × DD) =>
  bnd (FX0_chooseColours G y34.2 a p0 y15.2) fun y37 =>
  some (y34.1, y37))) fun (y32 : Int32 × DD) =>
  some y32.2
set_option maxHeartbeats 4000000 in
set_option maxRecDepth 100000 in
theorem kX0_chooseByCosts (l : Launch) (D : va_G) (ct : CT) (ad : Nat → Nat) (Z : Nat → Nat) (G : GG) (M : DD) (sz : Nat) (a : Nat) (p0 : Int32) (y : DD) (hc : a < G.1) (hk : G.2.1 a = 0) (hF : FX0_chooseByCosts G M a p0 = some y) : Met l yX0_chooseByCosts wuX0_chooseByCosts ({ frames := 6, cells := 0, slots := 0, locals := 175 }) (va_Pc [.ref (ad a), .int p0] (kB D ct ad Z G M sz)) (va_Qv (fun (_ : Unit) => True) (fun _ t => kE D ct ad G (wA ad G sz) y t) (wA ad G sz)) 0 0 (wA ad G sz) := by
  refine Met.ofW (cc := cX0_chooseByCosts) (maxL := 5) (ret := none) (by decide) rfl ?_
  intro p e s m args below meth c s₁ B hml hv
  obtain ⟨rfl, hsz, hP, hK, hD0, hZ, hN⟩ := hv
  have hx := B.exec
  have hb := B.bytes
  have hr := B.returns
  have hts := atoms_spec (ws := wuX0_chooseByCosts) B.pre
  have hown : s.vm.findClass RX0 = some m.cls := findClass_of_methodNamed B.named
  have hlocks := B.notSynchronized
  subst hsz
  have hD := wD_self (sz := s.heap.size) hD0
  have hA9 : ∀ q, s.heap.size ≤ q → wA ad G s.heap.size q := fun q h => Or.inr h
  generalize hAe : wA ad G s.heap.size = A at hD hA9 hZ ⊢
  have hS : va_S A s.heap s.heap [] := va_S.rf
  have hl := lv_entry ([.ref (ad a), .int p0]) (n := 5) (Nat.le_of_ble_eq_true rfl)
  rw [lg_entry_eq]
  generalize (lg_sl ([.ref (ad a), .int p0]) ++ List.replicate (5 - (lg_sl ([.ref (ad a), .int p0])).length) Slot.unset).toArray = ls at hl ⊢
  have hl : lv_has ls 5 [(0, .ref (ad a)), (1, .int p0)] := hl
  unfold FX0_chooseByCosts at hF
  refine lv_aload_n hx hb dX0_chooseByCosts_0 rfl (lv_at hl 0 rfl) ?_
  refine va_get (D := D) (ci := 0) (v := va_re ad (M.2 a 3)) (C := RX0) (T := TX0) (N := 21) hx hb hts (mus hf_X0) hown hK hP a (wld_o ct ad G M hc hk (by decide)) rfl 3 (by decide) (hts (.fieldLink RX0 36 "VideoSuite$Coder" "work" "LVideoSuite$Work;") (mu mw_817)) (fun _ h9 => h9) rfl dX0_chooseByCosts_1 ?_
  obtain ⟨b2, ho2, hc2, hk2, hF⟩ := dr_some hF
  refine W_st (st' := [.ref (ad b2)]) (by rw [va_some ho2]) ?_
  refine va_get (D := D) (ci := 9) (v := va_re ad (M.2 b2 1)) (C := RX9) (T := TX9) (N := 20) hx hb hts (mus hf_X9) hown hK hP b2 (wld_o ct ad G M hc2 hk2 (by decide)) rfl 1 (by decide) (hts (.fieldLink RX0 81 "VideoSuite$Work" "head" "LVideoSuite$Header;") (mu mw_425)) (fun _ h9 => h9) rfl dX0_chooseByCosts_4 ?_
  obtain ⟨b3, ho3, hc3, hk3, hF⟩ := dr_some hF
  refine W_st (st' := [.ref (ad b3)]) (by rw [va_some ho3]) ?_
  refine va_get (D := D) (ci := 3) (v := va_re ad (M.2 b3 0)) (C := RX3) (T := TX3) (N := 4) hx hb hts (mus hf_X3) hown hK hP b3 (wld_o ct ad G M hc3 hk3 (by decide)) rfl 0 (by decide) (hts (.fieldLink RX0 252 "VideoSuite$Header" "v" "[I") (mu mw_620)) (fun _ h9 => h9) rfl dX0_chooseByCosts_7 ?_
  refine lv_iconst (v := (1 : Int32)) hx hb dX0_chooseByCosts_10 (by decide) ?_
  obtain ⟨b4, ho4, hc4, hk4, hF⟩ := dr_some hF
  refine W_st (st' := [.int (1 : Int32), .ref (ad b4)]) (by rw [va_some ho4]) ?_
  obtain ⟨hvc, hF⟩ := chk_some hF
  refine va_iald hx hb hK hP b4 1 (wld_i ct ad G M hc4 hk4) rfl hvc dX0_chooseByCosts_11 ?_
  obtain ⟨x5, ex5, hF⟩ := ltt_some hF
  refine lv_topi (fun zx5 ezx5 => ?_)
  obtain rfl : x5 = zx5 := ex5.trans ezx5.symm
  refine lv_istore_n (lv' := [(2, .int x5), (0, .ref (ad a)), (1, .int p0)]) hx hb dX0_chooseByCosts_12 rfl hl (by decide) rfl (fun ls hl => ?_)
  refine lv_aload_n hx hb dX0_chooseByCosts_13 rfl (lv_at hl 1 rfl) ?_
  refine va_get (D := D) (ci := 0) (v := va_re ad (M.2 a 20)) (C := RX0) (T := TX0) (N := 21) hx hb hts (mus hf_X0) hown hK hP a (wld_o ct ad G M hc hk (by decide)) rfl 20 (by decide) (hts (.fieldLink RX0 75 "VideoSuite$Coder" "choice" "[I") (mu mw_838)) (fun _ h9 => h9) rfl dX0_chooseByCosts_14 ?_
  refine lv_bipush (v := (10 : Int32)) hx hb dX0_chooseByCosts_17 (by decide) ?_
  refine lv_ldcw (v := (2147483647 : Int32)) hx hb hown (hts (.constant RX0 435 (2147483647 : Int32)) (mu mw_2529)) dX0_chooseByCosts_19 ?_
  obtain ⟨b6, ho6, hc6, hk6, hF⟩ := dr_some hF
  refine W_st (st' := [.int (2147483647 : Int32), .int (10 : Int32), .ref (ad b6)]) (by rw [va_some ho6]) ?_
  obtain ⟨hvc, hF⟩ := chk_some hF
  refine va_iast hx hb hK hP hD hS b6 1 (wld_i ct ad G M hc6 hk6) rfl hvc dX0_chooseByCosts_22 (fun H locs hP hD hS => ?_)
  obtain ⟨M7, eM7, hF⟩ := ltt_some hF
  rw [set_i ct ad G M hc6 hk6, ← eM7] at hP hD
  refine lv_aload_n hx hb dX0_chooseByCosts_23 rfl (lv_at hl 1 rfl) ?_
  refine va_get (D := D) (ci := 0) (v := va_re ad (M7.2 a 20)) (C := RX0) (T := TX0) (N := 21) hx hb hts (mus hf_X0) hown hK hP a (wld_o ct ad G M7 hc hk (by decide)) rfl 20 (by decide) (hts (.fieldLink RX0 75 "VideoSuite$Coder" "choice" "[I") (mu mw_838)) (fun _ h9 => h9) rfl dX0_chooseByCosts_24 ?_
  refine lv_bipush (v := (11 : Int32)) hx hb dX0_chooseByCosts_27 (by decide) ?_
  refine lv_iconst (v := (1 : Int32)) hx hb dX0_chooseByCosts_29 (by decide) ?_
  obtain ⟨b8, ho8, hc8, hk8, hF⟩ := dr_some hF
  refine W_st (st' := [.int (1 : Int32), .int (11 : Int32), .ref (ad b8)]) (by rw [va_some ho8]) ?_
  obtain ⟨hvc, hF⟩ := chk_some hF
  refine va_iast hx hb hK hP hD hS b8 1 (wld_i ct ad G M7 hc8 hk8) rfl hvc dX0_chooseByCosts_30 (fun H locs hP hD hS => ?_)
  obtain ⟨M9, eM9, hF⟩ := ltt_some hF
  rw [set_i ct ad G M7 hc8 hk8, ← eM9] at hP hD
  refine lv_aload_n hx hb dX0_chooseByCosts_31 rfl (lv_at hl 1 rfl) ?_
  refine va_get (D := D) (ci := 0) (v := va_re ad (M9.2 a 20)) (C := RX0) (T := TX0) (N := 21) hx hb hts (mus hf_X0) hown hK hP a (wld_o ct ad G M9 hc hk (by decide)) rfl 20 (by decide) (hts (.fieldLink RX0 75 "VideoSuite$Coder" "choice" "[I") (mu mw_838)) (fun _ h9 => h9) rfl dX0_chooseByCosts_32 ?_
  refine lv_bipush (v := (12 : Int32)) hx hb dX0_chooseByCosts_35 (by decide) ?_
  refine lv_iconst (v := (2 : Int32)) hx hb dX0_chooseByCosts_37 (by decide) ?_
  obtain ⟨b10, ho10, hc10, hk10, hF⟩ := dr_some hF
  refine W_st (st' := [.int (2 : Int32), .int (12 : Int32), .ref (ad b10)]) (by rw [va_some ho10]) ?_
  obtain ⟨hvc, hF⟩ := chk_some hF
  refine va_iast hx hb hK hP hD hS b10 1 (wld_i ct ad G M9 hc10 hk10) rfl hvc dX0_chooseByCosts_38 (fun H locs hP hD hS => ?_)
  obtain ⟨M11, eM11, hF⟩ := ltt_some hF
  rw [set_i ct ad G M9 hc10 hk10, ← eM11] at hP hD
  refine lv_iload_n hx hb dX0_chooseByCosts_39 rfl (lv_at hl 0 rfl) ?_
  refine lv_iconst (v := (2 : Int32)) hx hb dX0_chooseByCosts_40 (by decide) ?_
  obtain ⟨y12, hy12, hF⟩ := bnd_some hF
  have J12 : ∀ (H : Heap) (locs : List Loc) (ls : Array Slot), va_P D classes (wld ct ad G y12) H → va_D A (wld ct ad G y12) → va_S A s.heap H locs → lv_has ls 5 [(2, .int x5), (0, .ref (ad a)), (1, .int p0)] → W p l e (headSpec wuX0_chooseByCosts ({ frames := 6, cells := 0, slots := 0, locals := 175 })).room s m ([.ref (ad a), .int p0] : List Value).toArray below meth c H locs 0 0 (MQ below (va_Qv (fun (_ : Unit) => True) (fun _ t => kE D ct ad G A y t) A) ([.ref (ad a), .int p0] : List Value).toArray s 0 0 A) (F0 m 70 ls []) := by
    intro H locs ls hP hD hS hl
    refine lv_iload_n hx hb dX0_chooseByCosts_70 rfl (lv_at hl 0 rfl) ?_
    refine lv_iconst (v := (1 : Int32)) hx hb dX0_chooseByCosts_71 (by decide) ?_
    obtain ⟨y13, hy13, hF⟩ := bnd_some hF
    have J13 : ∀ (H : Heap) (locs : List Loc) (ls : Array Slot), va_P D classes (wld ct ad G y13) H → va_D A (wld ct ad G y13) → va_S A s.heap H locs → lv_has ls 5 [(2, .int x5), (0, .ref (ad a)), (1, .int p0)] → W p l e (headSpec wuX0_chooseByCosts ({ frames := 6, cells := 0, slots := 0, locals := 175 })).room s m ([.ref (ad a), .int p0] : List Value).toArray below meth c H locs 0 0 (MQ below (va_Qv (fun (_ : Unit) => True) (fun _ t => kE D ct ad G A y t) A) ([.ref (ad a), .int p0] : List Value).toArray s 0 0 A) (F0 m 115 ls []) := by
      intro H locs ls hP hD hS hl
      refine lv_aload_n hx hb dX0_chooseByCosts_115 rfl (lv_at hl 1 rfl) ?_
      refine va_get (D := D) (ci := 0) (v := va_re ad (y13.2 a 3)) (C := RX0) (T := TX0) (N := 21) hx hb hts (mus hf_X0) hown hK hP a (wld_o ct ad G y13 hc hk (by decide)) rfl 3 (by decide) (hts (.fieldLink RX0 36 "VideoSuite$Coder" "work" "LVideoSuite$Work;") (mu mw_817)) (fun _ h9 => h9) rfl dX0_chooseByCosts_116 ?_
      refine lv_iload_n hx hb dX0_chooseByCosts_119 rfl (lv_at hl 2 rfl) ?_
      obtain ⟨b14, ho14, hc14, hk14, hF⟩ := dr_some hF
      refine W_st (st' := [.int p0, .ref (ad b14)]) (by rw [va_some ho14]) ?_
      obtain ⟨y15, hy15, hF⟩ := bnd_some hF
      have hf9 := wA_in hD hA9 hS
      refine va_calli (va_runV (As := [.int p0]) (rest := []) ⟨hx, hb, hml, hown, hts⟩ (kX9_sides l D ct ad Z G y13 H.size b14 p0 y15 hc14 hk14 hy15) (cwV 1 hts gX0_chooseByCosts_X9_sides rfl rfl rfl (by decide +kernel) ⟨Nat.le_of_ble_eq_true rfl, Nat.le_of_ble_eq_true rfl⟩) ⟨fun a U g mk q => by obtain ⟨q0, q1, qP, qK, qD, qZ, qN⟩ := q; exact ⟨q0, q1, qP, va_K.moved (u := U) (U := U.calling g mk a) (Vm.Alike.refl U.vm) qK, qD, sF.moved (u := U) (U := U.calling g mk a) (Vm.Alike.refl U.vm) qZ, nF.same rfl qN⟩, va_recv hK hP (ci := 9) (q0 := b14) rfl (wld_o ct ad G y13 hc14 hk14 (by decide)), fun U hU hW => ⟨rfl, by rw [hU], by rw [hU]; exact hP, va_K.moved hW.alike hK, hD.weaken (fun _ _ _ _ => trivial), by rw [hU]; exact ((hZ.kept hS.2.1).narrow hf9).moved hW.alike, hN.warm hW⟩⟩ rfl rfl hl.1 rfl (lv_room (Nat.le_of_ble_eq_true rfl)) dX0_chooseByCosts_120 ⟨(Nat.zero_le _), (Nat.zero_le _)⟩) hS (fun q _ h => hf9 q h) hf9 (fun r u t H locs ht hvm hw hB hz1 hk1 hS => ?_)
      obtain ⟨hP, hK9, hD9⟩ := hB
      rw [ht] at hP
      try dsimp only at hw
      subst hw
      have hD := hD9.weaken (fun _ q _ h => hf9 q.1 h)
      refine lv_istore_n (lv' := [(3, .int y15.2), (2, .int x5), (0, .ref (ad a)), (1, .int p0)]) hx hb dX0_chooseByCosts_123 rfl hl (by decide) rfl (fun ls hl => ?_)
      refine lv_iconst (v := (0 : Int32)) hx hb dX0_chooseByCosts_124 (by decide) ?_
      refine lv_istore (lv' := [(4, .int (0 : Int32)), (3, .int y15.2), (2, .int x5), (0, .ref (ad a)), (1, .int p0)]) hx hb dX0_chooseByCosts_125 hl (by decide) rfl (fun ls hl => ?_)
      obtain ⟨y16, hy16, hF⟩ := bnd_some hF
      have K16 : ∀ (H : Heap) (locs : List Loc) (ls : Array Slot), va_P D classes (wld ct ad G y16.2) H → va_D A (wld ct ad G y16.2) → va_S A s.heap H locs → lv_has ls 5 [(4, .int y16.1), (3, .int y15.2), (2, .int x5), (0, .ref (ad a)), (1, .int p0)] → W p l e (headSpec wuX0_chooseByCosts ({ frames := 6, cells := 0, slots := 0, locals := 175 })).room s m ([.ref (ad a), .int p0] : List Value).toArray below meth c H locs 0 0 (MQ below (va_Qv (fun (_ : Unit) => True) (fun _ t => kE D ct ad G A y t) A) ([.ref (ad a), .int p0] : List Value).toArray s 0 0 A) (F0 m 199 ls []) := by
        intro H locs ls hP hD hS hl
        refine lv_aload_n hx hb dX0_chooseByCosts_199 rfl (lv_at hl 3 rfl) ?_
        refine lv_aload_n hx hb dX0_chooseByCosts_200 rfl (lv_at hl 3 rfl) ?_
        refine lv_iload_n hx hb dX0_chooseByCosts_201 rfl (lv_at hl 4 rfl) ?_
        refine lv_iload_n hx hb dX0_chooseByCosts_202 rfl (lv_at hl 1 rfl) ?_
        obtain ⟨y19, hy19, hF⟩ := bnd_some hF
        have hf9 := wA_in hD hA9 hS
        refine va_calli (va_runV (As := [.int p0, .int y15.2]) (rest := [.ref (ad a)]) ⟨hx, hb, hml, hown, hts⟩ (kX0_costOfFour l D ct ad Z G y16.2 H.size a p0 y15.2 y19 hc hk hy19) (cwV 2 hts gX0_chooseByCosts_X0_costOfFour rfl rfl rfl (by decide +kernel) ⟨Nat.le_of_ble_eq_true rfl, Nat.le_of_ble_eq_true rfl⟩) ⟨fun a U g mk q => by obtain ⟨q0, q1, qP, qK, qD, qZ, qN⟩ := q; exact ⟨q0, q1, qP, va_K.moved (u := U) (U := U.calling g mk a) (Vm.Alike.refl U.vm) qK, qD, sF.moved (u := U) (U := U.calling g mk a) (Vm.Alike.refl U.vm) qZ, nF.same rfl qN⟩, va_recv hK hP (ci := 0) (q0 := a) rfl (wld_o ct ad G y16.2 hc hk (by decide)), fun U hU hW => ⟨rfl, by rw [hU], by rw [hU]; exact hP, va_K.moved hW.alike hK, hD.weaken (fun _ _ _ _ => trivial), by rw [hU]; exact ((hZ.kept hS.2.1).narrow hf9).moved hW.alike, hN.warm hW⟩⟩ rfl rfl hl.1 rfl (lv_room (Nat.le_of_ble_eq_true rfl)) dX0_chooseByCosts_203 ⟨(Nat.zero_le _), (Nat.zero_le _)⟩) hS (fun q _ h => hf9 q h) hf9 (fun r u t H locs ht hvm hw hB hz1 hk1 hS => ?_)
        obtain ⟨hP, hK9, hD9⟩ := hB
        rw [ht] at hP
        try dsimp only at hw
        subst hw
        have hD := hD9.weaken (fun _ q _ h => hf9 q.1 h)
        refine lv_iconst (v := (0 : Int32)) hx hb dX0_chooseByCosts_206 (by decide) ?_
        refine lv_iconst (v := (0 : Int32)) hx hb dX0_chooseByCosts_207 (by decide) ?_
        obtain ⟨y20, hy20, hF⟩ := bnd_some hF
        have hf9 := wA_in hD hA9 hS
        refine va_callv (va_runV (As := [.int y19.2, .int (0 : Int32), .int (0 : Int32)]) (rest := []) ⟨hx, hb, hml, hown, hts⟩ (kX0_offer l D ct ad Z G y19.1 H.size a y19.2 ((0 : Int32)) ((0 : Int32)) y20 hc hk hy20) (cwV 3 hts gX0_chooseByCosts_X0_offer rfl rfl rfl (by decide +kernel) ⟨Nat.le_of_ble_eq_true rfl, Nat.le_of_ble_eq_true rfl⟩) ⟨fun a U g mk q => by obtain ⟨q0, q1, qP, qK, qD, qZ, qN⟩ := q; exact ⟨q0, q1, qP, va_K.moved (u := U) (U := U.calling g mk a) (Vm.Alike.refl U.vm) qK, qD, sF.moved (u := U) (U := U.calling g mk a) (Vm.Alike.refl U.vm) qZ, nF.same rfl qN⟩, va_recv hK hP (ci := 0) (q0 := a) rfl (wld_o ct ad G y19.1 hc hk (by decide)), fun U hU hW => ⟨rfl, by rw [hU], by rw [hU]; exact hP, va_K.moved hW.alike hK, hD.weaken (fun _ _ _ _ => trivial), by rw [hU]; exact ((hZ.kept hS.2.1).narrow hf9).moved hW.alike, hN.warm hW⟩⟩ rfl rfl hl.1 rfl (lv_room (Nat.le_of_ble_eq_true rfl)) dX0_chooseByCosts_208 ⟨(Nat.zero_le _), (Nat.zero_le _)⟩) hS (fun q _ h => hf9 q h) hf9 (fun u t H locs ht hvm hw hB hz1 hk1 hS => ?_)
        obtain ⟨hP, hK9, hD9⟩ := hB
        rw [ht] at hP
        have hD := hD9.weaken (fun _ q _ h => hf9 q.1 h)
        refine lv_aload_n hx hb dX0_chooseByCosts_211 rfl (lv_at hl 3 rfl) ?_
        refine va_get (D := D) (ci := 0) (v := va_re ad (y20.2 a 3)) (C := RX0) (T := TX0) (N := 21) hx hb hts (mus hf_X0) hown hK hP a (wld_o ct ad G y20 hc hk (by decide)) rfl 3 (by decide) (hts (.fieldLink RX0 36 "VideoSuite$Coder" "work" "LVideoSuite$Work;") (mu mw_817)) (fun _ h9 => h9) rfl dX0_chooseByCosts_212 ?_
        refine lv_iload_n hx hb dX0_chooseByCosts_215 rfl (lv_at hl 4 rfl) ?_
        obtain ⟨b21, ho21, hc21, hk21, hF⟩ := dr_some hF
        refine W_st (st' := [.int p0, .ref (ad b21)]) (by rw [va_some ho21]) ?_
        obtain ⟨y22, hy22, hF⟩ := bnd_some hF
        have hf9 := wA_in hD hA9 hS
        refine va_callv (va_runV (As := [.int p0]) (rest := []) ⟨hx, hb, hml, hown, hts⟩ (kX9_clearBlock l D ct ad Z G y20 H.size b21 p0 y22 hc21 hk21 hy22) (cwV 1 hts gX0_chooseByCosts_X9_clearBlock rfl rfl rfl (by decide +kernel) ⟨Nat.le_of_ble_eq_true rfl, Nat.le_of_ble_eq_true rfl⟩) ⟨fun a U g mk q => by obtain ⟨q0, q1, qP, qK, qD, qZ, qN⟩ := q; exact ⟨q0, q1, qP, va_K.moved (u := U) (U := U.calling g mk a) (Vm.Alike.refl U.vm) qK, qD, sF.moved (u := U) (U := U.calling g mk a) (Vm.Alike.refl U.vm) qZ, nF.same rfl qN⟩, va_recv hK hP (ci := 9) (q0 := b21) rfl (wld_o ct ad G y20 hc21 hk21 (by decide)), fun U hU hW => ⟨rfl, by rw [hU], by rw [hU]; exact hP, va_K.moved hW.alike hK, hD.weaken (fun _ _ _ _ => trivial), by rw [hU]; exact ((hZ.kept hS.2.1).narrow hf9).moved hW.alike, hN.warm hW⟩⟩ rfl rfl hl.1 rfl (lv_room (Nat.le_of_ble_eq_true rfl)) dX0_chooseByCosts_216 ⟨(Nat.zero_le _), (Nat.zero_le _)⟩) hS (fun q _ h => hf9 q h) hf9 (fun u t H locs ht hvm hw hB hz1 hk1 hS => ?_)
        obtain ⟨hP, hK9, hD9⟩ := hB
        rw [ht] at hP
        have hD := hD9.weaken (fun _ q _ h => hf9 q.1 h)
        refine lv_aload_n hx hb dX0_chooseByCosts_219 rfl (lv_at hl 3 rfl) ?_
        refine va_get (D := D) (ci := 0) (v := va_re ad (y22.2 a 3)) (C := RX0) (T := TX0) (N := 21) hx hb hts (mus hf_X0) hown hK hP a (wld_o ct ad G y22 hc hk (by decide)) rfl 3 (by decide) (hts (.fieldLink RX0 36 "VideoSuite$Coder" "work" "LVideoSuite$Work;") (mu mw_817)) (fun _ h9 => h9) rfl dX0_chooseByCosts_220 ?_
        obtain ⟨b23, ho23, hc23, hk23, hF⟩ := dr_some hF
        refine W_st (st' := [.ref (ad b23)]) (by rw [va_some ho23]) ?_
        refine va_get (D := D) (ci := 9) (v := va_re ad (y22.2 b23 6)) (C := RX9) (T := TX9) (N := 20) hx hb hts (mus hf_X9) hown hK hP b23 (wld_o ct ad G y22 hc23 hk23 (by decide)) rfl 6 (by decide) (hts (.fieldLink RX0 216 "VideoSuite$Work" "info" "[I") (mu mw_445)) (fun _ h9 => h9) rfl dX0_chooseByCosts_223 ?_
        refine lv_bipush (v := (8 : Int32)) hx hb dX0_chooseByCosts_226 (by decide) ?_
        refine lv_iload_n hx hb dX0_chooseByCosts_228 rfl (lv_at hl 4 rfl) ?_
        refine lv_imul hx hb dX0_chooseByCosts_229 ?_
        obtain ⟨x24, ex24, hF⟩ := ltt_some hF
        refine lv_topi (fun zx24 ezx24 => ?_)
        obtain rfl : x24 = zx24 := ex24.trans ezx24.symm
        refine lv_iconst (v := (0 : Int32)) hx hb dX0_chooseByCosts_230 (by decide) ?_
        refine lv_iadd hx hb dX0_chooseByCosts_231 ?_
        obtain ⟨x25, ex25, hF⟩ := ltt_some hF
        refine lv_topi (fun zx25 ezx25 => ?_)
        obtain rfl : x25 = zx25 := ex25.trans ezx25.symm
        refine lv_aload_n hx hb dX0_chooseByCosts_232 rfl (lv_at hl 3 rfl) ?_
        refine va_get (D := D) (ci := 0) (v := va_re ad (y22.2 a 20)) (C := RX0) (T := TX0) (N := 21) hx hb hts (mus hf_X0) hown hK hP a (wld_o ct ad G y22 hc hk (by decide)) rfl 20 (by decide) (hts (.fieldLink RX0 75 "VideoSuite$Coder" "choice" "[I") (mu mw_838)) (fun _ h9 => h9) rfl dX0_chooseByCosts_233 ?_
        refine lv_bipush (v := (11 : Int32)) hx hb dX0_chooseByCosts_236 (by decide) ?_
        obtain ⟨b26, ho26, hc26, hk26, hF⟩ := dr_some hF
        refine W_st (st' := [.int (11 : Int32), .ref (ad b26), .int x25, va_re ad (y22.2 b23 6)]) (by rw [va_some ho26]) ?_
        obtain ⟨hvc, hF⟩ := chk_some hF
        refine va_iald hx hb hK hP b26 1 (wld_i ct ad G y22 hc26 hk26) rfl hvc dX0_chooseByCosts_238 ?_
        obtain ⟨x27, ex27, hF⟩ := ltt_some hF
        refine lv_topi (fun zx27 ezx27 => ?_)
        obtain rfl : x27 = zx27 := ex27.trans ezx27.symm
        obtain ⟨b28, ho28, hc28, hk28, hF⟩ := dr_some hF
        refine W_st (st' := [.int x27, .int x25, .ref (ad b28)]) (by rw [va_some ho28]) ?_
        obtain ⟨hvc, hF⟩ := chk_some hF
        refine va_iast hx hb hK hP hD hS b28 1 (wld_i ct ad G y22 hc28 hk28) rfl hvc dX0_chooseByCosts_239 (fun H locs hP hD hS => ?_)
        obtain ⟨M29, eM29, hF⟩ := ltt_some hF
        rw [set_i ct ad G y22 hc28 hk28, ← eM29] at hP hD
        refine lv_aload_n hx hb dX0_chooseByCosts_240 rfl (lv_at hl 3 rfl) ?_
        refine va_get (D := D) (ci := 0) (v := va_re ad (M29.2 a 20)) (C := RX0) (T := TX0) (N := 21) hx hb hts (mus hf_X0) hown hK hP a (wld_o ct ad G M29 hc hk (by decide)) rfl 20 (by decide) (hts (.fieldLink RX0 75 "VideoSuite$Coder" "choice" "[I") (mu mw_838)) (fun _ h9 => h9) rfl dX0_chooseByCosts_241 ?_
        refine lv_bipush (v := (11 : Int32)) hx hb dX0_chooseByCosts_244 (by decide) ?_
        obtain ⟨b30, ho30, hc30, hk30, hF⟩ := dr_some hF
        refine W_st (st' := [.int (11 : Int32), .ref (ad b30)]) (by rw [va_some ho30]) ?_
        obtain ⟨hvc, hF⟩ := chk_some hF
        refine va_iald hx hb hK hP b30 1 (wld_i ct ad G M29 hc30 hk30) rfl hvc dX0_chooseByCosts_246 ?_
        obtain ⟨x31, ex31, hF⟩ := ltt_some hF
        refine lv_topi (fun zx31 ezx31 => ?_)
        obtain rfl : x31 = zx31 := ex31.trans ezx31.symm
        refine lv_iconst (v := (3 : Int32)) hx hb dX0_chooseByCosts_247 (by decide) ?_
        obtain ⟨y32, hy32, hF⟩ := bnd_some hF
        have J32 : ∀ (H : Heap) (locs : List Loc) (ls : Array Slot), va_P D classes (wld ct ad G y32.2) H → va_D A (wld ct ad G y32.2) → va_S A s.heap H locs → lv_has ls 5 [(4, .int y32.1), (3, .int y15.2), (2, .int x5), (0, .ref (ad a)), (1, .int p0)] → W p l e (headSpec wuX0_chooseByCosts ({ frames := 6, cells := 0, slots := 0, locals := 175 })).room s m ([.ref (ad a), .int p0] : List Value).toArray below meth c H locs 0 0 (MQ below (va_Qv (fun (_ : Unit) => True) (fun _ t => kE D ct ad G A y t) A) ([.ref (ad a), .int p0] : List Value).toArray s 0 0 A) (F0 m 334 ls []) := by
          intro H locs ls hP hD hS hl
          obtain rfl := Option.some.inj hF
          exact W.vret hx hb hr (fun t ht hW => ⟨⟨(), rfl, trivial, ⟨by rw [ht]; exact hP, va_K.moved hW.alike hK, hD⟩⟩, hS.F ht⟩) hS.2.2 dX0_chooseByCosts_334
        clear hF
        have hF := hy32
        clear hy32
        refine lv_icmp_ne (tgt := 267) hx hb dX0_chooseByCosts_248 (by decide) (fun c33 => ?_) (fun c33 => ?_)
        · rw [if_neg c33] at hF
          refine lv_iconst (v := (0 : Int32)) hx hb dX0_chooseByCosts_267 (by decide) ?_
          refine lv_istore (lv' := [(4, .int (0 : Int32)), (3, .int y15.2), (2, .int x5), (0, .ref (ad a)), (1, .int p0)]) hx hb dX0_chooseByCosts_268 hl (by decide) rfl (fun ls hl => ?_)
          obtain ⟨y34, hy34, hF⟩ := bnd_some hF
          have K34 : ∀ (H : Heap) (locs : List Loc) (ls : Array Slot), va_P D classes (wld ct ad G y34.2) H → va_D A (wld ct ad G y34.2) → va_S A s.heap H locs → lv_has ls 5 [(4, .int y34.1), (3, .int y15.2), (2, .int x5), (0, .ref (ad a)), (1, .int p0)] → W p l e (headSpec wuX0_chooseByCosts ({ frames := 6, cells := 0, slots := 0, locals := 175 })).room s m ([.ref (ad a), .int p0] : List Value).toArray below meth c H locs 0 0 (MQ below (va_Qv (fun (_ : Unit) => True) (fun _ t => kE D ct ad G A y t) A) ([.ref (ad a), .int p0] : List Value).toArray s 0 0 A) (F0 m 328 ls []) := by
            intro H locs ls hP hD hS hl
            refine lv_aload_n hx hb dX0_chooseByCosts_328 rfl (lv_at hl 3 rfl) ?_
            refine lv_iload_n hx hb dX0_chooseByCosts_329 rfl (lv_at hl 4 rfl) ?_
            refine lv_iload_n hx hb dX0_chooseByCosts_330 rfl (lv_at hl 1 rfl) ?_
            obtain ⟨y37, hy37, hF⟩ := bnd_some hF
            have hf9 := wA_in hD hA9 hS
            refine va_callv (va_runV (As := [.int p0, .int y15.2]) (rest := []) ⟨hx, hb, hml, hown, hts⟩ (kX0_chooseColours l D ct ad Z G y34.2 H.size a p0 y15.2 y37 hc hk hy37) (cwV 2 hts gX0_chooseByCosts_X0_chooseColours rfl rfl rfl (by decide +kernel) ⟨Nat.le_of_ble_eq_true rfl, Nat.le_of_ble_eq_true rfl⟩) ⟨fun a U g mk q => by obtain ⟨q0, q1, qP, qK, qD, qZ, qN⟩ := q; exact ⟨q0, q1, qP, va_K.moved (u := U) (U := U.calling g mk a) (Vm.Alike.refl U.vm) qK, qD, sF.moved (u := U) (U := U.calling g mk a) (Vm.Alike.refl U.vm) qZ, nF.same rfl qN⟩, va_recv hK hP (ci := 0) (q0 := a) rfl (wld_o ct ad G y34.2 hc hk (by decide)), fun U hU hW => ⟨rfl, by rw [hU], by rw [hU]; exact hP, va_K.moved hW.alike hK, hD.weaken (fun _ _ _ _ => trivial), by rw [hU]; exact ((hZ.kept hS.2.1).narrow hf9).moved hW.alike, hN.warm hW⟩⟩ rfl rfl hl.1 rfl (lv_room (Nat.le_of_ble_eq_true rfl)) dX0_chooseByCosts_331 ⟨(Nat.zero_le _), (Nat.zero_le _)⟩) hS (fun q _ h => hf9 q h) hf9 (fun u t H locs ht hvm hw hB hz1 hk1 hS => ?_)
            obtain ⟨hP, hK9, hD9⟩ := hB
            rw [ht] at hP
            have hD := hD9.weaken (fun _ q _ h => hf9 q.1 h)
            obtain rfl := Option.some.inj hF
            exact J32 _ _ _ hP hD hS (lv_sub hl [0, 1, 2, 3, 4] rfl)
          clear hF
          refine itr_rule (fun (s35 : Int32 × DD) => ∀ (H : Heap) (locs : List Loc) (ls : Array Slot), va_P D classes (wld ct ad G s35.2) H → va_D A (wld ct ad G s35.2) → va_S A s.heap H locs → lv_has ls 5 [(4, .int s35.1), (3, .int y15.2), (2, .int x5), (0, .ref (ad a)), (1, .int p0)] → W p l e (headSpec wuX0_chooseByCosts ({ frames := 6, cells := 0, slots := 0, locals := 175 })).room s m ([.ref (ad a), .int p0] : List Value).toArray below meth c H locs 0 0 (MQ below (va_Qv (fun (_ : Unit) => True) (fun _ t => kE D ct ad G A y t) A) ([.ref (ad a), .int p0] : List Value).toArray s 0 0 A) (F0 m 270 ls [])) ?_ _ _ hy34 _ _ _ hP hD hS (lv_sub hl [0, 1, 2, 3, 4] rfl)
          rintro s35 ⟨z38, hF, hwz38⟩ H locs ls hP hD hS hl
          try dsimp only at hF
          refine lv_iload hx hb dX0_chooseByCosts_270 (lv_at hl 0 rfl) ?_
          refine lv_bipush (v := (16 : Int32)) hx hb dX0_chooseByCosts_272 (by decide) ?_
          refine lv_icmp_ge (tgt := 328) hx hb dX0_chooseByCosts_274 (by decide) (fun c39 => ?_) (fun c39 => ?_)
          · rw [if_pos c39] at hF
            obtain rfl := Option.some.inj hF
            subst hwz38
            exact K34 _ _ _ hP hD hS (lv_sub hl [0, 1, 2, 3, 4] rfl)
          · rw [if_neg c39] at hF
            refine lv_aload_n hx hb dX0_chooseByCosts_277 rfl (lv_at hl 3 rfl) ?_
            refine va_get (D := D) (ci := 0) (v := va_re ad (s35.2.2 a 3)) (C := RX0) (T := TX0) (N := 21) hx hb hts (mus hf_X0) hown hK hP a (wld_o ct ad G s35.2 hc hk (by decide)) rfl 3 (by decide) (hts (.fieldLink RX0 36 "VideoSuite$Coder" "work" "LVideoSuite$Work;") (mu mw_817)) (fun _ h9 => h9) rfl dX0_chooseByCosts_278 ?_
            obtain ⟨b40, ho40, hc40, hk40, hF⟩ := dr_some hF
            refine W_st (st' := [.ref (ad b40)]) (by rw [va_some ho40]) ?_
            refine va_get (D := D) (ci := 9) (v := va_re ad (s35.2.2 b40 7)) (C := RX9) (T := TX9) (N := 20) hx hb hts (mus hf_X9) hown hK hP b40 (wld_o ct ad G s35.2 hc40 hk40 (by decide)) rfl 7 (by decide) (hts (.fieldLink RX0 356 "VideoSuite$Work" "mode" "[I") (mu mw_448)) (fun _ h9 => h9) rfl dX0_chooseByCosts_281 ?_
            refine lv_bipush (v := (16 : Int32)) hx hb dX0_chooseByCosts_284 (by decide) ?_
            refine lv_iload_n hx hb dX0_chooseByCosts_286 rfl (lv_at hl 4 rfl) ?_
            refine lv_imul hx hb dX0_chooseByCosts_287 ?_
            obtain ⟨x41, ex41, hF⟩ := ltt_some hF
            refine lv_topi (fun zx41 ezx41 => ?_)
            obtain rfl : x41 = zx41 := ex41.trans ezx41.symm
            refine lv_iload hx hb dX0_chooseByCosts_288 (lv_at hl 0 rfl) ?_
            refine lv_iadd hx hb dX0_chooseByCosts_290 ?_
            obtain ⟨x42, ex42, hF⟩ := ltt_some hF
            refine lv_topi (fun zx42 ezx42 => ?_)
            obtain rfl : x42 = zx42 := ex42.trans ezx42.symm
            refine lv_aload_n hx hb dX0_chooseByCosts_291 rfl (lv_at hl 3 rfl) ?_
            refine va_get (D := D) (ci := 0) (v := va_re ad (s35.2.2 a 20)) (C := RX0) (T := TX0) (N := 21) hx hb hts (mus hf_X0) hown hK hP a (wld_o ct ad G s35.2 hc hk (by decide)) rfl 20 (by decide) (hts (.fieldLink RX0 75 "VideoSuite$Coder" "choice" "[I") (mu mw_838)) (fun _ h9 => h9) rfl dX0_chooseByCosts_292 ?_
            refine lv_bipush (v := (11 : Int32)) hx hb dX0_chooseByCosts_295 (by decide) ?_
            obtain ⟨b43, ho43, hc43, hk43, hF⟩ := dr_some hF
            refine W_st (st' := [.int (11 : Int32), .ref (ad b43), .int x42, va_re ad (s35.2.2 b40 7)]) (by rw [va_some ho43]) ?_
            obtain ⟨hvc, hF⟩ := chk_some hF
            refine va_iald hx hb hK hP b43 1 (wld_i ct ad G s35.2 hc43 hk43) rfl hvc dX0_chooseByCosts_297 ?_
            obtain ⟨x44, ex44, hF⟩ := ltt_some hF
            refine lv_topi (fun zx44 ezx44 => ?_)
            obtain rfl : x44 = zx44 := ex44.trans ezx44.symm
            obtain ⟨y45, hy45, hF⟩ := bnd_some hF
            have J45 : ∀ (H : Heap) (locs : List Loc) (ls : Array Slot), va_P D classes (wld ct ad G s35.2) H → va_D A (wld ct ad G s35.2) → va_S A s.heap H locs → lv_has ls 5 [(4, .int s35.1), (3, .int y15.2), (2, .int x5), (0, .ref (ad a)), (1, .int p0)] → W p l e (headSpec wuX0_chooseByCosts ({ frames := 6, cells := 0, slots := 0, locals := 175 })).room s m ([.ref (ad a), .int p0] : List Value).toArray below meth c H locs 0 0 (MQ below (va_Qv (fun (_ : Unit) => True) (fun _ t => kE D ct ad G A y t) A) ([.ref (ad a), .int p0] : List Value).toArray s 0 0 A) (F0 m 321 ls [.int y45, .int x42, va_re ad (s35.2.2 b40 7)]) := by
              intro H locs ls hP hD hS hl
              obtain ⟨b46, ho46, hc46, hk46, hF⟩ := dr_some hF
              refine W_st (st' := [.int y45, .int x42, .ref (ad b46)]) (by rw [va_some ho46]) ?_
              obtain ⟨hvc, hF⟩ := chk_some hF
              refine va_iast hx hb hK hP hD hS b46 1 (wld_i ct ad G s35.2 hc46 hk46) rfl hvc dX0_chooseByCosts_321 (fun H locs hP hD hS => ?_)
              obtain ⟨M47, eM47, hF⟩ := ltt_some hF
              rw [set_i ct ad G s35.2 hc46 hk46, ← eM47] at hP hD
              obtain ⟨x48, ex48, hF⟩ := ltt_some hF
              refine lv_iinc (v := x48) (lv' := [(4, .int x48), (3, .int y15.2), (2, .int x5), (0, .ref (ad a)), (1, .int p0)]) hx hb dX0_chooseByCosts_322 hl (k := 0) rfl (by rw [ex48]; rfl) (by decide) rfl (fun ls hl => ?_)
              refine lv_goto (tgt := 270) hx hb dX0_chooseByCosts_325 (by decide) ?_
              obtain rfl := Option.some.inj hF
              exact hwz38 _ _ _ hP hD hS (lv_sub hl [0, 1, 2, 3, 4] rfl)
            clear hF
            have hF := hy45
            clear hy45
            refine lv_if_ne (tgt := 314) hx hb dX0_chooseByCosts_298 (by decide) (fun c49 => ?_) (fun c49 => ?_)
            · rw [if_neg c49] at hF
              refine lv_aload_n hx hb dX0_chooseByCosts_314 rfl (lv_at hl 3 rfl) ?_
              refine va_get (D := D) (ci := 0) (v := va_re ad (s35.2.2 a 20)) (C := RX0) (T := TX0) (N := 21) hx hb hts (mus hf_X0) hown hK hP a (wld_o ct ad G s35.2 hc hk (by decide)) rfl 20 (by decide) (hts (.fieldLink RX0 75 "VideoSuite$Coder" "choice" "[I") (mu mw_838)) (fun _ h9 => h9) rfl dX0_chooseByCosts_315 ?_
              refine lv_bipush (v := (12 : Int32)) hx hb dX0_chooseByCosts_318 (by decide) ?_
              refine W_st (st' := [.int (12 : Int32), .ref (ad b43), .int x42, va_re ad (s35.2.2 b40 7)]) (by rw [va_some ho43]) ?_
              obtain ⟨hvc, hF⟩ := chk_some hF
              refine va_iald hx hb hK hP b43 1 (wld_i ct ad G s35.2 hc43 hk43) rfl hvc dX0_chooseByCosts_320 ?_
              obtain ⟨x50, ex50, hF⟩ := ltt_some hF
              refine lv_topi (fun zx50 ezx50 => ?_)
              obtain rfl : x50 = zx50 := ex50.trans ezx50.symm
              obtain rfl := Option.some.inj hF
              exact J45 _ _ _ hP hD hS (lv_sub hl [0, 1, 2, 3, 4] rfl)
            · rw [if_pos c49] at hF
              refine lv_aload_n hx hb dX0_chooseByCosts_301 rfl (lv_at hl 3 rfl) ?_
              refine va_get (D := D) (ci := 0) (v := va_re ad (s35.2.2 a 20)) (C := RX0) (T := TX0) (N := 21) hx hb hts (mus hf_X0) hown hK hP a (wld_o ct ad G s35.2 hc hk (by decide)) rfl 20 (by decide) (hts (.fieldLink RX0 75 "VideoSuite$Coder" "choice" "[I") (mu mw_838)) (fun _ h9 => h9) rfl dX0_chooseByCosts_302 ?_
              refine lv_bipush (v := (13 : Int32)) hx hb dX0_chooseByCosts_305 (by decide) ?_
              refine lv_iload hx hb dX0_chooseByCosts_307 (lv_at hl 0 rfl) ?_
              refine lv_iadd hx hb dX0_chooseByCosts_309 ?_
              obtain ⟨x51, ex51, hF⟩ := ltt_some hF
              refine lv_topi (fun zx51 ezx51 => ?_)
              obtain rfl : x51 = zx51 := ex51.trans ezx51.symm
              refine W_st (st' := [.int x51, .ref (ad b43), .int x42, va_re ad (s35.2.2 b40 7)]) (by rw [va_some ho43]) ?_
              obtain ⟨hvc, hF⟩ := chk_some hF
              refine va_iald hx hb hK hP b43 1 (wld_i ct ad G s35.2 hc43 hk43) rfl hvc dX0_chooseByCosts_310 ?_
              obtain ⟨x52, ex52, hF⟩ := ltt_some hF
              refine lv_topi (fun zx52 ezx52 => ?_)
              obtain rfl : x52 = zx52 := ex52.trans ezx52.symm
              refine lv_goto (tgt := 321) hx hb dX0_chooseByCosts_311 (by decide) ?_
              obtain rfl := Option.some.inj hF
              exact J45 _ _ _ hP hD hS (lv_sub hl [0, 1, 2, 3, 4] rfl)
        · rw [if_pos c33] at hF
          refine lv_aload_n hx hb dX0_chooseByCosts_251 rfl (lv_at hl 3 rfl) ?_
          refine lv_iload_n hx hb dX0_chooseByCosts_252 rfl (lv_at hl 4 rfl) ?_
          refine lv_iload_n hx hb dX0_chooseByCosts_253 rfl (lv_at hl 2 rfl) ?_
          refine lv_aload_n hx hb dX0_chooseByCosts_254 rfl (lv_at hl 3 rfl) ?_
          refine va_get (D := D) (ci := 0) (v := va_re ad (M29.2 a 20)) (C := RX0) (T := TX0) (N := 21) hx hb hts (mus hf_X0) hown hK hP a (wld_o ct ad G M29 hc hk (by decide)) rfl 20 (by decide) (hts (.fieldLink RX0 75 "VideoSuite$Coder" "choice" "[I") (mu mw_838)) (fun _ h9 => h9) rfl dX0_chooseByCosts_255 ?_
          refine lv_bipush (v := (12 : Int32)) hx hb dX0_chooseByCosts_258 (by decide) ?_
          refine W_st (st' := [.int (12 : Int32), .ref (ad b30), .int x5, .int p0, .ref (ad a)]) (by rw [va_some ho30]) ?_
          obtain ⟨hvc, hF⟩ := chk_some hF
          refine va_iald hx hb hK hP b30 1 (wld_i ct ad G M29 hc30 hk30) rfl hvc dX0_chooseByCosts_260 ?_
          obtain ⟨x53, ex53, hF⟩ := ltt_some hF
          refine lv_topi (fun zx53 ezx53 => ?_)
          obtain rfl : x53 = zx53 := ex53.trans ezx53.symm
          obtain ⟨y54, hy54, hF⟩ := bnd_some hF
          have hf9 := wA_in hD hA9 hS
          refine va_callv (va_runV (As := [.int p0, .int x5, .int x53]) (rest := []) ⟨hx, hb, hml, hown, hts⟩ (kX0_useBest l D ct ad Z G M29 H.size a p0 x5 x53 y54 hc hk hy54) (cwV 3 hts gX0_chooseByCosts_X0_useBest rfl rfl rfl (by decide +kernel) ⟨Nat.le_of_ble_eq_true rfl, Nat.le_of_ble_eq_true rfl⟩) ⟨fun a U g mk q => by obtain ⟨q0, q1, qP, qK, qD, qZ, qN⟩ := q; exact ⟨q0, q1, qP, va_K.moved (u := U) (U := U.calling g mk a) (Vm.Alike.refl U.vm) qK, qD, sF.moved (u := U) (U := U.calling g mk a) (Vm.Alike.refl U.vm) qZ, nF.same rfl qN⟩, va_recv hK hP (ci := 0) (q0 := a) rfl (wld_o ct ad G M29 hc hk (by decide)), fun U hU hW => ⟨rfl, by rw [hU], by rw [hU]; exact hP, va_K.moved hW.alike hK, hD.weaken (fun _ _ _ _ => trivial), by rw [hU]; exact ((hZ.kept hS.2.1).narrow hf9).moved hW.alike, hN.warm hW⟩⟩ rfl rfl hl.1 rfl (lv_room (Nat.le_of_ble_eq_true rfl)) dX0_chooseByCosts_261 ⟨(Nat.zero_le _), (Nat.zero_le _)⟩) hS (fun q _ h => hf9 q h) hf9 (fun u t H locs ht hvm hw hB hz1 hk1 hS => ?_)
          obtain ⟨hP, hK9, hD9⟩ := hB
          rw [ht] at hP
          have hD := hD9.weaken (fun _ q _ h => hf9 q.1 h)
          refine lv_goto (tgt := 334) hx hb dX0_chooseByCosts_264 (by decide) ?_
          obtain rfl := Option.some.inj hF
          exact J32 _ _ _ hP hD hS (lv_sub hl [0, 1, 2, 3, 4] rfl)
      clear hF
      refine itr_rule (fun (s17 : Int32 × DD) => ∀ (H : Heap) (locs : List Loc) (ls : Array Slot), va_P D classes (wld ct ad G s17.2) H → va_D A (wld ct ad G s17.2) → va_S A s.heap H locs → lv_has ls 5 [(4, .int s17.1), (3, .int y15.2), (2, .int x5), (0, .ref (ad a)), (1, .int p0)] → W p l e (headSpec wuX0_chooseByCosts ({ frames := 6, cells := 0, slots := 0, locals := 175 })).room s m ([.ref (ad a), .int p0] : List Value).toArray below meth c H locs 0 0 (MQ below (va_Qv (fun (_ : Unit) => True) (fun _ t => kE D ct ad G A y t) A) ([.ref (ad a), .int p0] : List Value).toArray s 0 0 A) (F0 m 127 ls [])) ?_ _ _ hy16 _ _ _ hP hD hS (lv_sub hl [0, 1, 2, 3, 4] rfl)
      rintro s17 ⟨z55, hF, hwz55⟩ H locs ls hP hD hS hl
      try dsimp only at hF
      refine lv_iload hx hb dX0_chooseByCosts_127 (lv_at hl 0 rfl) ?_
      refine lv_iconst (v := (4 : Int32)) hx hb dX0_chooseByCosts_129 (by decide) ?_
      refine lv_icmp_ge (tgt := 199) hx hb dX0_chooseByCosts_130 (by decide) (fun c56 => ?_) (fun c56 => ?_)
      · rw [if_pos c56] at hF
        obtain rfl := Option.some.inj hF
        subst hwz55
        exact K16 _ _ _ hP hD hS (lv_sub hl [0, 1, 2, 3, 4] rfl)
      · rw [if_neg c56] at hF
        refine lv_iload hx hb dX0_chooseByCosts_133 (lv_at hl 0 rfl) ?_
        refine lv_iload_n hx hb dX0_chooseByCosts_135 rfl (lv_at hl 1 rfl) ?_
        obtain ⟨y57, hy57, hF⟩ := bnd_some hF
        have hf9 := wA_in hD hA9 hS
        refine va_calli (va_runS (As := [.int s17.1, .int y15.2]) (rest := []) ⟨hx, hb, hml, hown, hts⟩ (kX9_mayBeSixteen l D ct ad Z G s17.2 H.size s17.1 y15.2 y57 hy57) (va_cwS 2 hts gX0_chooseByCosts_X9_mayBeSixteen rfl rfl rfl (by decide +kernel) ⟨Nat.le_of_ble_eq_true rfl, Nat.le_of_ble_eq_true rfl⟩) ⟨fun a U g mk q => by obtain ⟨q0, q1, qP, qK, qD, qZ, qN⟩ := q; exact ⟨q0, q1, qP, va_K.moved (u := U) (U := U.calling g mk a) (Vm.Alike.refl U.vm) qK, qD, sF.moved (u := U) (U := U.calling g mk a) (Vm.Alike.refl U.vm) qZ, nF.same rfl qN⟩, fun U hU hW => ⟨rfl, by rw [hU], by rw [hU]; exact hP, va_K.moved hW.alike hK, hD.weaken (fun _ _ _ _ => trivial), by rw [hU]; exact ((hZ.kept hS.2.1).narrow hf9).moved hW.alike, hN.warm hW⟩⟩ rfl rfl hl.1 rfl (lv_room (Nat.le_of_ble_eq_true rfl)) dX0_chooseByCosts_136 ⟨(Nat.zero_le _), (Nat.zero_le _)⟩) hS (fun q _ h => hf9 q h) hf9 (fun r u t H locs ht hvm hw hB hz1 hk1 hS => ?_)
        obtain ⟨hP, hK9, hD9⟩ := hB
        rw [ht] at hP
        try dsimp only at hw
        subst hw
        have hD := hD9.weaken (fun _ q _ h => hf9 q.1 h)
        obtain ⟨y58, hy58, hF⟩ := bnd_some hF
        have J58 : ∀ (H : Heap) (locs : List Loc) (ls : Array Slot), va_P D classes (wld ct ad G y58) H → va_D A (wld ct ad G y58) → va_S A s.heap H locs → lv_has ls 5 [(4, .int s17.1), (3, .int y15.2), (2, .int x5), (0, .ref (ad a)), (1, .int p0)] → W p l e (headSpec wuX0_chooseByCosts ({ frames := 6, cells := 0, slots := 0, locals := 175 })).room s m ([.ref (ad a), .int p0] : List Value).toArray below meth c H locs 0 0 (MQ below (va_Qv (fun (_ : Unit) => True) (fun _ t => kE D ct ad G A y t) A) ([.ref (ad a), .int p0] : List Value).toArray s 0 0 A) (F0 m 193 ls []) := by
          intro H locs ls hP hD hS hl
          obtain ⟨x59, ex59, hF⟩ := ltt_some hF
          refine lv_iinc (v := x59) (lv' := [(4, .int x59), (3, .int y15.2), (2, .int x5), (0, .ref (ad a)), (1, .int p0)]) hx hb dX0_chooseByCosts_193 hl (k := 0) rfl (by rw [ex59]; rfl) (by decide) rfl (fun ls hl => ?_)
          refine lv_goto (tgt := 127) hx hb dX0_chooseByCosts_196 (by decide) ?_
          obtain rfl := Option.some.inj hF
          exact hwz55 _ _ _ hP hD hS (lv_sub hl [0, 1, 2, 3, 4] rfl)
        clear hF
        have hF := hy58
        clear hy58
        refine lv_if_eq (tgt := 193) hx hb dX0_chooseByCosts_139 (by decide) (fun c60 => ?_) (fun c60 => ?_)
        · rw [if_pos c60] at hF
          obtain rfl := Option.some.inj hF
          exact J58 _ _ _ hP hD hS (lv_sub hl [0, 1, 2, 3, 4] rfl)
        · rw [if_neg c60] at hF
          refine lv_aload_n hx hb dX0_chooseByCosts_142 rfl (lv_at hl 3 rfl) ?_
          refine va_get (D := D) (ci := 0) (v := va_re ad (y57.1.2 a 4)) (C := RX0) (T := TX0) (N := 21) hx hb hts (mus hf_X0) hown hK hP a (wld_o ct ad G y57.1 hc hk (by decide)) rfl 4 (by decide) (hts (.fieldLink RX0 43 "VideoSuite$Coder" "samples" "LVideoSuite$Samples;") (mu mw_818)) (fun _ h9 => h9) rfl dX0_chooseByCosts_143 ?_
          refine lv_aload_n hx hb dX0_chooseByCosts_146 rfl (lv_at hl 3 rfl) ?_
          refine va_get (D := D) (ci := 0) (v := va_re ad (y57.1.2 a 3)) (C := RX0) (T := TX0) (N := 21) hx hb hts (mus hf_X0) hown hK hP a (wld_o ct ad G y57.1 hc hk (by decide)) rfl 3 (by decide) (hts (.fieldLink RX0 36 "VideoSuite$Coder" "work" "LVideoSuite$Work;") (mu mw_817)) (fun _ h9 => h9) rfl dX0_chooseByCosts_147 ?_
          refine lv_iload_n hx hb dX0_chooseByCosts_150 rfl (lv_at hl 4 rfl) ?_
          refine lv_iload hx hb dX0_chooseByCosts_151 (lv_at hl 0 rfl) ?_
          refine lv_iload_n hx hb dX0_chooseByCosts_153 rfl (lv_at hl 1 rfl) ?_
          obtain ⟨b61, ho61, hc61, hk61, hF⟩ := dr_some hF
          refine W_st (st' := [.int y15.2, .int s17.1, .int p0, va_re ad (y57.1.2 a 3), .ref (ad b61)]) (by rw [va_some ho61]) ?_
          obtain ⟨y62, hy62, hF⟩ := bnd_some hF
          have hf9 := wA_in hD hA9 hS
          refine va_callv (va_runV (As := [va_re ad (y57.1.2 a 3), .int p0, .int s17.1, .int y15.2]) (rest := []) ⟨hx, hb, hml, hown, hts⟩ (kX6_predictSixteen l D ct ad Z G y57.1 H.size b61 ((y57.1.2 a 3)) p0 s17.1 y15.2 y62 hc61 hk61 hy62) (cwV 4 hts gX0_chooseByCosts_X6_predictSixteen rfl rfl rfl (by decide +kernel) ⟨Nat.le_of_ble_eq_true rfl, Nat.le_of_ble_eq_true rfl⟩) ⟨fun a U g mk q => by obtain ⟨q0, q1, qP, qK, qD, qZ, qN⟩ := q; exact ⟨q0, q1, qP, va_K.moved (u := U) (U := U.calling g mk a) (Vm.Alike.refl U.vm) qK, qD, sF.moved (u := U) (U := U.calling g mk a) (Vm.Alike.refl U.vm) qZ, nF.same rfl qN⟩, va_recv hK hP (ci := 6) (q0 := b61) rfl (wld_o ct ad G y57.1 hc61 hk61 (by decide)), fun U hU hW => ⟨rfl, by rw [hU], by rw [hU]; exact hP, va_K.moved hW.alike hK, hD.weaken (fun _ _ _ _ => trivial), by rw [hU]; exact ((hZ.kept hS.2.1).narrow hf9).moved hW.alike, hN.warm hW⟩⟩ rfl rfl hl.1 rfl (lv_room (Nat.le_of_ble_eq_true rfl)) dX0_chooseByCosts_154 ⟨(Nat.zero_le _), (Nat.zero_le _)⟩) hS (fun q _ h => hf9 q h) hf9 (fun u t H locs ht hvm hw hB hz1 hk1 hS => ?_)
          obtain ⟨hP, hK9, hD9⟩ := hB
          rw [ht] at hP
          have hD := hD9.weaken (fun _ q _ h => hf9 q.1 h)
          refine lv_aload_n hx hb dX0_chooseByCosts_157 rfl (lv_at hl 3 rfl) ?_
          refine lv_aload_n hx hb dX0_chooseByCosts_158 rfl (lv_at hl 3 rfl) ?_
          refine va_get (D := D) (ci := 0) (v := va_re ad (y62.2 a 4)) (C := RX0) (T := TX0) (N := 21) hx hb hts (mus hf_X0) hown hK hP a (wld_o ct ad G y62 hc hk (by decide)) rfl 4 (by decide) (hts (.fieldLink RX0 43 "VideoSuite$Coder" "samples" "LVideoSuite$Samples;") (mu mw_818)) (fun _ h9 => h9) rfl dX0_chooseByCosts_159 ?_
          refine lv_aload_n hx hb dX0_chooseByCosts_162 rfl (lv_at hl 3 rfl) ?_
          refine va_get (D := D) (ci := 0) (v := va_re ad (y62.2 a 3)) (C := RX0) (T := TX0) (N := 21) hx hb hts (mus hf_X0) hown hK hP a (wld_o ct ad G y62 hc hk (by decide)) rfl 3 (by decide) (hts (.fieldLink RX0 36 "VideoSuite$Coder" "work" "LVideoSuite$Work;") (mu mw_817)) (fun _ h9 => h9) rfl dX0_chooseByCosts_163 ?_
          refine lv_aload_n hx hb dX0_chooseByCosts_166 rfl (lv_at hl 3 rfl) ?_
          refine va_get (D := D) (ci := 0) (v := va_re ad (y62.2 a 9)) (C := RX0) (T := TX0) (N := 21) hx hb hts (mus hf_X0) hown hK hP a (wld_o ct ad G y62 hc hk (by decide)) rfl 9 (by decide) (hts (.fieldLink RX0 69 "VideoSuite$Coder" "source" "[[I") (mu mw_823)) (fun _ h9 => h9) rfl dX0_chooseByCosts_167 ?_
          refine lv_iconst (v := (0 : Int32)) hx hb dX0_chooseByCosts_170 (by decide) ?_
          obtain ⟨b63, ho63, hc63, hk63, hF⟩ := dr_some hF
          refine W_st (st' := [.int (0 : Int32), .ref (ad b63), va_re ad (y62.2 a 3), va_re ad (y62.2 a 4), .ref (ad a)]) (by rw [va_some ho63]) ?_
          obtain ⟨hvc, hF⟩ := chk_some hF
          refine ld_g hx hb hK hP hc63 hk63 hvc dX0_chooseByCosts_171 ?_
          refine lv_iload_n hx hb dX0_chooseByCosts_172 rfl (lv_at hl 4 rfl) ?_
          refine lv_iconst (v := (0 : Int32)) hx hb dX0_chooseByCosts_173 (by decide) ?_
          refine lv_bipush (v := (16 : Int32)) hx hb dX0_chooseByCosts_174 (by decide) ?_
          obtain ⟨b64, ho64, hc64, hk64, hF⟩ := dr_some hF
          refine W_st (st' := [.int (16 : Int32), .int (0 : Int32), .int p0, va_re ad (y62.2 b63 ((0 : Int32)).toNatClampNeg), va_re ad (y62.2 a 3), .ref (ad b64), .ref (ad a)]) (by rw [va_some ho64]) ?_
          obtain ⟨y65, hy65, hF⟩ := bnd_some hF
          have hf9 := wA_in hD hA9 hS
          refine va_calli (va_runV (As := [va_re ad (y62.2 a 3), va_re ad (y62.2 b63 ((0 : Int32)).toNatClampNeg), .int p0, .int (0 : Int32), .int (16 : Int32)]) (rest := [.ref (ad a)]) ⟨hx, hb, hml, hown, hts⟩ (kX6_differences l D ct ad Z G y62 H.size b64 ((y62.2 a 3)) ((y62.2 b63 ((0 : Int32)).toNatClampNeg)) p0 ((0 : Int32)) ((16 : Int32)) y65 hc64 hk64 hy65) (cwV 5 hts gX0_chooseByCosts_X6_differences rfl rfl rfl (by decide +kernel) ⟨Nat.le_of_ble_eq_true rfl, Nat.le_of_ble_eq_true rfl⟩) ⟨fun a U g mk q => by obtain ⟨q0, q1, qP, qK, qD, qZ, qN⟩ := q; exact ⟨q0, q1, qP, va_K.moved (u := U) (U := U.calling g mk a) (Vm.Alike.refl U.vm) qK, qD, sF.moved (u := U) (U := U.calling g mk a) (Vm.Alike.refl U.vm) qZ, nF.same rfl qN⟩, va_recv hK hP (ci := 6) (q0 := b64) rfl (wld_o ct ad G y62 hc64 hk64 (by decide)), fun U hU hW => ⟨rfl, by rw [hU], by rw [hU]; exact hP, va_K.moved hW.alike hK, hD.weaken (fun _ _ _ _ => trivial), by rw [hU]; exact ((hZ.kept hS.2.1).narrow hf9).moved hW.alike, hN.warm hW⟩⟩ rfl rfl hl.1 rfl (lv_room (Nat.le_of_ble_eq_true rfl)) dX0_chooseByCosts_176 ⟨(Nat.zero_le _), (Nat.zero_le _)⟩) hS (fun q _ h => hf9 q h) hf9 (fun r u t H locs ht hvm hw hB hz1 hk1 hS => ?_)
          obtain ⟨hP, hK9, hD9⟩ := hB
          rw [ht] at hP
          try dsimp only at hw
          subst hw
          have hD := hD9.weaken (fun _ q _ h => hf9 q.1 h)
          refine lv_bipush (v := (8 : Int32)) hx hb dX0_chooseByCosts_179 (by decide) ?_
          refine lv_aload_n hx hb dX0_chooseByCosts_181 rfl (lv_at hl 3 rfl) ?_
          obtain ⟨y66, hy66, hF⟩ := bnd_some hF
          have hf9 := wA_in hD hA9 hS
          refine va_calli (va_runV (As := []) (rest := [.int (8 : Int32), .int y65.2, .ref (ad a)]) ⟨hx, hb, hml, hown, hts⟩ (kX0_priceOfBit l D ct ad Z G y65.1 H.size a y66 hc hk hy66) (cwV 0 hts gX0_chooseByCosts_X0_priceOfBit rfl rfl rfl (by decide +kernel) ⟨Nat.le_of_ble_eq_true rfl, Nat.le_of_ble_eq_true rfl⟩) ⟨fun a U g mk q => by obtain ⟨q0, q1, qP, qK, qD, qZ, qN⟩ := q; exact ⟨q0, q1, qP, va_K.moved (u := U) (U := U.calling g mk a) (Vm.Alike.refl U.vm) qK, qD, sF.moved (u := U) (U := U.calling g mk a) (Vm.Alike.refl U.vm) qZ, nF.same rfl qN⟩, va_recv hK hP (ci := 0) (q0 := a) rfl (wld_o ct ad G y65.1 hc hk (by decide)), fun U hU hW => ⟨rfl, by rw [hU], by rw [hU]; exact hP, va_K.moved hW.alike hK, hD.weaken (fun _ _ _ _ => trivial), by rw [hU]; exact ((hZ.kept hS.2.1).narrow hf9).moved hW.alike, hN.warm hW⟩⟩ rfl rfl hl.1 rfl (lv_room (Nat.le_of_ble_eq_true rfl)) dX0_chooseByCosts_182 ⟨(Nat.zero_le _), (Nat.zero_le _)⟩) hS (fun q _ h => hf9 q h) hf9 (fun r u t H locs ht hvm hw hB hz1 hk1 hS => ?_)
          obtain ⟨hP, hK9, hD9⟩ := hB
          rw [ht] at hP
          try dsimp only at hw
          subst hw
          have hD := hD9.weaken (fun _ q _ h => hf9 q.1 h)
          refine lv_imul hx hb dX0_chooseByCosts_185 ?_
          obtain ⟨x67, ex67, hF⟩ := ltt_some hF
          refine lv_topi (fun zx67 ezx67 => ?_)
          obtain rfl : x67 = zx67 := ex67.trans ezx67.symm
          refine lv_iadd hx hb dX0_chooseByCosts_186 ?_
          obtain ⟨x68, ex68, hF⟩ := ltt_some hF
          refine lv_topi (fun zx68 ezx68 => ?_)
          obtain rfl : x68 = zx68 := ex68.trans ezx68.symm
          refine lv_iconst (v := (1 : Int32)) hx hb dX0_chooseByCosts_187 (by decide) ?_
          refine lv_iload hx hb dX0_chooseByCosts_188 (lv_at hl 0 rfl) ?_
          obtain ⟨y69, hy69, hF⟩ := bnd_some hF
          have hf9 := wA_in hD hA9 hS
          refine va_callv (va_runV (As := [.int x68, .int (1 : Int32), .int s17.1]) (rest := []) ⟨hx, hb, hml, hown, hts⟩ (kX0_offer l D ct ad Z G y66.1 H.size a x68 ((1 : Int32)) s17.1 y69 hc hk hy69) (cwV 3 hts gX0_chooseByCosts_X0_offer rfl rfl rfl (by decide +kernel) ⟨Nat.le_of_ble_eq_true rfl, Nat.le_of_ble_eq_true rfl⟩) ⟨fun a U g mk q => by obtain ⟨q0, q1, qP, qK, qD, qZ, qN⟩ := q; exact ⟨q0, q1, qP, va_K.moved (u := U) (U := U.calling g mk a) (Vm.Alike.refl U.vm) qK, qD, sF.moved (u := U) (U := U.calling g mk a) (Vm.Alike.refl U.vm) qZ, nF.same rfl qN⟩, va_recv hK hP (ci := 0) (q0 := a) rfl (wld_o ct ad G y66.1 hc hk (by decide)), fun U hU hW => ⟨rfl, by rw [hU], by rw [hU]; exact hP, va_K.moved hW.alike hK, hD.weaken (fun _ _ _ _ => trivial), by rw [hU]; exact ((hZ.kept hS.2.1).narrow hf9).moved hW.alike, hN.warm hW⟩⟩ rfl rfl hl.1 rfl (lv_room (Nat.le_of_ble_eq_true rfl)) dX0_chooseByCosts_190 ⟨(Nat.zero_le _), (Nat.zero_le _)⟩) hS (fun q _ h => hf9 q h) hf9 (fun u t H locs ht hvm hw hB hz1 hk1 hS => ?_)
          obtain ⟨hP, hK9, hD9⟩ := hB
          rw [ht] at hP
          have hD := hD9.weaken (fun _ q _ h => hf9 q.1 h)
          obtain rfl := Option.some.inj hF
          exact J58 _ _ _ hP hD hS (lv_sub hl [0, 1, 2, 3, 4] rfl)
    clear hF
    have hF := hy13
    clear hy13
    refine lv_icmp_ne (tgt := 115) hx hb dX0_chooseByCosts_72 (by decide) (fun c70 => ?_) (fun c70 => ?_)
    · rw [if_neg c70] at hF
      obtain rfl := Option.some.inj hF
      exact J13 _ _ _ hP hD hS (lv_sub hl [0, 1, 2] rfl)
    · rw [if_pos c70] at hF
      refine lv_aload_n hx hb dX0_chooseByCosts_75 rfl (lv_at hl 1 rfl) ?_
      refine lv_iload_n hx hb dX0_chooseByCosts_76 rfl (lv_at hl 2 rfl) ?_
      refine lv_iconst (v := (1 : Int32)) hx hb dX0_chooseByCosts_77 (by decide) ?_
      obtain ⟨y71, hy71, hF⟩ := bnd_some hF
      have hf9 := wA_in hD hA9 hS
      refine va_callv (va_runV (As := [.int p0, .int (1 : Int32)]) (rest := []) ⟨hx, hb, hml, hown, hts⟩ (kX0_searchList l D ct ad Z G y12 H.size a p0 ((1 : Int32)) y71 hc hk hy71) (cwV 2 hts gX0_chooseByCosts_X0_searchList rfl rfl rfl (by decide +kernel) ⟨Nat.le_of_ble_eq_true rfl, Nat.le_of_ble_eq_true rfl⟩) ⟨fun a U g mk q => by obtain ⟨q0, q1, qP, qK, qD, qZ, qN⟩ := q; exact ⟨q0, q1, qP, va_K.moved (u := U) (U := U.calling g mk a) (Vm.Alike.refl U.vm) qK, qD, sF.moved (u := U) (U := U.calling g mk a) (Vm.Alike.refl U.vm) qZ, nF.same rfl qN⟩, va_recv hK hP (ci := 0) (q0 := a) rfl (wld_o ct ad G y12 hc hk (by decide)), fun U hU hW => ⟨rfl, by rw [hU], by rw [hU]; exact hP, va_K.moved hW.alike hK, hD.weaken (fun _ _ _ _ => trivial), by rw [hU]; exact ((hZ.kept hS.2.1).narrow hf9).moved hW.alike, hN.warm hW⟩⟩ rfl rfl hl.1 rfl (lv_room (Nat.le_of_ble_eq_true rfl)) dX0_chooseByCosts_78 ⟨(Nat.zero_le _), (Nat.zero_le _)⟩) hS (fun q _ h => hf9 q h) hf9 (fun u t H locs ht hvm hw hB hz1 hk1 hS => ?_)
      obtain ⟨hP, hK9, hD9⟩ := hB
      rw [ht] at hP
      have hD := hD9.weaken (fun _ q _ h => hf9 q.1 h)
      refine lv_aload_n hx hb dX0_chooseByCosts_81 rfl (lv_at hl 1 rfl) ?_
      refine lv_aload_n hx hb dX0_chooseByCosts_82 rfl (lv_at hl 1 rfl) ?_
      refine va_get (D := D) (ci := 0) (v := va_re ad (y71.2 a 20)) (C := RX0) (T := TX0) (N := 21) hx hb hts (mus hf_X0) hown hK hP a (wld_o ct ad G y71 hc hk (by decide)) rfl 20 (by decide) (hts (.fieldLink RX0 75 "VideoSuite$Coder" "choice" "[I") (mu mw_838)) (fun _ h9 => h9) rfl dX0_chooseByCosts_83 ?_
      refine lv_iconst (v := (5 : Int32)) hx hb dX0_chooseByCosts_86 (by decide) ?_
      obtain ⟨b72, ho72, hc72, hk72, hF⟩ := dr_some hF
      refine W_st (st' := [.int (5 : Int32), .ref (ad b72), .ref (ad a)]) (by rw [va_some ho72]) ?_
      obtain ⟨hvc, hF⟩ := chk_some hF
      refine va_iald hx hb hK hP b72 1 (wld_i ct ad G y71 hc72 hk72) rfl hvc dX0_chooseByCosts_87 ?_
      obtain ⟨x73, ex73, hF⟩ := ltt_some hF
      refine lv_topi (fun zx73 ezx73 => ?_)
      obtain rfl : x73 = zx73 := ex73.trans ezx73.symm
      refine lv_iconst (v := (3 : Int32)) hx hb dX0_chooseByCosts_88 (by decide) ?_
      refine lv_iconst (v := (2 : Int32)) hx hb dX0_chooseByCosts_89 (by decide) ?_
      obtain ⟨y74, hy74, hF⟩ := bnd_some hF
      have hf9 := wA_in hD hA9 hS
      refine va_callv (va_runV (As := [.int x73, .int (3 : Int32), .int (2 : Int32)]) (rest := []) ⟨hx, hb, hml, hown, hts⟩ (kX0_offer l D ct ad Z G y71 H.size a x73 ((3 : Int32)) ((2 : Int32)) y74 hc hk hy74) (cwV 3 hts gX0_chooseByCosts_X0_offer rfl rfl rfl (by decide +kernel) ⟨Nat.le_of_ble_eq_true rfl, Nat.le_of_ble_eq_true rfl⟩) ⟨fun a U g mk q => by obtain ⟨q0, q1, qP, qK, qD, qZ, qN⟩ := q; exact ⟨q0, q1, qP, va_K.moved (u := U) (U := U.calling g mk a) (Vm.Alike.refl U.vm) qK, qD, sF.moved (u := U) (U := U.calling g mk a) (Vm.Alike.refl U.vm) qZ, nF.same rfl qN⟩, va_recv hK hP (ci := 0) (q0 := a) rfl (wld_o ct ad G y71 hc hk (by decide)), fun U hU hW => ⟨rfl, by rw [hU], by rw [hU]; exact hP, va_K.moved hW.alike hK, hD.weaken (fun _ _ _ _ => trivial), by rw [hU]; exact ((hZ.kept hS.2.1).narrow hf9).moved hW.alike, hN.warm hW⟩⟩ rfl rfl hl.1 rfl (lv_room (Nat.le_of_ble_eq_true rfl)) dX0_chooseByCosts_90 ⟨(Nat.zero_le _), (Nat.zero_le _)⟩) hS (fun q _ h => hf9 q h) hf9 (fun u t H locs ht hvm hw hB hz1 hk1 hS => ?_)
      obtain ⟨hP, hK9, hD9⟩ := hB
      rw [ht] at hP
      have hD := hD9.weaken (fun _ q _ h => hf9 q.1 h)
      refine lv_aload_n hx hb dX0_chooseByCosts_93 rfl (lv_at hl 1 rfl) ?_
      refine lv_aload_n hx hb dX0_chooseByCosts_94 rfl (lv_at hl 1 rfl) ?_
      refine lv_iload_n hx hb dX0_chooseByCosts_95 rfl (lv_at hl 2 rfl) ?_
      obtain ⟨y75, hy75, hF⟩ := bnd_some hF
      have hf9 := wA_in hD hA9 hS
      refine va_calli (va_runV (As := [.int p0]) (rest := [.ref (ad a)]) ⟨hx, hb, hml, hown, hts⟩ (kX0_costOfBoth l D ct ad Z G y74 H.size a p0 y75 hc hk hy75) (cwV 1 hts gX0_chooseByCosts_X0_costOfBoth rfl rfl rfl (by decide +kernel) ⟨Nat.le_of_ble_eq_true rfl, Nat.le_of_ble_eq_true rfl⟩) ⟨fun a U g mk q => by obtain ⟨q0, q1, qP, qK, qD, qZ, qN⟩ := q; exact ⟨q0, q1, qP, va_K.moved (u := U) (U := U.calling g mk a) (Vm.Alike.refl U.vm) qK, qD, sF.moved (u := U) (U := U.calling g mk a) (Vm.Alike.refl U.vm) qZ, nF.same rfl qN⟩, va_recv hK hP (ci := 0) (q0 := a) rfl (wld_o ct ad G y74 hc hk (by decide)), fun U hU hW => ⟨rfl, by rw [hU], by rw [hU]; exact hP, va_K.moved hW.alike hK, hD.weaken (fun _ _ _ _ => trivial), by rw [hU]; exact ((hZ.kept hS.2.1).narrow hf9).moved hW.alike, hN.warm hW⟩⟩ rfl rfl hl.1 rfl (lv_room (Nat.le_of_ble_eq_true rfl)) dX0_chooseByCosts_96 ⟨(Nat.zero_le _), (Nat.zero_le _)⟩) hS (fun q _ h => hf9 q h) hf9 (fun r u t H locs ht hvm hw hB hz1 hk1 hS => ?_)
      obtain ⟨hP, hK9, hD9⟩ := hB
      rw [ht] at hP
      try dsimp only at hw
      subst hw
      have hD := hD9.weaken (fun _ q _ h => hf9 q.1 h)
      refine lv_iconst (v := (3 : Int32)) hx hb dX0_chooseByCosts_99 (by decide) ?_
      refine lv_iconst (v := (3 : Int32)) hx hb dX0_chooseByCosts_100 (by decide) ?_
      obtain ⟨y76, hy76, hF⟩ := bnd_some hF
      have hf9 := wA_in hD hA9 hS
      refine va_callv (va_runV (As := [.int y75.2, .int (3 : Int32), .int (3 : Int32)]) (rest := []) ⟨hx, hb, hml, hown, hts⟩ (kX0_offer l D ct ad Z G y75.1 H.size a y75.2 ((3 : Int32)) ((3 : Int32)) y76 hc hk hy76) (cwV 3 hts gX0_chooseByCosts_X0_offer rfl rfl rfl (by decide +kernel) ⟨Nat.le_of_ble_eq_true rfl, Nat.le_of_ble_eq_true rfl⟩) ⟨fun a U g mk q => by obtain ⟨q0, q1, qP, qK, qD, qZ, qN⟩ := q; exact ⟨q0, q1, qP, va_K.moved (u := U) (U := U.calling g mk a) (Vm.Alike.refl U.vm) qK, qD, sF.moved (u := U) (U := U.calling g mk a) (Vm.Alike.refl U.vm) qZ, nF.same rfl qN⟩, va_recv hK hP (ci := 0) (q0 := a) rfl (wld_o ct ad G y75.1 hc hk (by decide)), fun U hU hW => ⟨rfl, by rw [hU], by rw [hU]; exact hP, va_K.moved hW.alike hK, hD.weaken (fun _ _ _ _ => trivial), by rw [hU]; exact ((hZ.kept hS.2.1).narrow hf9).moved hW.alike, hN.warm hW⟩⟩ rfl rfl hl.1 rfl (lv_room (Nat.le_of_ble_eq_true rfl)) dX0_chooseByCosts_101 ⟨(Nat.zero_le _), (Nat.zero_le _)⟩) hS (fun q _ h => hf9 q h) hf9 (fun u t H locs ht hvm hw hB hz1 hk1 hS => ?_)
      obtain ⟨hP, hK9, hD9⟩ := hB
      rw [ht] at hP
      have hD := hD9.weaken (fun _ q _ h => hf9 q.1 h)
      refine lv_aload_n hx hb dX0_chooseByCosts_104 rfl (lv_at hl 1 rfl) ?_
      refine lv_aload_n hx hb dX0_chooseByCosts_105 rfl (lv_at hl 1 rfl) ?_
      refine lv_iload_n hx hb dX0_chooseByCosts_106 rfl (lv_at hl 2 rfl) ?_
      obtain ⟨y77, hy77, hF⟩ := bnd_some hF
      have hf9 := wA_in hD hA9 hS
      refine va_calli (va_runV (As := [.int p0]) (rest := [.ref (ad a)]) ⟨hx, hb, hml, hown, hts⟩ (kX0_costOfDirect l D ct ad Z G y76 H.size a p0 y77 hc hk hy77) (cwV 1 hts gX0_chooseByCosts_X0_costOfDirect rfl rfl rfl (by decide +kernel) ⟨Nat.le_of_ble_eq_true rfl, Nat.le_of_ble_eq_true rfl⟩) ⟨fun a U g mk q => by obtain ⟨q0, q1, qP, qK, qD, qZ, qN⟩ := q; exact ⟨q0, q1, qP, va_K.moved (u := U) (U := U.calling g mk a) (Vm.Alike.refl U.vm) qK, qD, sF.moved (u := U) (U := U.calling g mk a) (Vm.Alike.refl U.vm) qZ, nF.same rfl qN⟩, va_recv hK hP (ci := 0) (q0 := a) rfl (wld_o ct ad G y76 hc hk (by decide)), fun U hU hW => ⟨rfl, by rw [hU], by rw [hU]; exact hP, va_K.moved hW.alike hK, hD.weaken (fun _ _ _ _ => trivial), by rw [hU]; exact ((hZ.kept hS.2.1).narrow hf9).moved hW.alike, hN.warm hW⟩⟩ rfl rfl hl.1 rfl (lv_room (Nat.le_of_ble_eq_true rfl)) dX0_chooseByCosts_107 ⟨(Nat.zero_le _), (Nat.zero_le _)⟩) hS (fun q _ h => hf9 q h) hf9 (fun r u t H locs ht hvm hw hB hz1 hk1 hS => ?_)
      obtain ⟨hP, hK9, hD9⟩ := hB
      rw [ht] at hP
      try dsimp only at hw
      subst hw
      have hD := hD9.weaken (fun _ q _ h => hf9 q.1 h)
      refine lv_iconst (v := (3 : Int32)) hx hb dX0_chooseByCosts_110 (by decide) ?_
      refine lv_iconst (v := (0 : Int32)) hx hb dX0_chooseByCosts_111 (by decide) ?_
      obtain ⟨y78, hy78, hF⟩ := bnd_some hF
      have hf9 := wA_in hD hA9 hS
      refine va_callv (va_runV (As := [.int y77.2, .int (3 : Int32), .int (0 : Int32)]) (rest := []) ⟨hx, hb, hml, hown, hts⟩ (kX0_offer l D ct ad Z G y77.1 H.size a y77.2 ((3 : Int32)) ((0 : Int32)) y78 hc hk hy78) (cwV 3 hts gX0_chooseByCosts_X0_offer rfl rfl rfl (by decide +kernel) ⟨Nat.le_of_ble_eq_true rfl, Nat.le_of_ble_eq_true rfl⟩) ⟨fun a U g mk q => by obtain ⟨q0, q1, qP, qK, qD, qZ, qN⟩ := q; exact ⟨q0, q1, qP, va_K.moved (u := U) (U := U.calling g mk a) (Vm.Alike.refl U.vm) qK, qD, sF.moved (u := U) (U := U.calling g mk a) (Vm.Alike.refl U.vm) qZ, nF.same rfl qN⟩, va_recv hK hP (ci := 0) (q0 := a) rfl (wld_o ct ad G y77.1 hc hk (by decide)), fun U hU hW => ⟨rfl, by rw [hU], by rw [hU]; exact hP, va_K.moved hW.alike hK, hD.weaken (fun _ _ _ _ => trivial), by rw [hU]; exact ((hZ.kept hS.2.1).narrow hf9).moved hW.alike, hN.warm hW⟩⟩ rfl rfl hl.1 rfl (lv_room (Nat.le_of_ble_eq_true rfl)) dX0_chooseByCosts_112 ⟨(Nat.zero_le _), (Nat.zero_le _)⟩) hS (fun q _ h => hf9 q h) hf9 (fun u t H locs ht hvm hw hB hz1 hk1 hS => ?_)
      obtain ⟨hP, hK9, hD9⟩ := hB
      rw [ht] at hP
      have hD := hD9.weaken (fun _ q _ h => hf9 q.1 h)
      obtain rfl := Option.some.inj hF
      exact J13 _ _ _ hP hD hS (lv_sub hl [0, 1, 2] rfl)
  clear hF
  have hF := hy12
  clear hy12
  refine lv_icmp_eq (tgt := 70) hx hb dX0_chooseByCosts_41 (by decide) (fun c79 => ?_) (fun c79 => ?_)
  · rw [if_pos c79] at hF
    obtain rfl := Option.some.inj hF
    exact J12 _ _ _ hP hD hS (lv_sub hl [0, 1, 2] rfl)
  · rw [if_neg c79] at hF
    refine lv_aload_n hx hb dX0_chooseByCosts_44 rfl (lv_at hl 1 rfl) ?_
    refine lv_iload_n hx hb dX0_chooseByCosts_45 rfl (lv_at hl 2 rfl) ?_
    refine lv_iconst (v := (0 : Int32)) hx hb dX0_chooseByCosts_46 (by decide) ?_
    obtain ⟨y80, hy80, hF⟩ := bnd_some hF
    have hf9 := wA_in hD hA9 hS
    refine va_callv (va_runV (As := [.int p0, .int (0 : Int32)]) (rest := []) ⟨hx, hb, hml, hown, hts⟩ (kX0_searchList l D ct ad Z G M11 H.size a p0 ((0 : Int32)) y80 hc hk hy80) (cwV 2 hts gX0_chooseByCosts_X0_searchList rfl rfl rfl (by decide +kernel) ⟨Nat.le_of_ble_eq_true rfl, Nat.le_of_ble_eq_true rfl⟩) ⟨fun a U g mk q => by obtain ⟨q0, q1, qP, qK, qD, qZ, qN⟩ := q; exact ⟨q0, q1, qP, va_K.moved (u := U) (U := U.calling g mk a) (Vm.Alike.refl U.vm) qK, qD, sF.moved (u := U) (U := U.calling g mk a) (Vm.Alike.refl U.vm) qZ, nF.same rfl qN⟩, va_recv hK hP (ci := 0) (q0 := a) rfl (wld_o ct ad G M11 hc hk (by decide)), fun U hU hW => ⟨rfl, by rw [hU], by rw [hU]; exact hP, va_K.moved hW.alike hK, hD.weaken (fun _ _ _ _ => trivial), by rw [hU]; exact ((hZ.kept hS.2.1).narrow hf9).moved hW.alike, hN.warm hW⟩⟩ rfl rfl hl.1 rfl (lv_room (Nat.le_of_ble_eq_true rfl)) dX0_chooseByCosts_47 ⟨(Nat.zero_le _), (Nat.zero_le _)⟩) hS (fun q _ h => hf9 q h) hf9 (fun u t H locs ht hvm hw hB hz1 hk1 hS => ?_)
    obtain ⟨hP, hK9, hD9⟩ := hB
    rw [ht] at hP
    have hD := hD9.weaken (fun _ q _ h => hf9 q.1 h)
    refine lv_aload_n hx hb dX0_chooseByCosts_50 rfl (lv_at hl 1 rfl) ?_
    refine lv_aload_n hx hb dX0_chooseByCosts_51 rfl (lv_at hl 1 rfl) ?_
    refine va_get (D := D) (ci := 0) (v := va_re ad (y80.2 a 20)) (C := RX0) (T := TX0) (N := 21) hx hb hts (mus hf_X0) hown hK hP a (wld_o ct ad G y80 hc hk (by decide)) rfl 20 (by decide) (hts (.fieldLink RX0 75 "VideoSuite$Coder" "choice" "[I") (mu mw_838)) (fun _ h9 => h9) rfl dX0_chooseByCosts_52 ?_
    refine lv_iconst (v := (0 : Int32)) hx hb dX0_chooseByCosts_55 (by decide) ?_
    obtain ⟨b81, ho81, hc81, hk81, hF⟩ := dr_some hF
    refine W_st (st' := [.int (0 : Int32), .ref (ad b81), .ref (ad a)]) (by rw [va_some ho81]) ?_
    obtain ⟨hvc, hF⟩ := chk_some hF
    refine va_iald hx hb hK hP b81 1 (wld_i ct ad G y80 hc81 hk81) rfl hvc dX0_chooseByCosts_56 ?_
    obtain ⟨x82, ex82, hF⟩ := ltt_some hF
    refine lv_topi (fun zx82 ezx82 => ?_)
    obtain rfl : x82 = zx82 := ex82.trans ezx82.symm
    refine lv_iconst (v := (3 : Int32)) hx hb dX0_chooseByCosts_57 (by decide) ?_
    refine lv_iload_n hx hb dX0_chooseByCosts_58 rfl (lv_at hl 0 rfl) ?_
    obtain ⟨y83, hy83, hF⟩ := bnd_some hF
    have J83 : ∀ (H : Heap) (locs : List Loc) (ls : Array Slot), va_P D classes (wld ct ad G y80) H → va_D A (wld ct ad G y80) → va_S A s.heap H locs → lv_has ls 5 [(2, .int x5), (0, .ref (ad a)), (1, .int p0)] → W p l e (headSpec wuX0_chooseByCosts ({ frames := 6, cells := 0, slots := 0, locals := 175 })).room s m ([.ref (ad a), .int p0] : List Value).toArray below meth c H locs 0 0 (MQ below (va_Qv (fun (_ : Unit) => True) (fun _ t => kE D ct ad G A y t) A) ([.ref (ad a), .int p0] : List Value).toArray s 0 0 A) (F0 m 67 ls [.int y83, .int (3 : Int32), .int x82, .ref (ad a)]) := by
      intro H locs ls hP hD hS hl
      obtain ⟨y84, hy84, hF⟩ := bnd_some hF
      have hf9 := wA_in hD hA9 hS
      refine va_callv (va_runV (As := [.int x82, .int (3 : Int32), .int y83]) (rest := []) ⟨hx, hb, hml, hown, hts⟩ (kX0_offer l D ct ad Z G y80 H.size a x82 ((3 : Int32)) y83 y84 hc hk hy84) (cwV 3 hts gX0_chooseByCosts_X0_offer rfl rfl rfl (by decide +kernel) ⟨Nat.le_of_ble_eq_true rfl, Nat.le_of_ble_eq_true rfl⟩) ⟨fun a U g mk q => by obtain ⟨q0, q1, qP, qK, qD, qZ, qN⟩ := q; exact ⟨q0, q1, qP, va_K.moved (u := U) (U := U.calling g mk a) (Vm.Alike.refl U.vm) qK, qD, sF.moved (u := U) (U := U.calling g mk a) (Vm.Alike.refl U.vm) qZ, nF.same rfl qN⟩, va_recv hK hP (ci := 0) (q0 := a) rfl (wld_o ct ad G y80 hc hk (by decide)), fun U hU hW => ⟨rfl, by rw [hU], by rw [hU]; exact hP, va_K.moved hW.alike hK, hD.weaken (fun _ _ _ _ => trivial), by rw [hU]; exact ((hZ.kept hS.2.1).narrow hf9).moved hW.alike, hN.warm hW⟩⟩ rfl rfl hl.1 rfl (lv_room (Nat.le_of_ble_eq_true rfl)) dX0_chooseByCosts_67 ⟨(Nat.zero_le _), (Nat.zero_le _)⟩) hS (fun q _ h => hf9 q h) hf9 (fun u t H locs ht hvm hw hB hz1 hk1 hS => ?_)
      obtain ⟨hP, hK9, hD9⟩ := hB
      rw [ht] at hP
      have hD := hD9.weaken (fun _ q _ h => hf9 q.1 h)
      obtain rfl := Option.some.inj hF
      exact J12 _ _ _ hP hD hS (lv_sub hl [0, 1, 2] rfl)
    clear hF
    have hF := hy83
    clear hy83
    refine lv_if_ne (tgt := 66) hx hb dX0_chooseByCosts_59 (by decide) (fun c85 => ?_) (fun c85 => ?_)
    · rw [if_neg c85] at hF
      refine lv_iconst (v := (1 : Int32)) hx hb dX0_chooseByCosts_66 (by decide) ?_
      obtain rfl := Option.some.inj hF
      exact J83 _ _ _ hP hD hS (lv_sub hl [0, 1, 2] rfl)
    · rw [if_pos c85] at hF
      refine lv_iconst (v := (0 : Int32)) hx hb dX0_chooseByCosts_62 (by decide) ?_
      refine lv_goto (tgt := 67) hx hb dX0_chooseByCosts_63 (by decide) ?_
      obtain rfl := Option.some.inj hF
      exact J83 _ _ _ hP hD hS (lv_sub hl [0, 1, 2] rfl)
