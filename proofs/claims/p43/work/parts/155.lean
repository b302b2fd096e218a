theorem ggX1_readTurns_X5_fixed : GoodIn wsX1_readTurns wsX5_fixed := goodIn_ca (goodIn_r _ [6, 7, 8, 9, 10, 11, 5, 12, 13, 14, 15, 16, 17, 18, 19, 20, 21, 22, 23, 24, 25, 26, 27, 28, 29, 30, 31, 32, 73, 74, 75, 76, 77, 78, 79, 80, 81, 82, 83, 84, 85, 86, 87, 88, 89] (by decide +kernel) (by decide +kernel)) (goodIn_sub (fun _ h => List.mem_cons_of_mem _ (List.mem_append_right _ h)) (by decide +kernel))
set_option maxRecDepth 20000 in
theorem gX1_readTurns_X5_fixed : GoodIn wsX1_readTurns (wsV RX1 183 RX5 yX5_fixed wsX5_fixed) := goodIn_app (goodIn_of _ (by decide +kernel)) ggX1_readTurns_X5_fixed
set_option maxRecDepth 20000 in
theorem ggX1_readTurns_X1_signed : GoodIn wsX1_readTurns wsX1_signed := goodIn_ca (goodIn_r _ [37, 1, 38, 39, 40, 5, 41, 7, 8, 42, 9, 10, 11, 12, 13, 14, 15, 16, 17, 18, 19, 20, 21, 22, 23, 24, 25, 43, 44, 45, 46, 26, 27, 28, 29, 30, 31, 32, 51, 52, 53, 54, 55, 56, 57, 58, 59, 60, 61, 62, 63, 64, 65, 66, 67, 68, 69, 70, 71, 72, 73, 74, 75, 76, 77, 78, 79, 80, 81, 82, 83, 84, 85, 86, 87, 88, 89] (by decide +kernel) (by decide +kernel)) (goodIn_sub (fun _ h => List.mem_cons_of_mem _ (List.mem_append_right _ h)) (by decide +kernel))
set_option maxRecDepth 20000 in
theorem gX1_readTurns_X1_signed : GoodIn wsX1_readTurns (wsV RX1 209 RX1 yX1_signed wsX1_signed) := goodIn_app (goodIn_of _ (by decide +kernel)) ggX1_readTurns_X1_signed
set_option maxRecDepth 20000 in
theorem ggX1_readTurns_X1_unsigned : GoodIn wsX1_readTurns wsX1_unsigned := goodIn_ca (goodIn_r _ [50, 1, 38, 39, 40, 5, 41, 7, 8, 42, 9, 10, 11, 12, 13, 14, 15, 16, 17, 18, 19, 20, 21, 22, 23, 24, 25, 43, 44, 45, 46, 26, 27, 28, 29, 30, 31, 32, 51, 52, 53, 54, 55, 56, 57, 58, 59, 60, 61, 62, 63, 64, 65, 66, 67, 68, 69, 70, 71, 72, 73, 74, 75, 76, 77, 78, 79, 80, 81, 82, 83, 84, 85, 86, 87, 88, 89] (by decide +kernel) (by decide +kernel)) (goodIn_sub (fun _ h => List.mem_cons_of_mem _ (List.mem_append_right _ h)) (by decide +kernel))
set_option maxRecDepth 20000 in
theorem gX1_readTurns_X1_unsigned : GoodIn wsX1_readTurns (wsV RX1 186 RX1 yX1_unsigned wsX1_unsigned) := goodIn_app (goodIn_of _ (by decide +kernel)) ggX1_readTurns_X1_unsigned
theorem dX1_readTurns_0 : decode cX1_readTurns 0 = .ok (.aload_n 1, 1) := by decide +kernel
theorem dX1_readTurns_1 : decode cX1_readTurns 1 = .ok (.bipush 11, 2) := by decide +kernel
theorem dX1_readTurns_3 : decode cX1_readTurns 3 = .ok (.aload_n 0, 1) := by decide +kernel
theorem dX1_readTurns_4 : decode cX1_readTurns 4 = .ok (.getfield 12, 3) := by decide +kernel
theorem dX1_readTurns_7 : decode cX1_readTurns 7 = .ok (.iconst 0, 1) := by decide +kernel
theorem dX1_readTurns_8 : decode cX1_readTurns 8 = .ok (.iconst 1, 1) := by decide +kernel
theorem dX1_readTurns_9 : decode cX1_readTurns 9 = .ok (.invokevirtual 183, 3) := by decide +kernel
theorem dX1_readTurns_12 : decode cX1_readTurns 12 = .ok (.iastore, 1) := by decide +kernel
theorem dX1_readTurns_13 : decode cX1_readTurns 13 = .ok (.aload_n 1, 1) := by decide +kernel
theorem dX1_readTurns_14 : decode cX1_readTurns 14 = .ok (.bipush 12, 2) := by decide +kernel
theorem dX1_readTurns_16 : decode cX1_readTurns 16 = .ok (.aload_n 0, 1) := by decide +kernel
theorem dX1_readTurns_17 : decode cX1_readTurns 17 = .ok (.sipush (-32768), 3) := by decide +kernel
theorem dX1_readTurns_20 : decode cX1_readTurns 20 = .ok (.sipush 32767, 3) := by decide +kernel
theorem dX1_readTurns_23 : decode cX1_readTurns 23 = .ok (.invokevirtual 209, 3) := by decide +kernel
theorem dX1_readTurns_26 : decode cX1_readTurns 26 = .ok (.iastore, 1) := by decide +kernel
theorem dX1_readTurns_27 : decode cX1_readTurns 27 = .ok (.aload_n 1, 1) := by decide +kernel
theorem dX1_readTurns_28 : decode cX1_readTurns 28 = .ok (.bipush 13, 2) := by decide +kernel
theorem dX1_readTurns_30 : decode cX1_readTurns 30 = .ok (.aload_n 0, 1) := by decide +kernel
theorem dX1_readTurns_31 : decode cX1_readTurns 31 = .ok (.sipush (-32768), 3) := by decide +kernel
theorem dX1_readTurns_34 : decode cX1_readTurns 34 = .ok (.sipush 32767, 3) := by decide +kernel
theorem dX1_readTurns_37 : decode cX1_readTurns 37 = .ok (.invokevirtual 209, 3) := by decide +kernel
theorem dX1_readTurns_40 : decode cX1_readTurns 40 = .ok (.iastore, 1) := by decide +kernel
theorem dX1_readTurns_41 : decode cX1_readTurns 41 = .ok (.aload_n 1, 1) := by decide +kernel
theorem dX1_readTurns_42 : decode cX1_readTurns 42 = .ok (.bipush 14, 2) := by decide +kernel
theorem dX1_readTurns_44 : decode cX1_readTurns 44 = .ok (.aload_n 0, 1) := by decide +kernel
theorem dX1_readTurns_45 : decode cX1_readTurns 45 = .ok (.bipush 8, 2) := by decide +kernel
theorem dX1_readTurns_47 : decode cX1_readTurns 47 = .ok (.invokevirtual 186, 3) := by decide +kernel
theorem dX1_readTurns_50 : decode cX1_readTurns 50 = .ok (.iastore, 1) := by decide +kernel
theorem dX1_readTurns_51 : decode cX1_readTurns 51 = .ok (.iconst 0, 1) := by decide +kernel
theorem dX1_readTurns_52 : decode cX1_readTurns 52 = .ok (.istore_n 2, 1) := by decide +kernel
theorem dX1_readTurns_53 : decode cX1_readTurns 53 = .ok (.iload_n 2, 1) := by decide +kernel
theorem dX1_readTurns_54 : decode cX1_readTurns 54 = .ok (.aload_n 1, 1) := by decide +kernel
theorem dX1_readTurns_55 : decode cX1_readTurns 55 = .ok (.bipush 14, 2) := by decide +kernel
theorem dX1_readTurns_57 : decode cX1_readTurns 57 = .ok (.iaload, 1) := by decide +kernel
theorem dX1_readTurns_58 : decode cX1_readTurns 58 = .ok (.if_icmp .ge 34, 3) := by decide +kernel
theorem dX1_readTurns_61 : decode cX1_readTurns 61 = .ok (.bipush 15, 2) := by decide +kernel
theorem dX1_readTurns_63 : decode cX1_readTurns 63 = .ok (.iload_n 2, 1) := by decide +kernel
theorem dX1_readTurns_64 : decode cX1_readTurns 64 = .ok (.iadd, 1) := by decide +kernel
theorem dX1_readTurns_65 : decode cX1_readTurns 65 = .ok (.bipush 23, 2) := by decide +kernel
theorem dX1_readTurns_67 : decode cX1_readTurns 67 = .ok (.if_icmp .ge 25, 3) := by decide +kernel
theorem dX1_readTurns_70 : decode cX1_readTurns 70 = .ok (.aload_n 1, 1) := by decide +kernel
theorem dX1_readTurns_71 : decode cX1_readTurns 71 = .ok (.bipush 15, 2) := by decide +kernel
theorem dX1_readTurns_73 : decode cX1_readTurns 73 = .ok (.iload_n 2, 1) := by decide +kernel
theorem dX1_readTurns_74 : decode cX1_readTurns 74 = .ok (.iadd, 1) := by decide +kernel
theorem dX1_readTurns_75 : decode cX1_readTurns 75 = .ok (.aload_n 0, 1) := by decide +kernel
theorem dX1_readTurns_76 : decode cX1_readTurns 76 = .ok (.sipush (-32768), 3) := by decide +kernel
theorem dX1_readTurns_79 : decode cX1_readTurns 79 = .ok (.sipush 32767, 3) := by decide +kernel
theorem dX1_readTurns_82 : decode cX1_readTurns 82 = .ok (.invokevirtual 209, 3) := by decide +kernel
theorem dX1_readTurns_85 : decode cX1_readTurns 85 = .ok (.iastore, 1) := by decide +kernel
theorem dX1_readTurns_86 : decode cX1_readTurns 86 = .ok (.iinc 2 1, 3) := by decide +kernel
theorem dX1_readTurns_89 : decode cX1_readTurns 89 = .ok (.goto (-36), 3) := by decide +kernel
theorem dX1_readTurns_92 : decode cX1_readTurns 92 = .ok (.return_, 1) := by decide +kernel
def FX1_readTurns (G : GG) (M : DD) (a : Nat) (p0 : Option Nat) : Option (DD) :=
  dr G 5 ((M.2 a 0)) fun b2 =>
  bnd (FX5_fixed G M b2 ((0 : Int32)) ((1 : Int32))) fun y3 =>
  dr G 13 p0 fun b4 =>
  chk (¬ (((11 : Int32)) < 0 ∨ G.2.2 b4 ≤ ((11 : Int32)).toNatClampNeg)) <|
  ltt (uI y3.1 b4 ((11 : Int32)).toNatClampNeg y3.2) fun M5 =>
  bnd (FX1_signed G M5 a ((-32768 : Int32)) ((32767 : Int32))) fun y6 =>
  chk (¬ (((12 : Int32)) < 0 ∨ G.2.2 b4 ≤ ((12 : Int32)).toNatClampNeg)) <|
  ltt (uI y6.1 b4 ((12 : Int32)).toNatClampNeg y6.2) fun M7 =>
  bnd (FX1_signed G M7 a ((-32768 : Int32)) ((32767 : Int32))) fun y8 =>
  chk (¬ (((13 : Int32)) < 0 ∨ G.2.2 b4 ≤ ((13 : Int32)).toNatClampNeg)) <|
  ltt (uI y8.1 b4 ((13 : Int32)).toNatClampNeg y8.2) fun M9 =>
  bnd (FX1_unsigned G M9 a ((8 : Int32))) fun y10 =>
  chk (¬ (((14 : Int32)) < 0 ∨ G.2.2 b4 ≤ ((14 : Int32)).toNatClampNeg)) <|
  ltt (uI y10.1 b4 ((14 : Int32)).toNatClampNeg y10.2) fun M11 =>
  bnd (itr (fun (s13 : Int32 × DD) => ((chk (¬ (((14 : Int32)) < 0 ∨ G.2.2 b4 ≤ ((14 : Int32)).toNatClampNeg)) <|
  ltt (s13.2.1 b4 ((14 : Int32)).toNatClampNeg) fun x16 =>
  if x16 ≤ s13.1 then (some (.inr (s13.1, s13.2))) else
  (ltt ((((15 : Int32)) + s13.1)) fun x18 =>
  if ((23 : Int32)) ≤ x18 then (some (.inr (s13.1, s13.2))) else
  (ltt ((((15 : Int32)) + s13.1)) fun x20 =>
  bnd (FX1_signed G s13.2 a ((-32768 : Int32)) ((32767 : Int32))) fun y21 =>
  chk (¬ (x20 < 0 ∨ G.2.2 b4 ≤ x20.toNatClampNeg)) <|
  ltt (uI y21.1 b4 x20.toNatClampNeg y21.2) fun M22 =>
  ltt (s13.1 + (1 : Int32)) fun x23 =>
  some (.inl (x23, M22))))) : Option ((Int32 × DD) ⊕ (Int32 × DD)))) 1000000 ((0 : Int32), M11)) fun (y12 : Int32 × DD) =>
  some y12.2
set_option maxHeartbeats 4000000 in
set_option maxRecDepth 100000 in
theorem kX1_readTurns (l : Launch) (D : va_G) (ct : CT) (ad : Nat → Nat) (Z : Nat → Nat) (G : GG) (M : DD) (sz : Nat) (a : Nat) (p0 : Option Nat) (y : DD) (hc : a < G.1) (hk : G.2.1 a = 1) (hF : FX1_readTurns G M a p0 = some y) : Met l yX1_readTurns wsX1_readTurns ({ frames := 3, cells := 0, slots := 0, locals := 81 }) (va_Pc [.ref (ad a), va_re ad p0] (kB D ct ad Z G M sz)) (va_Qv (fun (_ : Unit) => True) (fun _ t => kE D ct ad G (wA ad G sz) y t) (wA ad G sz)) 0 0 (wA ad G sz) := by
  refine Met.ofW (cc := cX1_readTurns) (maxL := 3) (ret := none) (by decide) rfl ?_
  intro p e s m args below meth c s₁ B hml hv
  obtain ⟨rfl, hsz, hP, hK, hD0, hZ, hN⟩ := hv
  have hx := B.exec
  have hb := B.bytes
  have hr := B.returns
  have hts := atoms_spec (ws := wsX1_readTurns) B.pre
  have hown : s.vm.findClass RX1 = some m.cls := findClass_of_methodNamed B.named
  have hlocks := B.notSynchronized
  subst hsz
  have hD := wD_self (sz := s.heap.size) hD0
  have hA9 : ∀ q, s.heap.size ≤ q → wA ad G s.heap.size q := fun q h => Or.inr h
  generalize hAe : wA ad G s.heap.size = A at hD hA9 hZ ⊢
  have hS : va_S A s.heap s.heap [] := va_S.rf
  have hl := lv_entry ([.ref (ad a), va_re ad p0]) (n := 3) (by cases p0 <;> exact Nat.le_of_ble_eq_true rfl)
  rw [lg_entry_eq]
  generalize (lg_sl ([.ref (ad a), va_re ad p0]) ++ List.replicate (3 - (lg_sl ([.ref (ad a), va_re ad p0])).length) Slot.unset).toArray = ls at hl ⊢
  have hl : lv_has ls 3 [(0, .ref (ad a)), (1, va_re ad p0)] := by have e9 : lv_args 0 [.ref (ad a), va_re ad p0] = [(0, .ref (ad a)), (1, va_re ad p0)] := (by cases p0 <;> rfl); rw [e9] at hl; exact hl
  unfold FX1_readTurns at hF
  refine lv_aloadq_n hx hb dX1_readTurns_0 rfl (lv_at hl 1 rfl) ?_
  refine lv_bipush (v := (11 : Int32)) hx hb dX1_readTurns_1 (by decide) ?_
  refine lv_aload_n hx hb dX1_readTurns_3 rfl (lv_at hl 0 rfl) ?_
  refine va_get (D := D) (ci := 1) (v := va_re ad (M.2 a 0)) (C := RX1) (T := TX1) (N := 22) hx hb hts (by decide +kernel) hown hK hP a (wld_o ct ad G M hc hk (by decide)) rfl 0 (by decide) (hts (.fieldLink RX1 12 "VideoSuite$Decoder" "reader" "LVideoSuite$Reader;") (by decide +kernel)) (fun _ h9 => h9) rfl dX1_readTurns_4 ?_
  refine lv_iconst (v := (0 : Int32)) hx hb dX1_readTurns_7 (by decide) ?_
  refine lv_iconst (v := (1 : Int32)) hx hb dX1_readTurns_8 (by decide) ?_
  obtain ⟨b2, ho2, hc2, hk2, hF⟩ := dr_some hF
  refine W_st (st' := [.int (1 : Int32), .int (0 : Int32), .ref (ad b2), .int (11 : Int32), va_re ad p0]) (by rw [va_some ho2]) ?_
  obtain ⟨y3, hy3, hF⟩ := bnd_some hF
  have hf9 := wA_in hD hA9 hS
  refine va_calli (va_runV (As := [.int (0 : Int32), .int (1 : Int32)]) (rest := [.int (11 : Int32), va_re ad p0]) ⟨hx, hb, hml, hown, hts⟩ (kX5_fixed l D ct ad Z G M s.heap.size b2 ((0 : Int32)) ((1 : Int32)) y3 hc2 hk2 hy3) (cwV 2 hts gX1_readTurns_X5_fixed rfl rfl rfl (by decide +kernel) ⟨Nat.le_of_ble_eq_true rfl, Nat.le_of_ble_eq_true rfl⟩) ⟨fun a U g mk q => by obtain ⟨q0, q1, qP, qK, qD, qZ, qN⟩ := q; exact ⟨q0, q1, qP, va_K.moved (u := U) (U := U.calling g mk a) (Vm.Alike.refl U.vm) qK, qD, sF.moved (u := U) (U := U.calling g mk a) (Vm.Alike.refl U.vm) qZ, nF.same rfl qN⟩, va_recv hK hP (ci := 5) (q0 := b2) rfl (wld_o ct ad G M hc2 hk2 (by decide)), fun U hU hW => ⟨rfl, by rw [hU], by rw [hU]; exact hP, va_K.moved hW.alike hK, hD.weaken (fun _ _ _ _ => trivial), by rw [hU]; exact ((hZ.kept hS.2.1).narrow hf9).moved hW.alike, hN.warm hW⟩⟩ rfl rfl hl.1 rfl (lv_room (by simp only [List.map, va_re_cat]; exact Nat.le_of_ble_eq_true rfl)) dX1_readTurns_9 ⟨(Nat.zero_le _), (Nat.zero_le _)⟩) hS (fun q _ h => hf9 q h) hf9 (fun r u t H locs ht hvm hw hB hz1 hk1 hS => ?_)
  obtain ⟨hP, hK9, hD9⟩ := hB
  rw [ht] at hP
  try dsimp only at hw
  subst hw
  have hD := hD9.weaken (fun _ q _ h => hf9 q.1 h)
  obtain ⟨b4, ho4, hc4, hk4, hF⟩ := dr_some hF
  refine W_st (st' := [.int y3.2, .int (11 : Int32), .ref (ad b4)]) (by rw [va_some ho4]) ?_
  obtain ⟨hvc, hF⟩ := chk_some hF
  refine va_iast hx hb hK hP hD hS b4 1 (wld_i ct ad G y3.1 hc4 hk4) rfl hvc dX1_readTurns_12 (fun H locs hP hD hS => ?_)
  obtain ⟨M5, eM5, hF⟩ := ltt_some hF
  rw [set_i ct ad G y3.1 hc4 hk4, ← eM5] at hP hD
  refine lv_aloadq_n hx hb dX1_readTurns_13 rfl (lv_at hl 1 rfl) ?_
  refine lv_bipush (v := (12 : Int32)) hx hb dX1_readTurns_14 (by decide) ?_
  refine lv_aload_n hx hb dX1_readTurns_16 rfl (lv_at hl 0 rfl) ?_
  refine lv_sipush (v := (-32768 : Int32)) hx hb dX1_readTurns_17 (by decide) ?_
  refine lv_sipush (v := (32767 : Int32)) hx hb dX1_readTurns_20 (by decide) ?_
  obtain ⟨y6, hy6, hF⟩ := bnd_some hF
  have hf9 := wA_in hD hA9 hS
  refine va_calli (va_runV (As := [.int (-32768 : Int32), .int (32767 : Int32)]) (rest := [.int (12 : Int32), va_re ad p0]) ⟨hx, hb, hml, hown, hts⟩ (kX1_signed l D ct ad Z G M5 H.size a ((-32768 : Int32)) ((32767 : Int32)) y6 hc hk hy6) (cwV 2 hts gX1_readTurns_X1_signed rfl rfl rfl (by decide +kernel) ⟨Nat.le_of_ble_eq_true rfl, Nat.le_of_ble_eq_true rfl⟩) ⟨fun a U g mk q => by obtain ⟨q0, q1, qP, qK, qD, qZ, qN⟩ := q; exact ⟨q0, q1, qP, va_K.moved (u := U) (U := U.calling g mk a) (Vm.Alike.refl U.vm) qK, qD, sF.moved (u := U) (U := U.calling g mk a) (Vm.Alike.refl U.vm) qZ, nF.same rfl qN⟩, va_recv hK hP (ci := 1) (q0 := a) rfl (wld_o ct ad G M5 hc hk (by decide)), fun U hU hW => ⟨rfl, by rw [hU], by rw [hU]; exact hP, va_K.moved hW.alike hK, hD.weaken (fun _ _ _ _ => trivial), by rw [hU]; exact ((hZ.kept hS.2.1).narrow hf9).moved hW.alike, hN.warm hW⟩⟩ rfl rfl hl.1 rfl (lv_room (by simp only [List.map, va_re_cat]; exact Nat.le_of_ble_eq_true rfl)) dX1_readTurns_23 ⟨(Nat.zero_le _), (Nat.zero_le _)⟩) hS (fun q _ h => hf9 q h) hf9 (fun r u t H locs ht hvm hw hB hz1 hk1 hS => ?_)
  obtain ⟨hP, hK9, hD9⟩ := hB
  rw [ht] at hP
  try dsimp only at hw
  subst hw
  have hD := hD9.weaken (fun _ q _ h => hf9 q.1 h)
  refine W_st (st' := [.int y6.2, .int (12 : Int32), .ref (ad b4)]) (by rw [va_some ho4]) ?_
  obtain ⟨hvc, hF⟩ := chk_some hF
  refine va_iast hx hb hK hP hD hS b4 1 (wld_i ct ad G y6.1 hc4 hk4) rfl hvc dX1_readTurns_26 (fun H locs hP hD hS => ?_)
  obtain ⟨M7, eM7, hF⟩ := ltt_some hF
  rw [set_i ct ad G y6.1 hc4 hk4, ← eM7] at hP hD
  refine lv_aloadq_n hx hb dX1_readTurns_27 rfl (lv_at hl 1 rfl) ?_
  refine lv_bipush (v := (13 : Int32)) hx hb dX1_readTurns_28 (by decide) ?_
  refine lv_aload_n hx hb dX1_readTurns_30 rfl (lv_at hl 0 rfl) ?_
  refine lv_sipush (v := (-32768 : Int32)) hx hb dX1_readTurns_31 (by decide) ?_
  refine lv_sipush (v := (32767 : Int32)) hx hb dX1_readTurns_34 (by decide) ?_
  obtain ⟨y8, hy8, hF⟩ := bnd_some hF
  have hf9 := wA_in hD hA9 hS
  refine va_calli (va_runV (As := [.int (-32768 : Int32), .int (32767 : Int32)]) (rest := [.int (13 : Int32), va_re ad p0]) ⟨hx, hb, hml, hown, hts⟩ (kX1_signed l D ct ad Z G M7 H.size a ((-32768 : Int32)) ((32767 : Int32)) y8 hc hk hy8) (cwV 2 hts gX1_readTurns_X1_signed rfl rfl rfl (by decide +kernel) ⟨Nat.le_of_ble_eq_true rfl, Nat.le_of_ble_eq_true rfl⟩) ⟨fun a U g mk q => by obtain ⟨q0, q1, qP, qK, qD, qZ, qN⟩ := q; exact ⟨q0, q1, qP, va_K.moved (u := U) (U := U.calling g mk a) (Vm.Alike.refl U.vm) qK, qD, sF.moved (u := U) (U := U.calling g mk a) (Vm.Alike.refl U.vm) qZ, nF.same rfl qN⟩, va_recv hK hP (ci := 1) (q0 := a) rfl (wld_o ct ad G M7 hc hk (by decide)), fun U hU hW => ⟨rfl, by rw [hU], by rw [hU]; exact hP, va_K.moved hW.alike hK, hD.weaken (fun _ _ _ _ => trivial), by rw [hU]; exact ((hZ.kept hS.2.1).narrow hf9).moved hW.alike, hN.warm hW⟩⟩ rfl rfl hl.1 rfl (lv_room (by simp only [List.map, va_re_cat]; exact Nat.le_of_ble_eq_true rfl)) dX1_readTurns_37 ⟨(Nat.zero_le _), (Nat.zero_le _)⟩) hS (fun q _ h => hf9 q h) hf9 (fun r u t H locs ht hvm hw hB hz1 hk1 hS => ?_)
  obtain ⟨hP, hK9, hD9⟩ := hB
  rw [ht] at hP
  try dsimp only at hw
  subst hw
  have hD := hD9.weaken (fun _ q _ h => hf9 q.1 h)
  refine W_st (st' := [.int y8.2, .int (13 : Int32), .ref (ad b4)]) (by rw [va_some ho4]) ?_
  obtain ⟨hvc, hF⟩ := chk_some hF
  refine va_iast hx hb hK hP hD hS b4 1 (wld_i ct ad G y8.1 hc4 hk4) rfl hvc dX1_readTurns_40 (fun H locs hP hD hS => ?_)
  obtain ⟨M9, eM9, hF⟩ := ltt_some hF
  rw [set_i ct ad G y8.1 hc4 hk4, ← eM9] at hP hD
  refine lv_aloadq_n hx hb dX1_readTurns_41 rfl (lv_at hl 1 rfl) ?_
  refine lv_bipush (v := (14 : Int32)) hx hb dX1_readTurns_42 (by decide) ?_
  refine lv_aload_n hx hb dX1_readTurns_44 rfl (lv_at hl 0 rfl) ?_
  refine lv_bipush (v := (8 : Int32)) hx hb dX1_readTurns_45 (by decide) ?_
  obtain ⟨y10, hy10, hF⟩ := bnd_some hF
  have hf9 := wA_in hD hA9 hS
  refine va_calli (va_runV (As := [.int (8 : Int32)]) (rest := [.int (14 : Int32), va_re ad p0]) ⟨hx, hb, hml, hown, hts⟩ (kX1_unsigned l D ct ad Z G M9 H.size a ((8 : Int32)) y10 hc hk hy10) (cwV 1 hts gX1_readTurns_X1_unsigned rfl rfl rfl (by decide +kernel) ⟨Nat.le_of_ble_eq_true rfl, Nat.le_of_ble_eq_true rfl⟩) ⟨fun a U g mk q => by obtain ⟨q0, q1, qP, qK, qD, qZ, qN⟩ := q; exact ⟨q0, q1, qP, va_K.moved (u := U) (U := U.calling g mk a) (Vm.Alike.refl U.vm) qK, qD, sF.moved (u := U) (U := U.calling g mk a) (Vm.Alike.refl U.vm) qZ, nF.same rfl qN⟩, va_recv hK hP (ci := 1) (q0 := a) rfl (wld_o ct ad G M9 hc hk (by decide)), fun U hU hW => ⟨rfl, by rw [hU], by rw [hU]; exact hP, va_K.moved hW.alike hK, hD.weaken (fun _ _ _ _ => trivial), by rw [hU]; exact ((hZ.kept hS.2.1).narrow hf9).moved hW.alike, hN.warm hW⟩⟩ rfl rfl hl.1 rfl (lv_room (by simp only [List.map, va_re_cat]; exact Nat.le_of_ble_eq_true rfl)) dX1_readTurns_47 ⟨(Nat.zero_le _), (Nat.zero_le _)⟩) hS (fun q _ h => hf9 q h) hf9 (fun r u t H locs ht hvm hw hB hz1 hk1 hS => ?_)
  obtain ⟨hP, hK9, hD9⟩ := hB
  rw [ht] at hP
  try dsimp only at hw
  subst hw
  have hD := hD9.weaken (fun _ q _ h => hf9 q.1 h)
  refine W_st (st' := [.int y10.2, .int (14 : Int32), .ref (ad b4)]) (by rw [va_some ho4]) ?_
  obtain ⟨hvc, hF⟩ := chk_some hF
  refine va_iast hx hb hK hP hD hS b4 1 (wld_i ct ad G y10.1 hc4 hk4) rfl hvc dX1_readTurns_50 (fun H locs hP hD hS => ?_)
  obtain ⟨M11, eM11, hF⟩ := ltt_some hF
  rw [set_i ct ad G y10.1 hc4 hk4, ← eM11] at hP hD
  refine lv_iconst (v := (0 : Int32)) hx hb dX1_readTurns_51 (by decide) ?_
  refine lv_istore_n (lv' := [(2, .int (0 : Int32)), (0, .ref (ad a)), (1, va_re ad p0)]) hx hb dX1_readTurns_52 rfl hl (by decide) (by generalize p0 = o9; cases o9 <;> rfl) (fun ls hl => ?_)
  obtain ⟨y12, hy12, hF⟩ := bnd_some hF
  have K12 : ∀ (H : Heap) (locs : List Loc) (ls : Array Slot), va_P D classes (wld ct ad G y12.2) H → va_D A (wld ct ad G y12.2) → va_S A s.heap H locs → lv_has ls 3 [(2, .int y12.1), (0, .ref (ad a)), (1, va_re ad p0)] → W p l e (headSpec wsX1_readTurns ({ frames := 3, cells := 0, slots := 0, locals := 81 })).room s m ([.ref (ad a), va_re ad p0] : List Value).toArray below meth c H locs 0 0 (MQ below (va_Qv (fun (_ : Unit) => True) (fun _ t => kE D ct ad G A y t) A) ([.ref (ad a), va_re ad p0] : List Value).toArray s 0 0 A) (F0 m 92 ls []) := by
    intro H locs ls hP hD hS hl
    obtain rfl := Option.some.inj hF
    exact W.vret hx hb hr (fun t ht hW => ⟨⟨(), rfl, trivial, ⟨by rw [ht]; exact hP, va_K.moved hW.alike hK, hD⟩⟩, hS.F ht⟩) hS.2.2 dX1_readTurns_92
  clear hF
  refine itr_rule (fun (s13 : Int32 × DD) => ∀ (H : Heap) (locs : List Loc) (ls : Array Slot), va_P D classes (wld ct ad G s13.2) H → va_D A (wld ct ad G s13.2) → va_S A s.heap H locs → lv_has ls 3 [(2, .int s13.1), (0, .ref (ad a)), (1, va_re ad p0)] → W p l e (headSpec wsX1_readTurns ({ frames := 3, cells := 0, slots := 0, locals := 81 })).room s m ([.ref (ad a), va_re ad p0] : List Value).toArray below meth c H locs 0 0 (MQ below (va_Qv (fun (_ : Unit) => True) (fun _ t => kE D ct ad G A y t) A) ([.ref (ad a), va_re ad p0] : List Value).toArray s 0 0 A) (F0 m 53 ls [])) ?_ _ _ hy12 _ _ _ hP hD hS (lv_sub hl [0, 1, 2] rfl)
  rintro s13 ⟨z15, hF, hwz15⟩ H locs ls hP hD hS hl
  try dsimp only at hF
  refine lv_iload_n hx hb dX1_readTurns_53 rfl (lv_at hl 0 rfl) ?_
  refine lv_aloadq_n hx hb dX1_readTurns_54 rfl (lv_at hl 2 rfl) ?_
  refine lv_bipush (v := (14 : Int32)) hx hb dX1_readTurns_55 (by decide) ?_
  refine W_st (st' := [.int (14 : Int32), .ref (ad b4), .int s13.1]) (by rw [va_some ho4]) ?_
  obtain ⟨hvc, hF⟩ := chk_some hF
  refine va_iald hx hb hK hP b4 1 (wld_i ct ad G s13.2 hc4 hk4) rfl hvc dX1_readTurns_57 ?_
  obtain ⟨x16, ex16, hF⟩ := ltt_some hF
  refine lv_topi (fun zx16 ezx16 => ?_)
  obtain rfl : x16 = zx16 := ex16.trans ezx16.symm
  refine lv_icmp_ge (tgt := 92) hx hb dX1_readTurns_58 (by decide) (fun c17 => ?_) (fun c17 => ?_)
  · rw [if_pos c17] at hF
    obtain rfl := Option.some.inj hF
    subst hwz15
    exact K12 _ _ _ hP hD hS (lv_sub hl [0, 1, 2] rfl)
  · rw [if_neg c17] at hF
    refine lv_bipush (v := (15 : Int32)) hx hb dX1_readTurns_61 (by decide) ?_
    refine lv_iload_n hx hb dX1_readTurns_63 rfl (lv_at hl 0 rfl) ?_
    refine lv_iadd hx hb dX1_readTurns_64 ?_
    obtain ⟨x18, ex18, hF⟩ := ltt_some hF
    refine lv_topi (fun zx18 ezx18 => ?_)
    obtain rfl : x18 = zx18 := ex18.trans ezx18.symm
    refine lv_bipush (v := (23 : Int32)) hx hb dX1_readTurns_65 (by decide) ?_
    refine lv_icmp_ge (tgt := 92) hx hb dX1_readTurns_67 (by decide) (fun c19 => ?_) (fun c19 => ?_)
    · rw [if_pos c19] at hF
      obtain rfl := Option.some.inj hF
      subst hwz15
      exact K12 _ _ _ hP hD hS (lv_sub hl [0, 1, 2] rfl)
    · rw [if_neg c19] at hF
      refine lv_aloadq_n hx hb dX1_readTurns_70 rfl (lv_at hl 2 rfl) ?_
      refine lv_bipush (v := (15 : Int32)) hx hb dX1_readTurns_71 (by decide) ?_
      refine lv_iload_n hx hb dX1_readTurns_73 rfl (lv_at hl 0 rfl) ?_
      refine lv_iadd hx hb dX1_readTurns_74 ?_
      obtain ⟨x20, ex20, hF⟩ := ltt_some hF
      refine lv_topi (fun zx20 ezx20 => ?_)
      obtain rfl : x20 = zx20 := ex20.trans ezx20.symm
      refine lv_aload_n hx hb dX1_readTurns_75 rfl (lv_at hl 1 rfl) ?_
      refine lv_sipush (v := (-32768 : Int32)) hx hb dX1_readTurns_76 (by decide) ?_
      refine lv_sipush (v := (32767 : Int32)) hx hb dX1_readTurns_79 (by decide) ?_
      obtain ⟨y21, hy21, hF⟩ := bnd_some hF
      have hf9 := wA_in hD hA9 hS
      refine va_calli (va_runV (As := [.int (-32768 : Int32), .int (32767 : Int32)]) (rest := [.int x20, va_re ad p0]) ⟨hx, hb, hml, hown, hts⟩ (kX1_signed l D ct ad Z G s13.2 H.size a ((-32768 : Int32)) ((32767 : Int32)) y21 hc hk hy21) (cwV 2 hts gX1_readTurns_X1_signed rfl rfl rfl (by decide +kernel) ⟨Nat.le_of_ble_eq_true rfl, Nat.le_of_ble_eq_true rfl⟩) ⟨fun a U g mk q => by obtain ⟨q0, q1, qP, qK, qD, qZ, qN⟩ := q; exact ⟨q0, q1, qP, va_K.moved (u := U) (U := U.calling g mk a) (Vm.Alike.refl U.vm) qK, qD, sF.moved (u := U) (U := U.calling g mk a) (Vm.Alike.refl U.vm) qZ, nF.same rfl qN⟩, va_recv hK hP (ci := 1) (q0 := a) rfl (wld_o ct ad G s13.2 hc hk (by decide)), fun U hU hW => ⟨rfl, by rw [hU], by rw [hU]; exact hP, va_K.moved hW.alike hK, hD.weaken (fun _ _ _ _ => trivial), by rw [hU]; exact ((hZ.kept hS.2.1).narrow hf9).moved hW.alike, hN.warm hW⟩⟩ rfl rfl hl.1 rfl (lv_room (by simp only [List.map, va_re_cat]; exact Nat.le_of_ble_eq_true rfl)) dX1_readTurns_82 ⟨(Nat.zero_le _), (Nat.zero_le _)⟩) hS (fun q _ h => hf9 q h) hf9 (fun r u t H locs ht hvm hw hB hz1 hk1 hS => ?_)
      obtain ⟨hP, hK9, hD9⟩ := hB
      rw [ht] at hP
      try dsimp only at hw
      subst hw
      have hD := hD9.weaken (fun _ q _ h => hf9 q.1 h)
      refine W_st (st' := [.int y21.2, .int x20, .ref (ad b4)]) (by rw [va_some ho4]) ?_
      obtain ⟨hvc, hF⟩ := chk_some hF
      refine va_iast hx hb hK hP hD hS b4 1 (wld_i ct ad G y21.1 hc4 hk4) rfl hvc dX1_readTurns_85 (fun H locs hP hD hS => ?_)
      obtain ⟨M22, eM22, hF⟩ := ltt_some hF
      rw [set_i ct ad G y21.1 hc4 hk4, ← eM22] at hP hD
      obtain ⟨x23, ex23, hF⟩ := ltt_some hF
      refine lv_iinc (v := x23) (lv' := [(2, .int x23), (0, .ref (ad a)), (1, va_re ad p0)]) hx hb dX1_readTurns_86 hl (k := 0) rfl (by rw [ex23]; rfl) (by decide) (by generalize p0 = o9; cases o9 <;> rfl) (fun ls hl => ?_)
      refine lv_goto (tgt := 53) hx hb dX1_readTurns_89 (by decide) ?_
      obtain rfl := Option.some.inj hF
      exact hwz15 _ _ _ hP hD hS (lv_sub hl [0, 1, 2] rfl)
theorem ggX1_readWeights_X3_weightAt : GoodIn wsX1_readWeights wsX3_weightAt := goodIn_r _ [39] (by decide +kernel) (by decide +kernel)
set_option maxRecDepth 20000 in
theorem gX1_readWeights_X3_weightAt : GoodIn wsX1_readWeights (va_wsS RX1 246 yX3_weightAt wsX3_weightAt) := goodIn_app (goodIn_of _ (by decide +kernel)) ggX1_readWeights_X3_weightAt
set_option maxRecDepth 20000 in
theorem ggX1_readWeights_X1_signed : GoodIn wsX1_readWeights wsX1_signed := goodIn_ca (goodIn_r _ [44, 3, 45, 46, 47, 8, 48, 10, 11, 49, 12, 13, 14, 15, 16, 17, 18, 19, 20, 21, 22, 23, 24, 25, 26, 27, 28, 50, 51, 52, 53, 29, 30, 31, 32, 33, 34, 35, 54, 55, 56, 57, 58, 59, 60, 61, 62, 63, 64, 65, 66, 67, 68, 69, 70, 71, 72, 73, 74, 75, 80, 81, 82, 83, 84, 85, 86, 87, 88, 89, 90, 91, 92, 93, 94, 95, 96] (by decide +kernel) (by decide +kernel)) (goodIn_sub (fun _ h => List.mem_cons_of_mem _ (List.mem_append_right _ h)) (by decide +kernel))
set_option maxRecDepth 20000 in
theorem gX1_readWeights_X1_signed : GoodIn wsX1_readWeights (wsV RX1 209 RX1 yX1_signed wsX1_signed) := goodIn_app (goodIn_of _ (by decide +kernel)) ggX1_readWeights_X1_signed
theorem ggX1_readWeights_X5_fixed : GoodIn wsX1_readWeights wsX5_fixed := goodIn_ca (goodIn_r _ [9, 10, 11, 12, 13, 14, 8, 15, 16, 17, 18, 19, 20, 21, 22, 23, 24, 25, 26, 27, 28, 29, 30, 31, 32, 33, 34, 35, 80, 81, 82, 83, 84, 85, 86, 87, 88, 89, 90, 91, 92, 93, 94, 95, 96] (by decide +kernel) (by decide +kernel)) (goodIn_sub (fun _ h => List.mem_cons_of_mem _ (List.mem_append_right _ h)) (by decide +kernel))
set_option maxRecDepth 20000 in
theorem gX1_readWeights_X5_fixed : GoodIn wsX1_readWeights (wsV RX1 183 RX5 yX5_fixed wsX5_fixed) := goodIn_app (goodIn_of _ (by decide +kernel)) ggX1_readWeights_X5_fixed
set_option maxRecDepth 20000 in
theorem dX1_readWeights_0 : decode cX1_readWeights 0 = .ok (.aload_n 0, 1) := by decide +kernel
theorem dX1_readWeights_1 : decode cX1_readWeights 1 = .ok (.getfield 68, 3) := by decide +kernel
theorem dX1_readWeights_4 : decode cX1_readWeights 4 = .ok (.getfield 212, 3) := by decide +kernel
theorem dX1_readWeights_7 : decode cX1_readWeights 7 = .ok (.bipush 9, 2) := by decide +kernel
theorem dX1_readWeights_9 : decode cX1_readWeights 9 = .ok (.iload_n 1, 1) := by decide +kernel
theorem dX1_readWeights_10 : decode cX1_readWeights 10 = .ok (.iadd, 1) := by decide +kernel
theorem dX1_readWeights_11 : decode cX1_readWeights 11 = .ok (.iaload, 1) := by decide +kernel
theorem dX1_readWeights_12 : decode cX1_readWeights 12 = .ok (.istore_n 2, 1) := by decide +kernel
theorem dX1_readWeights_13 : decode cX1_readWeights 13 = .ok (.iconst 0, 1) := by decide +kernel
theorem dX1_readWeights_14 : decode cX1_readWeights 14 = .ok (.istore_n 3, 1) := by decide +kernel
theorem dX1_readWeights_15 : decode cX1_readWeights 15 = .ok (.iload_n 3, 1) := by decide +kernel
theorem dX1_readWeights_16 : decode cX1_readWeights 16 = .ok (.iload_n 2, 1) := by decide +kernel
theorem dX1_readWeights_17 : decode cX1_readWeights 17 = .ok (.if_icmp .ge 116, 3) := by decide +kernel
theorem dX1_readWeights_20 : decode cX1_readWeights 20 = .ok (.iload_n 3, 1) := by decide +kernel
theorem dX1_readWeights_21 : decode cX1_readWeights 21 = .ok (.bipush 8, 2) := by decide +kernel
theorem dX1_readWeights_23 : decode cX1_readWeights 23 = .ok (.if_icmp .ge 110, 3) := by decide +kernel
theorem dX1_readWeights_26 : decode cX1_readWeights 26 = .ok (.iconst 0, 1) := by decide +kernel
theorem dX1_readWeights_27 : decode cX1_readWeights 27 = .ok (.istore 4, 2) := by decide +kernel
theorem dX1_readWeights_29 : decode cX1_readWeights 29 = .ok (.iconst 0, 1) := by decide +kernel
theorem dX1_readWeights_30 : decode cX1_readWeights 30 = .ok (.istore 5, 2) := by decide +kernel
theorem dX1_readWeights_32 : decode cX1_readWeights 32 = .ok (.iload 5, 2) := by decide +kernel
theorem dX1_readWeights_34 : decode cX1_readWeights 34 = .ok (.iconst 3, 1) := by decide +kernel
theorem dX1_readWeights_35 : decode cX1_readWeights 35 = .ok (.if_icmp .ge 92, 3) := by decide +kernel
theorem dX1_readWeights_38 : decode cX1_readWeights 38 = .ok (.iload 5, 2) := by decide +kernel
theorem dX1_readWeights_40 : decode cX1_readWeights 40 = .ok (.iconst 2, 1) := by decide +kernel
theorem dX1_readWeights_41 : decode cX1_readWeights 41 = .ok (.if_icmp .ge 24, 3) := by decide +kernel
theorem dX1_readWeights_44 : decode cX1_readWeights 44 = .ok (.aload_n 0, 1) := by decide +kernel
theorem dX1_readWeights_45 : decode cX1_readWeights 45 = .ok (.getfield 12, 3) := by decide +kernel
theorem dX1_readWeights_48 : decode cX1_readWeights 48 = .ok (.iconst 0, 1) := by decide +kernel
theorem dX1_readWeights_49 : decode cX1_readWeights 49 = .ok (.iconst 1, 1) := by decide +kernel
theorem dX1_readWeights_50 : decode cX1_readWeights 50 = .ok (.invokevirtual 183, 3) := by decide +kernel
theorem dX1_readWeights_53 : decode cX1_readWeights 53 = .ok (.iconst 1, 1) := by decide +kernel
theorem dX1_readWeights_54 : decode cX1_readWeights 54 = .ok (.if_icmp .ne 7, 3) := by decide +kernel
theorem dX1_readWeights_57 : decode cX1_readWeights 57 = .ok (.iconst 1, 1) := by decide +kernel
theorem dX1_readWeights_58 : decode cX1_readWeights 58 = .ok (.goto 9, 3) := by decide +kernel
theorem dX1_readWeights_61 : decode cX1_readWeights 61 = .ok (.iconst 0, 1) := by decide +kernel
theorem dX1_readWeights_62 : decode cX1_readWeights 62 = .ok (.goto 5, 3) := by decide +kernel
theorem dX1_readWeights_65 : decode cX1_readWeights 65 = .ok (.iload 4, 2) := by decide +kernel
theorem dX1_readWeights_67 : decode cX1_readWeights 67 = .ok (.istore 4, 2) := by decide +kernel
theorem dX1_readWeights_69 : decode cX1_readWeights 69 = .ok (.iload 4, 2) := by decide +kernel
theorem dX1_readWeights_71 : decode cX1_readWeights 71 = .ok (.ifCond .eq 50, 3) := by decide +kernel
theorem dX1_readWeights_74 : decode cX1_readWeights 74 = .ok (.iload_n 1, 1) := by decide +kernel
theorem dX1_readWeights_75 : decode cX1_readWeights 75 = .ok (.iload_n 3, 1) := by decide +kernel
theorem dX1_readWeights_76 : decode cX1_readWeights 76 = .ok (.iload 5, 2) := by decide +kernel
theorem dX1_readWeights_78 : decode cX1_readWeights 78 = .ok (.invokestatic 246, 3) := by decide +kernel
theorem dX1_readWeights_81 : decode cX1_readWeights 81 = .ok (.istore 6, 2) := by decide +kernel
theorem dX1_readWeights_83 : decode cX1_readWeights 83 = .ok (.aload_n 0, 1) := by decide +kernel
theorem dX1_readWeights_84 : decode cX1_readWeights 84 = .ok (.getfield 68, 3) := by decide +kernel
theorem dX1_readWeights_87 : decode cX1_readWeights 87 = .ok (.getfield 250, 3) := by decide +kernel
theorem dX1_readWeights_90 : decode cX1_readWeights 90 = .ok (.iload 6, 2) := by decide +kernel
theorem dX1_readWeights_92 : decode cX1_readWeights 92 = .ok (.aload_n 0, 1) := by decide +kernel
theorem dX1_readWeights_93 : decode cX1_readWeights 93 = .ok (.bipush (-128), 2) := by decide +kernel
theorem dX1_readWeights_95 : decode cX1_readWeights 95 = .ok (.bipush 127, 2) := by decide +kernel
theorem dX1_readWeights_97 : decode cX1_readWeights 97 = .ok (.invokevirtual 209, 3) := by decide +kernel
theorem dX1_readWeights_100 : decode cX1_readWeights 100 = .ok (.iastore, 1) := by decide +kernel
theorem dX1_readWeights_101 : decode cX1_readWeights 101 = .ok (.aload_n 0, 1) := by decide +kernel
theorem dX1_readWeights_102 : decode cX1_readWeights 102 = .ok (.getfield 68, 3) := by decide +kernel
theorem dX1_readWeights_105 : decode cX1_readWeights 105 = .ok (.getfield 250, 3) := by decide +kernel
theorem dX1_readWeights_108 : decode cX1_readWeights 108 = .ok (.iload 6, 2) := by decide +kernel
theorem dX1_readWeights_110 : decode cX1_readWeights 110 = .ok (.iconst 1, 1) := by decide +kernel
theorem dX1_readWeights_111 : decode cX1_readWeights 111 = .ok (.iadd, 1) := by decide +kernel
theorem dX1_readWeights_112 : decode cX1_readWeights 112 = .ok (.aload_n 0, 1) := by decide +kernel
theorem dX1_readWeights_113 : decode cX1_readWeights 113 = .ok (.bipush (-128), 2) := by decide +kernel
theorem dX1_readWeights_115 : decode cX1_readWeights 115 = .ok (.bipush 127, 2) := by decide +kernel
theorem dX1_readWeights_117 : decode cX1_readWeights 117 = .ok (.invokevirtual 209, 3) := by decide +kernel
theorem dX1_readWeights_120 : decode cX1_readWeights 120 = .ok (.iastore, 1) := by decide +kernel
theorem dX1_readWeights_121 : decode cX1_readWeights 121 = .ok (.iinc 5 1, 3) := by decide +kernel
theorem dX1_readWeights_124 : decode cX1_readWeights 124 = .ok (.goto (-92), 3) := by decide +kernel
theorem dX1_readWeights_127 : decode cX1_readWeights 127 = .ok (.iinc 3 1, 3) := by decide +kernel
theorem dX1_readWeights_130 : decode cX1_readWeights 130 = .ok (.goto (-115), 3) := by decide +kernel
theorem dX1_readWeights_133 : decode cX1_readWeights 133 = .ok (.return_, 1) := by decide +kernel
def FX1_readWeights (G : GG) (M : DD) (a : Nat) (p0 : Int32) : Option (DD) :=
  dr G 3 ((M.2 a 10)) fun b2 =>
  ltt ((((9 : Int32)) + p0)) fun x3 =>
  dr G 13 ((M.2 b2 0)) fun b4 =>
  chk (¬ (x3 < 0 ∨ G.2.2 b4 ≤ x3.toNatClampNeg)) <|
  ltt (M.1 b4 x3.toNatClampNeg) fun x5 =>
  bnd (itr (fun (s7 : Int32 × DD) => ((if x5 ≤ s7.1 then (some (.inr (s7.1, s7.2))) else
  (if ((8 : Int32)) ≤ s7.1 then (some (.inr (s7.1, s7.2))) else
  (bnd (itr (fun (s13 : Int32 × Int32 × DD) => ((if ((3 : Int32)) ≤ s13.2.1 then (some (.inr (s13.1, s13.2.1, s13.2.2))) else
  (bnd (if ((2 : Int32)) ≤ s13.2.1 then (some (s13.1, s13.2.2)) else
  (dr G 5 ((s13.2.2.2 a 0)) fun b33 =>
  bnd (FX5_fixed G s13.2.2 b33 ((0 : Int32)) ((1 : Int32))) fun y34 =>
  bnd (if y34.2 = ((1 : Int32)) then (some ((1 : Int32))) else
  (some ((0 : Int32)))) fun (y35 : Int32) =>
  some (y35, y34.1))) fun (y18 : Int32 × DD) =>
  bnd (if y18.1 = ((0 : Int32)) then (some (y18.2)) else
  (bnd (FX3_weightAt G y18.2 p0 s7.1 s13.2.1) fun y22 =>
  dr G 3 ((y22.1.2 a 10)) fun b23 =>
  bnd (FX1_signed G y22.1 a ((-128 : Int32)) ((127 : Int32))) fun y24 =>
  dr G 13 ((y22.1.2 b23 3)) fun b25 =>
  chk (¬ (y22.2 < 0 ∨ G.2.2 b25 ≤ y22.2.toNatClampNeg)) <|
  ltt (uI y24.1 b25 y22.2.toNatClampNeg y24.2) fun M26 =>
  dr G 3 ((M26.2 a 10)) fun b27 =>
  ltt ((y22.2 + ((1 : Int32)))) fun x28 =>
  bnd (FX1_signed G M26 a ((-128 : Int32)) ((127 : Int32))) fun y29 =>
  dr G 13 ((M26.2 b27 3)) fun b30 =>
  chk (¬ (x28 < 0 ∨ G.2.2 b30 ≤ x28.toNatClampNeg)) <|
  ltt (uI y29.1 b30 x28.toNatClampNeg y29.2) fun M31 =>
  some (M31))) fun (y19 : DD) =>
  ltt (s13.2.1 + (1 : Int32)) fun x20 =>
  some (.inl (y18.1, x20, y19)))) : Option ((Int32 × Int32 × DD) ⊕ (Int32 × Int32 × DD)))) 1000000 ((0 : Int32), (0 : Int32), s7.2)) fun (y12 : Int32 × Int32 × DD) =>
  ltt (s7.1 + (1 : Int32)) fun x15 =>
  some (.inl (x15, y12.2.2))))) : Option ((Int32 × DD) ⊕ (Int32 × DD)))) 1000000 ((0 : Int32), M)) fun (y6 : Int32 × DD) =>
  some y6.2
set_option maxHeartbeats 4000000 in
set_option maxRecDepth 100000 in
theorem kX1_readWeights (l : Launch) (D : va_G) (ct : CT) (ad : Nat → Nat) (Z : Nat → Nat) (G : GG) (M : DD) (sz : Nat) (a : Nat) (p0 : Int32) (y : DD) (hc : a < G.1) (hk : G.2.1 a = 1) (hF : FX1_readWeights G M a p0 = some y) : Met l yX1_readWeights wsX1_readWeights ({ frames := 3, cells := 0, slots := 0, locals := 81 }) (va_Pc [.ref (ad a), .int p0] (kB D ct ad Z G M sz)) (va_Qv (fun (_ : Unit) => True) (fun _ t => kE D ct ad G (wA ad G sz) y t) (wA ad G sz)) 0 0 (wA ad G sz) := by
  refine Met.ofW (cc := cX1_readWeights) (maxL := 7) (ret := none) (by decide) rfl ?_
  intro p e s m args below meth c s₁ B hml hv
  obtain ⟨rfl, hsz, hP, hK, hD0, hZ, hN⟩ := hv
  have hx := B.exec
  have hb := B.bytes
  have hr := B.returns
  have hts := atoms_spec (ws := wsX1_readWeights) B.pre
  have hown : s.vm.findClass RX1 = some m.cls := findClass_of_methodNamed B.named
  have hlocks := B.notSynchronized
  subst hsz
  have hD := wD_self (sz := s.heap.size) hD0
  have hA9 : ∀ q, s.heap.size ≤ q → wA ad G s.heap.size q := fun q h => Or.inr h
  generalize hAe : wA ad G s.heap.size = A at hD hA9 hZ ⊢
  have hS : va_S A s.heap s.heap [] := va_S.rf
  have hl := lv_entry ([.ref (ad a), .int p0]) (n := 7) (Nat.le_of_ble_eq_true rfl)
  rw [lg_entry_eq]
  generalize (lg_sl ([.ref (ad a), .int p0]) ++ List.replicate (7 - (lg_sl ([.ref (ad a), .int p0])).length) Slot.unset).toArray = ls at hl ⊢
  have hl : lv_has ls 7 [(0, .ref (ad a)), (1, .int p0)] := hl
  unfold FX1_readWeights at hF
  refine lv_aload_n hx hb dX1_readWeights_0 rfl (lv_at hl 0 rfl) ?_
  refine va_get (D := D) (ci := 1) (v := va_re ad (M.2 a 10)) (C := RX1) (T := TX1) (N := 22) hx hb hts (by decide +kernel) hown hK hP a (wld_o ct ad G M hc hk (by decide)) rfl 10 (by decide) (hts (.fieldLink RX1 68 "VideoSuite$Decoder" "head" "LVideoSuite$Header;") (by decide +kernel)) (fun _ h9 => h9) rfl dX1_readWeights_1 ?_
  obtain ⟨b2, ho2, hc2, hk2, hF⟩ := dr_some hF
  refine W_st (st' := [.ref (ad b2)]) (by rw [va_some ho2]) ?_
  refine va_get (D := D) (ci := 3) (v := va_re ad (M.2 b2 0)) (C := RX3) (T := TX3) (N := 4) hx hb hts (by decide +kernel) hown hK hP b2 (wld_o ct ad G M hc2 hk2 (by decide)) rfl 0 (by decide) (hts (.fieldLink RX1 212 "VideoSuite$Header" "v" "[I") (by decide +kernel)) (fun _ h9 => h9) rfl dX1_readWeights_4 ?_
  refine lv_bipush (v := (9 : Int32)) hx hb dX1_readWeights_7 (by decide) ?_
  refine lv_iload_n hx hb dX1_readWeights_9 rfl (lv_at hl 1 rfl) ?_
  refine lv_iadd hx hb dX1_readWeights_10 ?_
  obtain ⟨x3, ex3, hF⟩ := ltt_some hF
  refine lv_topi (fun zx3 ezx3 => ?_)
  obtain rfl : x3 = zx3 := ex3.trans ezx3.symm
  obtain ⟨b4, ho4, hc4, hk4, hF⟩ := dr_some hF
  refine W_st (st' := [.int x3, .ref (ad b4)]) (by rw [va_some ho4]) ?_
  obtain ⟨hvc, hF⟩ := chk_some hF
  refine va_iald hx hb hK hP b4 1 (wld_i ct ad G M hc4 hk4) rfl hvc dX1_readWeights_11 ?_
  obtain ⟨x5, ex5, hF⟩ := ltt_some hF
  refine lv_topi (fun zx5 ezx5 => ?_)
  obtain rfl : x5 = zx5 := ex5.trans ezx5.symm
  refine lv_istore_n (lv' := [(2, .int x5), (0, .ref (ad a)), (1, .int p0)]) hx hb dX1_readWeights_12 rfl hl (by decide) rfl (fun ls hl => ?_)
  refine lv_iconst (v := (0 : Int32)) hx hb dX1_readWeights_13 (by decide) ?_
  refine lv_istore_n (lv' := [(3, .int (0 : Int32)), (2, .int x5), (0, .ref (ad a)), (1, .int p0)]) hx hb dX1_readWeights_14 rfl hl (by decide) rfl (fun ls hl => ?_)
  obtain ⟨y6, hy6, hF⟩ := bnd_some hF
  have K6 : ∀ (H : Heap) (locs : List Loc) (ls : Array Slot), va_P D classes (wld ct ad G y6.2) H → va_D A (wld ct ad G y6.2) → va_S A s.heap H locs → lv_has ls 7 [(3, .int y6.1), (2, .int x5), (0, .ref (ad a)), (1, .int p0)] → W p l e (headSpec wsX1_readWeights ({ frames := 3, cells := 0, slots := 0, locals := 81 })).room s m ([.ref (ad a), .int p0] : List Value).toArray below meth c H locs 0 0 (MQ below (va_Qv (fun (_ : Unit) => True) (fun _ t => kE D ct ad G A y t) A) ([.ref (ad a), .int p0] : List Value).toArray s 0 0 A) (F0 m 133 ls []) := by
    intro H locs ls hP hD hS hl
    obtain rfl := Option.some.inj hF
    exact W.vret hx hb hr (fun t ht hW => ⟨⟨(), rfl, trivial, ⟨by rw [ht]; exact hP, va_K.moved hW.alike hK, hD⟩⟩, hS.F ht⟩) hS.2.2 dX1_readWeights_133
  clear hF
  refine itr_rule (fun (s7 : Int32 × DD) => ∀ (H : Heap) (locs : List Loc) (ls : Array Slot), va_P D classes (wld ct ad G s7.2) H → va_D A (wld ct ad G s7.2) → va_S A s.heap H locs → lv_has ls 7 [(3, .int s7.1), (2, .int x5), (0, .ref (ad a)), (1, .int p0)] → W p l e (headSpec wsX1_readWeights ({ frames := 3, cells := 0, slots := 0, locals := 81 })).room s m ([.ref (ad a), .int p0] : List Value).toArray below meth c H locs 0 0 (MQ below (va_Qv (fun (_ : Unit) => True) (fun _ t => kE D ct ad G A y t) A) ([.ref (ad a), .int p0] : List Value).toArray s 0 0 A) (F0 m 15 ls [])) ?_ _ _ hy6 _ _ _ hP hD hS (lv_sub hl [0, 1, 2, 3] rfl)
  rintro s7 ⟨z9, hF, hwz9⟩ H locs ls hP hD hS hl
  try dsimp only at hF
  refine lv_iload_n hx hb dX1_readWeights_15 rfl (lv_at hl 0 rfl) ?_
  refine lv_iload_n hx hb dX1_readWeights_16 rfl (lv_at hl 1 rfl) ?_
  refine lv_icmp_ge (tgt := 133) hx hb dX1_readWeights_17 (by decide) (fun c10 => ?_) (fun c10 => ?_)
  · rw [if_pos c10] at hF
    obtain rfl := Option.some.inj hF
    subst hwz9
    exact K6 _ _ _ hP hD hS (lv_sub hl [0, 1, 2, 3] rfl)
  · rw [if_neg c10] at hF
    refine lv_iload_n hx hb dX1_readWeights_20 rfl (lv_at hl 0 rfl) ?_
    refine lv_bipush (v := (8 : Int32)) hx hb dX1_readWeights_21 (by decide) ?_
    refine lv_icmp_ge (tgt := 133) hx hb dX1_readWeights_23 (by decide) (fun c11 => ?_) (fun c11 => ?_)
    · rw [if_pos c11] at hF
      obtain rfl := Option.some.inj hF
      subst hwz9
      exact K6 _ _ _ hP hD hS (lv_sub hl [0, 1, 2, 3] rfl)
    · rw [if_neg c11] at hF
      refine lv_iconst (v := (0 : Int32)) hx hb dX1_readWeights_26 (by decide) ?_
      refine lv_istore (lv' := [(4, .int (0 : Int32)), (3, .int s7.1), (2, .int x5), (0, .ref (ad a)), (1, .int p0)]) hx hb dX1_readWeights_27 hl (by decide) rfl (fun ls hl => ?_)
      refine lv_iconst (v := (0 : Int32)) hx hb dX1_readWeights_29 (by decide) ?_
      refine lv_istore (lv' := [(5, .int (0 : Int32)), (4, .int (0 : Int32)), (3, .int s7.1), (2, .int x5), (0, .ref (ad a)), (1, .int p0)]) hx hb dX1_readWeights_30 hl (by decide) rfl (fun ls hl => ?_)
      obtain ⟨y12, hy12, hF⟩ := bnd_some hF
      have K12 : ∀ (H : Heap) (locs : List Loc) (ls : Array Slot), va_P D classes (wld ct ad G y12.2.2) H → va_D A (wld ct ad G y12.2.2) → va_S A s.heap H locs → lv_has ls 7 [(5, .int y12.2.1), (4, .int y12.1), (3, .int s7.1), (2, .int x5), (0, .ref (ad a)), (1, .int p0)] → W p l e (headSpec wsX1_readWeights ({ frames := 3, cells := 0, slots := 0, locals := 81 })).room s m ([.ref (ad a), .int p0] : List Value).toArray below meth c H locs 0 0 (MQ below (va_Qv (fun (_ : Unit) => True) (fun _ t => kE D ct ad G A y t) A) ([.ref (ad a), .int p0] : List Value).toArray s 0 0 A) (F0 m 127 ls []) := by
        intro H locs ls hP hD hS hl
        obtain ⟨x15, ex15, hF⟩ := ltt_some hF
        refine lv_iinc (v := x15) (lv' := [(3, .int x15), (5, .int y12.2.1), (4, .int y12.1), (2, .int x5), (0, .ref (ad a)), (1, .int p0)]) hx hb dX1_readWeights_127 hl (k := 2) rfl (by rw [ex15]; rfl) (by decide) rfl (fun ls hl => ?_)
        refine lv_goto (tgt := 15) hx hb dX1_readWeights_130 (by decide) ?_
        obtain rfl := Option.some.inj hF
        exact hwz9 _ _ _ hP hD hS (lv_sub hl [0, 3, 4, 5] rfl)
      clear hF
      refine itr_rule (fun (s13 : Int32 × Int32 × DD) => ∀ (H : Heap) (locs : List Loc) (ls : Array Slot), va_P D classes (wld ct ad G s13.2.2) H → va_D A (wld ct ad G s13.2.2) → va_S A s.heap H locs → lv_has ls 7 [(5, .int s13.2.1), (4, .int s13.1), (3, .int s7.1), (2, .int x5), (0, .ref (ad a)), (1, .int p0)] → W p l e (headSpec wsX1_readWeights ({ frames := 3, cells := 0, slots := 0, locals := 81 })).room s m ([.ref (ad a), .int p0] : List Value).toArray below meth c H locs 0 0 (MQ below (va_Qv (fun (_ : Unit) => True) (fun _ t => kE D ct ad G A y t) A) ([.ref (ad a), .int p0] : List Value).toArray s 0 0 A) (F0 m 32 ls [])) ?_ _ _ hy12 _ _ _ hP hD hS (lv_sub hl [0, 1, 2, 3, 4, 5] rfl)
      rintro s13 ⟨z16, hF, hwz16⟩ H locs ls hP hD hS hl
      try dsimp only at hF
      refine lv_iload hx hb dX1_readWeights_32 (lv_at hl 0 rfl) ?_
      refine lv_iconst (v := (3 : Int32)) hx hb dX1_readWeights_34 (by decide) ?_
      refine lv_icmp_ge (tgt := 127) hx hb dX1_readWeights_35 (by decide) (fun c17 => ?_) (fun c17 => ?_)
      · rw [if_pos c17] at hF
        obtain rfl := Option.some.inj hF
        subst hwz16
        exact K12 _ _ _ hP hD hS (lv_sub hl [0, 1, 2, 3, 4, 5] rfl)
      · rw [if_neg c17] at hF
        refine lv_iload hx hb dX1_readWeights_38 (lv_at hl 0 rfl) ?_
        refine lv_iconst (v := (2 : Int32)) hx hb dX1_readWeights_40 (by decide) ?_
        obtain ⟨y18, hy18, hF⟩ := bnd_some hF
        have J18 : ∀ (H : Heap) (locs : List Loc) (ls : Array Slot), va_P D classes (wld ct ad G y18.2) H → va_D A (wld ct ad G y18.2) → va_S A s.heap H locs → lv_has ls 7 [(5, .int s13.2.1), (4, .int s13.1), (3, .int s7.1), (2, .int x5), (0, .ref (ad a)), (1, .int p0)] → W p l e (headSpec wsX1_readWeights ({ frames := 3, cells := 0, slots := 0, locals := 81 })).room s m ([.ref (ad a), .int p0] : List Value).toArray below meth c H locs 0 0 (MQ below (va_Qv (fun (_ : Unit) => True) (fun _ t => kE D ct ad G A y t) A) ([.ref (ad a), .int p0] : List Value).toArray s 0 0 A) (F0 m 67 ls [.int y18.1]) := by
          intro H locs ls hP hD hS hl
          refine lv_istore (lv' := [(4, .int y18.1), (5, .int s13.2.1), (3, .int s7.1), (2, .int x5), (0, .ref (ad a)), (1, .int p0)]) hx hb dX1_readWeights_67 hl (by decide) rfl (fun ls hl => ?_)
          refine lv_iload hx hb dX1_readWeights_69 (lv_at hl 0 rfl) ?_
          obtain ⟨y19, hy19, hF⟩ := bnd_some hF
          have J19 : ∀ (H : Heap) (locs : List Loc) (ls : Array Slot), va_P D classes (wld ct ad G y19) H → va_D A (wld ct ad G y19) → va_S A s.heap H locs → lv_has ls 7 [(4, .int y18.1), (5, .int s13.2.1), (3, .int s7.1), (2, .int x5), (0, .ref (ad a)), (1, .int p0)] → W p l e (headSpec wsX1_readWeights ({ frames := 3, cells := 0, slots := 0, locals := 81 })).room s m ([.ref (ad a), .int p0] : List Value).toArray below meth c H locs 0 0 (MQ below (va_Qv (fun (_ : Unit) => True) (fun _ t => kE D ct ad G A y t) A) ([.ref (ad a), .int p0] : List Value).toArray s 0 0 A) (F0 m 121 ls []) := by
            intro H locs ls hP hD hS hl
            obtain ⟨x20, ex20, hF⟩ := ltt_some hF
            refine lv_iinc (v := x20) (lv' := [(5, .int x20), (4, .int y18.1), (3, .int s7.1), (2, .int x5), (0, .ref (ad a)), (1, .int p0)]) hx hb dX1_readWeights_121 hl (k := 1) rfl (by rw [ex20]; rfl) (by decide) rfl (fun ls hl => ?_)
            refine lv_goto (tgt := 32) hx hb dX1_readWeights_124 (by decide) ?_
            obtain rfl := Option.some.inj hF
            exact hwz16 _ _ _ hP hD hS (lv_sub hl [0, 1, 2, 3, 4, 5] rfl)
          clear hF
          have hF := hy19
          clear hy19
          refine lv_if_eq (tgt := 121) hx hb dX1_readWeights_71 (by decide) (fun c21 => ?_) (fun c21 => ?_)
          · rw [if_pos c21] at hF
            obtain rfl := Option.some.inj hF
            exact J19 _ _ _ hP hD hS (lv_sub hl [0, 1, 2, 3, 4, 5] rfl)
          · rw [if_neg c21] at hF
            refine lv_iload_n hx hb dX1_readWeights_74 rfl (lv_at hl 5 rfl) ?_
            refine lv_iload_n hx hb dX1_readWeights_75 rfl (lv_at hl 2 rfl) ?_
            refine lv_iload hx hb dX1_readWeights_76 (lv_at hl 1 rfl) ?_
            obtain ⟨y22, hy22, hF⟩ := bnd_some hF
            have hf9 := wA_in hD hA9 hS
            refine va_calli (va_runS (As := [.int p0, .int s7.1, .int s13.2.1]) (rest := []) ⟨hx, hb, hml, hown, hts⟩ (kX3_weightAt l D ct ad Z G y18.2 H.size p0 s7.1 s13.2.1 y22 hy22) (va_cwS 3 hts gX1_readWeights_X3_weightAt rfl rfl rfl (by decide +kernel) ⟨Nat.le_of_ble_eq_true rfl, Nat.le_of_ble_eq_true rfl⟩) ⟨fun a U g mk q => by obtain ⟨q0, q1, qP, qK, qD, qZ, qN⟩ := q; exact ⟨q0, q1, qP, va_K.moved (u := U) (U := U.calling g mk a) (Vm.Alike.refl U.vm) qK, qD, sF.moved (u := U) (U := U.calling g mk a) (Vm.Alike.refl U.vm) qZ, nF.same rfl qN⟩, fun U hU hW => ⟨rfl, by rw [hU], by rw [hU]; exact hP, va_K.moved hW.alike hK, hD.weaken (fun _ _ _ _ => trivial), by rw [hU]; exact ((hZ.kept hS.2.1).narrow hf9).moved hW.alike, hN.warm hW⟩⟩ rfl rfl hl.1 rfl (lv_room (Nat.le_of_ble_eq_true rfl)) dX1_readWeights_78 ⟨(Nat.zero_le _), (Nat.zero_le _)⟩) hS (fun q _ h => hf9 q h) hf9 (fun r u t H locs ht hvm hw hB hz1 hk1 hS => ?_)
            obtain ⟨hP, hK9, hD9⟩ := hB
            rw [ht] at hP
            try dsimp only at hw
            subst hw
            have hD := hD9.weaken (fun _ q _ h => hf9 q.1 h)
            refine lv_istore (lv' := [(6, .int y22.2), (4, .int y18.1), (5, .int s13.2.1), (3, .int s7.1), (2, .int x5), (0, .ref (ad a)), (1, .int p0)]) hx hb dX1_readWeights_81 hl (by decide) rfl (fun ls hl => ?_)
            refine lv_aload_n hx hb dX1_readWeights_83 rfl (lv_at hl 5 rfl) ?_
            refine va_get (D := D) (ci := 1) (v := va_re ad (y22.1.2 a 10)) (C := RX1) (T := TX1) (N := 22) hx hb hts (by decide +kernel) hown hK hP a (wld_o ct ad G y22.1 hc hk (by decide)) rfl 10 (by decide) (hts (.fieldLink RX1 68 "VideoSuite$Decoder" "head" "LVideoSuite$Header;") (by decide +kernel)) (fun _ h9 => h9) rfl dX1_readWeights_84 ?_
            obtain ⟨b23, ho23, hc23, hk23, hF⟩ := dr_some hF
            refine W_st (st' := [.ref (ad b23)]) (by rw [va_some ho23]) ?_
            refine va_get (D := D) (ci := 3) (v := va_re ad (y22.1.2 b23 3)) (C := RX3) (T := TX3) (N := 4) hx hb hts (by decide +kernel) hown hK hP b23 (wld_o ct ad G y22.1 hc23 hk23 (by decide)) rfl 3 (by decide) (hts (.fieldLink RX1 250 "VideoSuite$Header" "weight" "[I") (by decide +kernel)) (fun _ h9 => h9) rfl dX1_readWeights_87 ?_
            refine lv_iload hx hb dX1_readWeights_90 (lv_at hl 0 rfl) ?_
            refine lv_aload_n hx hb dX1_readWeights_92 rfl (lv_at hl 5 rfl) ?_
            refine lv_bipush (v := (-128 : Int32)) hx hb dX1_readWeights_93 (by decide) ?_
            refine lv_bipush (v := (127 : Int32)) hx hb dX1_readWeights_95 (by decide) ?_
            obtain ⟨y24, hy24, hF⟩ := bnd_some hF
            have hf9 := wA_in hD hA9 hS
            refine va_calli (va_runV (As := [.int (-128 : Int32), .int (127 : Int32)]) (rest := [.int y22.2, va_re ad (y22.1.2 b23 3)]) ⟨hx, hb, hml, hown, hts⟩ (kX1_signed l D ct ad Z G y22.1 H.size a ((-128 : Int32)) ((127 : Int32)) y24 hc hk hy24) (cwV 2 hts gX1_readWeights_X1_signed rfl rfl rfl (by decide +kernel) ⟨Nat.le_of_ble_eq_true rfl, Nat.le_of_ble_eq_true rfl⟩) ⟨fun a U g mk q => by obtain ⟨q0, q1, qP, qK, qD, qZ, qN⟩ := q; exact ⟨q0, q1, qP, va_K.moved (u := U) (U := U.calling g mk a) (Vm.Alike.refl U.vm) qK, qD, sF.moved (u := U) (U := U.calling g mk a) (Vm.Alike.refl U.vm) qZ, nF.same rfl qN⟩, va_recv hK hP (ci := 1) (q0 := a) rfl (wld_o ct ad G y22.1 hc hk (by decide)), fun U hU hW => ⟨rfl, by rw [hU], by rw [hU]; exact hP, va_K.moved hW.alike hK, hD.weaken (fun _ _ _ _ => trivial), by rw [hU]; exact ((hZ.kept hS.2.1).narrow hf9).moved hW.alike, hN.warm hW⟩⟩ rfl rfl hl.1 rfl (lv_room (by simp only [List.map, va_re_cat]; exact Nat.le_of_ble_eq_true rfl)) dX1_readWeights_97 ⟨(Nat.zero_le _), (Nat.zero_le _)⟩) hS (fun q _ h => hf9 q h) hf9 (fun r u t H locs ht hvm hw hB hz1 hk1 hS => ?_)
            obtain ⟨hP, hK9, hD9⟩ := hB
            rw [ht] at hP
            try dsimp only at hw
            subst hw
            have hD := hD9.weaken (fun _ q _ h => hf9 q.1 h)
            obtain ⟨b25, ho25, hc25, hk25, hF⟩ := dr_some hF
            refine W_st (st' := [.int y24.2, .int y22.2, .ref (ad b25)]) (by rw [va_some ho25]) ?_
            obtain ⟨hvc, hF⟩ := chk_some hF
            refine va_iast hx hb hK hP hD hS b25 1 (wld_i ct ad G y24.1 hc25 hk25) rfl hvc dX1_readWeights_100 (fun H locs hP hD hS => ?_)
            obtain ⟨M26, eM26, hF⟩ := ltt_some hF
            rw [set_i ct ad G y24.1 hc25 hk25, ← eM26] at hP hD
            refine lv_aload_n hx hb dX1_readWeights_101 rfl (lv_at hl 5 rfl) ?_
            refine va_get (D := D) (ci := 1) (v := va_re ad (M26.2 a 10)) (C := RX1) (T := TX1) (N := 22) hx hb hts (by decide +kernel) hown hK hP a (wld_o ct ad G M26 hc hk (by decide)) rfl 10 (by decide) (hts (.fieldLink RX1 68 "VideoSuite$Decoder" "head" "LVideoSuite$Header;") (by decide +kernel)) (fun _ h9 => h9) rfl dX1_readWeights_102 ?_
            obtain ⟨b27, ho27, hc27, hk27, hF⟩ := dr_some hF
            refine W_st (st' := [.ref (ad b27)]) (by rw [va_some ho27]) ?_
            refine va_get (D := D) (ci := 3) (v := va_re ad (M26.2 b27 3)) (C := RX3) (T := TX3) (N := 4) hx hb hts (by decide +kernel) hown hK hP b27 (wld_o ct ad G M26 hc27 hk27 (by decide)) rfl 3 (by decide) (hts (.fieldLink RX1 250 "VideoSuite$Header" "weight" "[I") (by decide +kernel)) (fun _ h9 => h9) rfl dX1_readWeights_105 ?_
            refine lv_iload hx hb dX1_readWeights_108 (lv_at hl 0 rfl) ?_
            refine lv_iconst (v := (1 : Int32)) hx hb dX1_readWeights_110 (by decide) ?_
            refine lv_iadd hx hb dX1_readWeights_111 ?_
            obtain ⟨x28, ex28, hF⟩ := ltt_some hF
            refine lv_topi (fun zx28 ezx28 => ?_)
            obtain rfl : x28 = zx28 := ex28.trans ezx28.symm
            refine lv_aload_n hx hb dX1_readWeights_112 rfl (lv_at hl 5 rfl) ?_
            refine lv_bipush (v := (-128 : Int32)) hx hb dX1_readWeights_113 (by decide) ?_
            refine lv_bipush (v := (127 : Int32)) hx hb dX1_readWeights_115 (by decide) ?_
            obtain ⟨y29, hy29, hF⟩ := bnd_some hF
            have hf9 := wA_in hD hA9 hS
            refine va_calli (va_runV (As := [.int (-128 : Int32), .int (127 : Int32)]) (rest := [.int x28, va_re ad (M26.2 b27 3)]) ⟨hx, hb, hml, hown, hts⟩ (kX1_signed l D ct ad Z G M26 H.size a ((-128 : Int32)) ((127 : Int32)) y29 hc hk hy29) (cwV 2 hts gX1_readWeights_X1_signed rfl rfl rfl (by decide +kernel) ⟨Nat.le_of_ble_eq_true rfl, Nat.le_of_ble_eq_true rfl⟩) ⟨fun a U g mk q => by obtain ⟨q0, q1, qP, qK, qD, qZ, qN⟩ := q; exact ⟨q0, q1, qP, va_K.moved (u := U) (U := U.calling g mk a) (Vm.Alike.refl U.vm) qK, qD, sF.moved (u := U) (U := U.calling g mk a) (Vm.Alike.refl U.vm) qZ, nF.same rfl qN⟩, va_recv hK hP (ci := 1) (q0 := a) rfl (wld_o ct ad G M26 hc hk (by decide)), fun U hU hW => ⟨rfl, by rw [hU], by rw [hU]; exact hP, va_K.moved hW.alike hK, hD.weaken (fun _ _ _ _ => trivial), by rw [hU]; exact ((hZ.kept hS.2.1).narrow hf9).moved hW.alike, hN.warm hW⟩⟩ rfl rfl hl.1 rfl (lv_room (by simp only [List.map, va_re_cat]; exact Nat.le_of_ble_eq_true rfl)) dX1_readWeights_117 ⟨(Nat.zero_le _), (Nat.zero_le _)⟩) hS (fun q _ h => hf9 q h) hf9 (fun r u t H locs ht hvm hw hB hz1 hk1 hS => ?_)
            obtain ⟨hP, hK9, hD9⟩ := hB
            rw [ht] at hP
            try dsimp only at hw
            subst hw
            have hD := hD9.weaken (fun _ q _ h => hf9 q.1 h)
            obtain ⟨b30, ho30, hc30, hk30, hF⟩ := dr_some hF
            refine W_st (st' := [.int y29.2, .int x28, .ref (ad b30)]) (by rw [va_some ho30]) ?_
            obtain ⟨hvc, hF⟩ := chk_some hF
            refine va_iast hx hb hK hP hD hS b30 1 (wld_i ct ad G y29.1 hc30 hk30) rfl hvc dX1_readWeights_120 (fun H locs hP hD hS => ?_)
            obtain ⟨M31, eM31, hF⟩ := ltt_some hF
            rw [set_i ct ad G y29.1 hc30 hk30, ← eM31] at hP hD
            obtain rfl := Option.some.inj hF
            exact J19 _ _ _ hP hD hS (lv_sub hl [1, 2, 3, 4, 5, 6] rfl)
        clear hF
        have hF := hy18
        clear hy18
        refine lv_icmp_ge (tgt := 65) hx hb dX1_readWeights_41 (by decide) (fun c32 => ?_) (fun c32 => ?_)
        · rw [if_pos c32] at hF
          refine lv_iload hx hb dX1_readWeights_65 (lv_at hl 1 rfl) ?_
          obtain rfl := Option.some.inj hF
          exact J18 _ _ _ hP hD hS (lv_sub hl [0, 1, 2, 3, 4, 5] rfl)
        · rw [if_neg c32] at hF
          refine lv_aload_n hx hb dX1_readWeights_44 rfl (lv_at hl 4 rfl) ?_
          refine va_get (D := D) (ci := 1) (v := va_re ad (s13.2.2.2 a 0)) (C := RX1) (T := TX1) (N := 22) hx hb hts (by decide +kernel) hown hK hP a (wld_o ct ad G s13.2.2 hc hk (by decide)) rfl 0 (by decide) (hts (.fieldLink RX1 12 "VideoSuite$Decoder" "reader" "LVideoSuite$Reader;") (by decide +kernel)) (fun _ h9 => h9) rfl dX1_readWeights_45 ?_
          refine lv_iconst (v := (0 : Int32)) hx hb dX1_readWeights_48 (by decide) ?_
          refine lv_iconst (v := (1 : Int32)) hx hb dX1_readWeights_49 (by decide) ?_
          obtain ⟨b33, ho33, hc33, hk33, hF⟩ := dr_some hF
          refine W_st (st' := [.int (1 : Int32), .int (0 : Int32), .ref (ad b33)]) (by rw [va_some ho33]) ?_
          obtain ⟨y34, hy34, hF⟩ := bnd_some hF
          have hf9 := wA_in hD hA9 hS
          refine va_calli (va_runV (As := [.int (0 : Int32), .int (1 : Int32)]) (rest := []) ⟨hx, hb, hml, hown, hts⟩ (kX5_fixed l D ct ad Z G s13.2.2 H.size b33 ((0 : Int32)) ((1 : Int32)) y34 hc33 hk33 hy34) (cwV 2 hts gX1_readWeights_X5_fixed rfl rfl rfl (by decide +kernel) ⟨Nat.le_of_ble_eq_true rfl, Nat.le_of_ble_eq_true rfl⟩) ⟨fun a U g mk q => by obtain ⟨q0, q1, qP, qK, qD, qZ, qN⟩ := q; exact ⟨q0, q1, qP, va_K.moved (u := U) (U := U.calling g mk a) (Vm.Alike.refl U.vm) qK, qD, sF.moved (u := U) (U := U.calling g mk a) (Vm.Alike.refl U.vm) qZ, nF.same rfl qN⟩, va_recv hK hP (ci := 5) (q0 := b33) rfl (wld_o ct ad G s13.2.2 hc33 hk33 (by decide)), fun U hU hW => ⟨rfl, by rw [hU], by rw [hU]; exact hP, va_K.moved hW.alike hK, hD.weaken (fun _ _ _ _ => trivial), by rw [hU]; exact ((hZ.kept hS.2.1).narrow hf9).moved hW.alike, hN.warm hW⟩⟩ rfl rfl hl.1 rfl (lv_room (Nat.le_of_ble_eq_true rfl)) dX1_readWeights_50 ⟨(Nat.zero_le _), (Nat.zero_le _)⟩) hS (fun q _ h => hf9 q h) hf9 (fun r u t H locs ht hvm hw hB hz1 hk1 hS => ?_)
          obtain ⟨hP, hK9, hD9⟩ := hB
          rw [ht] at hP
          try dsimp only at hw
          subst hw
          have hD := hD9.weaken (fun _ q _ h => hf9 q.1 h)
          refine lv_iconst (v := (1 : Int32)) hx hb dX1_readWeights_53 (by decide) ?_
          obtain ⟨y35, hy35, hF⟩ := bnd_some hF
          have J35 : ∀ (H : Heap) (locs : List Loc) (ls : Array Slot), va_P D classes (wld ct ad G y34.1) H → va_D A (wld ct ad G y34.1) → va_S A s.heap H locs → lv_has ls 7 [(5, .int s13.2.1), (4, .int s13.1), (3, .int s7.1), (2, .int x5), (0, .ref (ad a)), (1, .int p0)] → W p l e (headSpec wsX1_readWeights ({ frames := 3, cells := 0, slots := 0, locals := 81 })).room s m ([.ref (ad a), .int p0] : List Value).toArray below meth c H locs 0 0 (MQ below (va_Qv (fun (_ : Unit) => True) (fun _ t => kE D ct ad G A y t) A) ([.ref (ad a), .int p0] : List Value).toArray s 0 0 A) (F0 m 67 ls [.int y35]) := by
            intro H locs ls hP hD hS hl
            obtain rfl := Option.some.inj hF
            exact J18 _ _ _ hP hD hS (lv_sub hl [0, 1, 2, 3, 4, 5] rfl)
          clear hF
          have hF := hy35
          clear hy35
          refine lv_icmp_ne (tgt := 61) hx hb dX1_readWeights_54 (by decide) (fun c36 => ?_) (fun c36 => ?_)
          · rw [if_neg c36] at hF
            refine lv_iconst (v := (0 : Int32)) hx hb dX1_readWeights_61 (by decide) ?_
            refine lv_goto (tgt := 67) hx hb dX1_readWeights_62 (by decide) ?_
            obtain rfl := Option.some.inj hF
            exact J35 _ _ _ hP hD hS (lv_sub hl [0, 1, 2, 3, 4, 5] rfl)
          · rw [if_pos c36] at hF
            refine lv_iconst (v := (1 : Int32)) hx hb dX1_readWeights_57 (by decide) ?_
            refine lv_goto (tgt := 67) hx hb dX1_readWeights_58 (by decide) ?_
            obtain rfl := Option.some.inj hF
            exact J35 _ _ _ hP hD hS (lv_sub hl [0, 1, 2, 3, 4, 5] rfl)
theorem ggX1_rebuild_X9_sides : GoodIn wsX1_rebuild wsX9_sides := goodIn_r _ [29, 30, 31, 32, 28, 33, 34, 35, 36, 37, 38, 39, 40, 41, 42, 271, 272, 273, 274, 275, 276, 277, 278, 279, 280, 281, 282, 283, 284, 285, 286, 287, 288, 289, 290, 305, 306, 307, 308, 309, 310, 311, 312, 313, 314, 315, 316, 317, 318, 319, 320, 321, 322] (by decide +kernel) (by decide +kernel)
set_option maxRecDepth 20000 in
theorem gX1_rebuild_X9_sides : GoodIn wsX1_rebuild (wsV RX1 416 RX9 yX9_sides wsX9_sides) := goodIn_app (goodIn_of _ (by decide +kernel)) ggX1_rebuild_X9_sides
set_option maxRecDepth 20000 in
theorem ggX1_rebuild_X6_colourStep : GoodIn wsX1_rebuild wsX6_colourStep := goodIn_r _ [237, 238, 239, 139, 240] (by decide +kernel) (by decide +kernel)
set_option maxRecDepth 20000 in
theorem gX1_rebuild_X6_colourStep : GoodIn wsX1_rebuild (va_wsS RX1 525 yX6_colourStep wsX6_colourStep) := goodIn_app (goodIn_of _ (by decide +kernel)) ggX1_rebuild_X6_colourStep
set_option maxRecDepth 20000 in
theorem ggX1_rebuild_X6_fillColours : GoodIn wsX1_rebuild wsX6_fillColours := goodIn_r _ [244, 173, 170, 14, 15, 16, 17, 174, 175, 12, 13, 21, 176, 177, 28, 178, 245, 246, 247, 9, 248, 183, 184, 185, 186, 172, 171, 187, 188, 189, 190, 191, 192, 193, 22, 23, 24, 194, 195, 196, 197, 11, 198, 199, 200, 201, 271, 272, 273, 274, 275, 276, 277, 278, 279, 280, 281, 282, 283, 284, 285, 286, 287, 288, 289, 290, 291, 292, 293, 294, 295, 296, 297, 298, 299, 300, 301, 302, 303, 304, 305, 306, 307, 308, 309, 310, 311, 312, 313, 314, 315, 316, 317, 318, 319, 320, 321, 322] (by decide +kernel) (by decide +kernel)
set_option maxRecDepth 20000 in
theorem gX1_rebuild_X6_fillColours : GoodIn wsX1_rebuild (wsV RX1 528 RX6 yX6_fillColours wsX6_fillColours) := goodIn_app (goodIn_of _ (by decide +kernel)) ggX1_rebuild_X6_fillColours
theorem ggX1_rebuild_X6_fillLuma : GoodIn wsX1_rebuild wsX6_fillLuma := goodIn_r _ [234, 173, 12, 13, 21, 72, 73, 28, 74, 75, 76, 77, 176, 177, 178, 183, 184, 185, 9, 186, 174, 172, 171, 175, 187, 188, 189, 190, 191, 192, 193, 18, 19, 20, 194, 195, 196, 197, 11, 198, 199, 200, 201, 271, 272, 273, 274, 275, 276, 277, 278, 279, 280, 281, 282, 283, 284, 285, 286, 287, 288, 289, 290, 305, 306, 307, 308, 309, 310, 311, 312, 313, 314, 315, 316, 317, 318, 319, 320, 321, 322, 291, 292, 293, 294, 295, 296, 297, 298, 299, 300, 301, 302, 303, 304] (by decide +kernel) (by decide +kernel)
set_option maxRecDepth 20000 in
theorem gX1_rebuild_X6_fillLuma : GoodIn wsX1_rebuild (wsV RX1 522 RX6 yX6_fillLuma wsX6_fillLuma) := goodIn_app (goodIn_of _ (by decide +kernel)) ggX1_rebuild_X6_fillLuma
set_option maxRecDepth 20000 in
theorem ggX1_rebuild_X9_sidesOf : GoodIn wsX1_rebuild wsX9_sidesOf := goodIn_r _ [204, 205, 73, 28, 74, 206, 76, 77] (by decide +kernel) (by decide +kernel)
set_option maxRecDepth 20000 in
theorem gX1_rebuild_X9_sidesOf : GoodIn wsX1_rebuild (va_wsS RX1 434 yX9_sidesOf wsX9_sidesOf) := goodIn_app (goodIn_of _ (by decide +kernel)) ggX1_rebuild_X9_sidesOf
set_option maxRecDepth 20000 in
theorem ggX1_rebuild_X6_predictFour : GoodIn wsX1_rebuild wsX6_predictFour := goodIn_r _ [210, 12, 145, 11, 72, 73, 28, 74, 75, 76, 77, 18, 19, 9, 20, 21, 211, 212, 213, 214, 13, 215, 216, 217, 218, 219, 220, 221, 222, 223, 224, 225, 226, 227, 228, 229, 230, 271, 272, 273, 274, 275, 276, 277, 278, 279, 280, 281, 282, 283, 284, 285, 286, 287, 288, 289, 290, 291, 292, 293, 294, 295, 296, 297, 298, 299, 300, 301, 302, 303, 304, 305, 306, 307, 308, 309, 310, 311, 312, 313, 314, 315, 316, 317, 318, 319, 320, 321, 322] (by decide +kernel) (by decide +kernel)
set_option maxRecDepth 20000 in
theorem gX1_rebuild_X6_predictFour : GoodIn wsX1_rebuild (wsV RX1 518 RX6 yX6_predictFour wsX6_predictFour) := goodIn_app (goodIn_of _ (by decide +kernel)) ggX1_rebuild_X6_predictFour
set_option maxRecDepth 20000 in
theorem ggX1_rebuild_X6_predictSixteen : GoodIn wsX1_rebuild wsX6_predictSixteen := goodIn_r _ [165, 12, 13, 21, 11, 145, 18, 19, 9, 20, 146, 147, 148, 149, 150, 151, 152, 153, 158, 159, 160, 161, 271, 272, 273, 274, 275, 276, 277, 278, 279, 280, 281, 282, 283, 284, 285, 286, 287, 288, 289, 290, 305, 306, 307, 308, 309, 310, 311, 312, 313, 314, 315, 316, 317, 318, 319, 320, 321, 322, 291, 292, 293, 294, 295, 296, 297, 298, 299, 300, 301, 302, 303, 304] (by decide +kernel) (by decide +kernel)
set_option maxRecDepth 20000 in
theorem gX1_rebuild_X6_predictSixteen : GoodIn wsX1_rebuild (wsV RX1 511 RX6 yX6_predictSixteen wsX6_predictSixteen) := goodIn_app (goodIn_of _ (by decide +kernel)) ggX1_rebuild_X6_predictSixteen
set_option maxRecDepth 20000 in
theorem ggX1_rebuild_X6_fillSixteen : GoodIn wsX1_rebuild wsX6_fillSixteen := goodIn_r _ [169, 170, 171, 172, 173, 174, 175, 12, 13, 21, 176, 177, 28, 178, 179, 180, 181, 9, 182, 72, 73, 74, 75, 76, 77, 183, 184, 185, 186, 187, 188, 189, 190, 191, 192, 193, 18, 19, 20, 194, 195, 196, 197, 11, 198, 199, 200, 201, 291, 292, 293, 294, 295, 296, 297, 298, 299, 300, 301, 302, 303, 304, 271, 272, 273, 274, 275, 276, 277, 278, 279, 280, 281, 282, 283, 284, 285, 286, 287, 288, 289, 290, 305, 306, 307, 308, 309, 310, 311, 312, 313, 314, 315, 316, 317, 318, 319, 320, 321, 322] (by decide +kernel) (by decide +kernel)
set_option maxRecDepth 20000 in
theorem gX1_rebuild_X6_fillSixteen : GoodIn wsX1_rebuild (wsV RX1 514 RX6 yX6_fillSixteen wsX6_fillSixteen) := goodIn_app (goodIn_of _ (by decide +kernel)) ggX1_rebuild_X6_fillSixteen
set_option maxRecDepth 20000 in
theorem ggX1_rebuild_X6_predictColours_ : GoodIn wsX1_rebuild wsX6_predictColours_ := goodIn_r _ [144, 12, 13, 21, 11, 145, 22, 23, 9, 24, 146, 147, 148, 149, 150, 151, 152, 153, 154, 155, 156, 157, 158, 159, 160, 161, 271, 272, 273, 274, 275, 276, 277, 278, 279, 280, 281, 282, 283, 284, 285, 286, 287, 288, 289, 290, 305, 306, 307, 308, 309, 310, 311, 312, 313, 314, 315, 316, 317, 318, 319, 320, 321, 322, 291, 292, 293, 294, 295, 296, 297, 298, 299, 300, 301, 302, 303, 304] (by decide +kernel) (by decide +kernel)
set_option maxRecDepth 20000 in
theorem gX1_rebuild_X6_predictColours_ : GoodIn wsX1_rebuild (wsV RX1 507 RX6 yX6_predictColours_ wsX6_predictColours_) := goodIn_app (goodIn_of _ (by decide +kernel)) ggX1_rebuild_X6_predictColours_
set_option maxRecDepth 20000 in
theorem ggX1_rebuild_X6_predictByLists : GoodIn wsX1_rebuild wsX6_predictByLists := goodIn_r _ [46, 12, 47, 48, 49, 50, 51, 52, 53, 54, 55, 56, 57, 58, 59, 9, 60, 61, 62, 63, 64, 65, 66, 67, 68, 21, 69, 70, 71, 72, 73, 28, 74, 75, 76, 77, 78, 79, 80, 81, 82, 83, 84, 85, 86, 13, 87, 88, 89, 90, 91, 92, 93, 94, 95, 96, 97, 98, 99, 100, 101, 102, 103, 104, 105, 106, 107, 108, 109, 110, 111, 112, 113, 114, 115, 116, 117, 118, 119, 120, 121, 122, 123, 124, 125, 126, 127, 128, 129, 130, 131, 132, 133, 134, 135, 136, 137, 11, 138, 139, 140, 271, 272, 273, 274, 275, 276, 277, 278, 279, 280, 281, 282, 283, 284, 285, 286, 287, 288, 289, 290, 305, 306, 307, 308, 309, 310, 311, 312, 313, 314, 315, 316, 317, 318, 319, 320, 321, 322, 291, 292, 293, 294, 295, 296, 297, 298, 299, 300, 301, 302, 303, 304, 323, 324, 325, 326] (by decide +kernel) (by decide +kernel)
set_option maxRecDepth 20000 in
theorem gX1_rebuild_X6_predictByLists : GoodIn wsX1_rebuild (wsV RX1 504 RX6 yX6_predictByLists wsX6_predictByLists) := goodIn_app (goodIn_of _ (by decide +kernel)) ggX1_rebuild_X6_predictByLists
set_option maxRecDepth 20000 in
theorem ggX1_rebuild_X6_fillRaw : GoodIn wsX1_rebuild wsX6_fillRaw := goodIn_r _ [10, 11, 12, 13, 14, 15, 16, 17, 18, 19, 9, 20, 21, 22, 23, 24, 291, 292, 293, 294, 295, 296, 297, 298, 299, 300, 301, 302, 303, 304, 271, 272, 273, 274, 275, 276, 277, 278, 279, 280, 281, 282, 283, 284, 285, 286, 287, 288, 289, 290, 305, 306, 307, 308, 309, 310, 311, 312, 313, 314, 315, 316, 317, 318, 319, 320, 321, 322] (by decide +kernel) (by decide +kernel)
set_option maxRecDepth 20000 in
theorem gX1_rebuild_X6_fillRaw : GoodIn wsX1_rebuild (wsV RX1 501 RX6 yX6_fillRaw wsX6_fillRaw) := goodIn_app (goodIn_of _ (by decide +kernel)) ggX1_rebuild_X6_fillRaw
set_option maxRecDepth 20000 in
theorem dX1_rebuild_0 : decode cX1_rebuild 0 = .ok (.bipush 8, 2) := by decide +kernel
theorem dX1_rebuild_2 : decode cX1_rebuild 2 = .ok (.iload_n 1, 1) := by decide +kernel
theorem dX1_rebuild_3 : decode cX1_rebuild 3 = .ok (.imul, 1) := by decide +kernel
theorem dX1_rebuild_4 : decode cX1_rebuild 4 = .ok (.istore_n 2, 1) := by decide +kernel
theorem dX1_rebuild_5 : decode cX1_rebuild 5 = .ok (.aload_n 0, 1) := by decide +kernel
theorem dX1_rebuild_6 : decode cX1_rebuild 6 = .ok (.getfield 28, 3) := by decide +kernel
theorem dX1_rebuild_9 : decode cX1_rebuild 9 = .ok (.getfield 355, 3) := by decide +kernel
theorem dX1_rebuild_12 : decode cX1_rebuild 12 = .ok (.iload_n 2, 1) := by decide +kernel
theorem dX1_rebuild_13 : decode cX1_rebuild 13 = .ok (.iconst 0, 1) := by decide +kernel
theorem dX1_rebuild_14 : decode cX1_rebuild 14 = .ok (.iadd, 1) := by decide +kernel
theorem dX1_rebuild_15 : decode cX1_rebuild 15 = .ok (.iaload, 1) := by decide +kernel
theorem dX1_rebuild_16 : decode cX1_rebuild 16 = .ok (.istore_n 3, 1) := by decide +kernel
theorem dX1_rebuild_17 : decode cX1_rebuild 17 = .ok (.aload_n 0, 1) := by decide +kernel
theorem dX1_rebuild_18 : decode cX1_rebuild 18 = .ok (.getfield 28, 3) := by decide +kernel
theorem dX1_rebuild_21 : decode cX1_rebuild 21 = .ok (.getfield 355, 3) := by decide +kernel
theorem dX1_rebuild_24 : decode cX1_rebuild 24 = .ok (.iload_n 2, 1) := by decide +kernel
theorem dX1_rebuild_25 : decode cX1_rebuild 25 = .ok (.iconst 2, 1) := by decide +kernel
theorem dX1_rebuild_26 : decode cX1_rebuild 26 = .ok (.iadd, 1) := by decide +kernel
theorem dX1_rebuild_27 : decode cX1_rebuild 27 = .ok (.iaload, 1) := by decide +kernel
theorem dX1_rebuild_28 : decode cX1_rebuild 28 = .ok (.istore 4, 2) := by decide +kernel
theorem dX1_rebuild_30 : decode cX1_rebuild 30 = .ok (.iload_n 3, 1) := by decide +kernel
theorem dX1_rebuild_31 : decode cX1_rebuild 31 = .ok (.iconst 2, 1) := by decide +kernel
theorem dX1_rebuild_32 : decode cX1_rebuild 32 = .ok (.if_icmp .ne 16, 3) := by decide +kernel
theorem dX1_rebuild_35 : decode cX1_rebuild 35 = .ok (.aload_n 0, 1) := by decide +kernel
theorem dX1_rebuild_36 : decode cX1_rebuild 36 = .ok (.getfield 35, 3) := by decide +kernel
theorem dX1_rebuild_39 : decode cX1_rebuild 39 = .ok (.aload_n 0, 1) := by decide +kernel
theorem dX1_rebuild_40 : decode cX1_rebuild 40 = .ok (.getfield 28, 3) := by decide +kernel
theorem dX1_rebuild_43 : decode cX1_rebuild 43 = .ok (.iload_n 1, 1) := by decide +kernel
theorem dX1_rebuild_44 : decode cX1_rebuild 44 = .ok (.invokevirtual 501, 3) := by decide +kernel
theorem dX1_rebuild_47 : decode cX1_rebuild 47 = .ok (.return_, 1) := by decide +kernel
theorem dX1_rebuild_48 : decode cX1_rebuild 48 = .ok (.aload_n 0, 1) := by decide +kernel
theorem dX1_rebuild_49 : decode cX1_rebuild 49 = .ok (.getfield 28, 3) := by decide +kernel
theorem dX1_rebuild_52 : decode cX1_rebuild 52 = .ok (.iload_n 1, 1) := by decide +kernel
theorem dX1_rebuild_53 : decode cX1_rebuild 53 = .ok (.invokevirtual 416, 3) := by decide +kernel
theorem dX1_rebuild_56 : decode cX1_rebuild 56 = .ok (.istore 5, 2) := by decide +kernel
theorem dX1_rebuild_58 : decode cX1_rebuild 58 = .ok (.iload_n 3, 1) := by decide +kernel
theorem dX1_rebuild_59 : decode cX1_rebuild 59 = .ok (.iconst 3, 1) := by decide +kernel
theorem dX1_rebuild_60 : decode cX1_rebuild 60 = .ok (.if_icmp .ne 18, 3) := by decide +kernel
theorem dX1_rebuild_63 : decode cX1_rebuild 63 = .ok (.aload_n 0, 1) := by decide +kernel
theorem dX1_rebuild_64 : decode cX1_rebuild 64 = .ok (.getfield 35, 3) := by decide +kernel
theorem dX1_rebuild_67 : decode cX1_rebuild 67 = .ok (.aload_n 0, 1) := by decide +kernel
theorem dX1_rebuild_68 : decode cX1_rebuild 68 = .ok (.getfield 28, 3) := by decide +kernel
theorem dX1_rebuild_71 : decode cX1_rebuild 71 = .ok (.iload_n 1, 1) := by decide +kernel
theorem dX1_rebuild_72 : decode cX1_rebuild 72 = .ok (.invokevirtual 504, 3) := by decide +kernel
theorem dX1_rebuild_75 : decode cX1_rebuild 75 = .ok (.goto 28, 3) := by decide +kernel
theorem dX1_rebuild_78 : decode cX1_rebuild 78 = .ok (.aload_n 0, 1) := by decide +kernel
theorem dX1_rebuild_79 : decode cX1_rebuild 79 = .ok (.getfield 35, 3) := by decide +kernel
theorem dX1_rebuild_82 : decode cX1_rebuild 82 = .ok (.aload_n 0, 1) := by decide +kernel
theorem dX1_rebuild_83 : decode cX1_rebuild 83 = .ok (.getfield 28, 3) := by decide +kernel
theorem dX1_rebuild_86 : decode cX1_rebuild 86 = .ok (.iload_n 1, 1) := by decide +kernel
theorem dX1_rebuild_87 : decode cX1_rebuild 87 = .ok (.aload_n 0, 1) := by decide +kernel
theorem dX1_rebuild_88 : decode cX1_rebuild 88 = .ok (.getfield 28, 3) := by decide +kernel
theorem dX1_rebuild_91 : decode cX1_rebuild 91 = .ok (.getfield 355, 3) := by decide +kernel
theorem dX1_rebuild_94 : decode cX1_rebuild 94 = .ok (.iload_n 2, 1) := by decide +kernel
theorem dX1_rebuild_95 : decode cX1_rebuild 95 = .ok (.iconst 5, 1) := by decide +kernel
theorem dX1_rebuild_96 : decode cX1_rebuild 96 = .ok (.iadd, 1) := by decide +kernel
theorem dX1_rebuild_97 : decode cX1_rebuild 97 = .ok (.iaload, 1) := by decide +kernel
theorem dX1_rebuild_98 : decode cX1_rebuild 98 = .ok (.iload 5, 2) := by decide +kernel
theorem dX1_rebuild_100 : decode cX1_rebuild 100 = .ok (.invokevirtual 507, 3) := by decide +kernel
theorem dX1_rebuild_103 : decode cX1_rebuild 103 = .ok (.iload_n 3, 1) := by decide +kernel
theorem dX1_rebuild_104 : decode cX1_rebuild 104 = .ok (.iconst 1, 1) := by decide +kernel
theorem dX1_rebuild_105 : decode cX1_rebuild 105 = .ok (.if_icmp .ne 43, 3) := by decide +kernel
theorem dX1_rebuild_108 : decode cX1_rebuild 108 = .ok (.aload_n 0, 1) := by decide +kernel
theorem dX1_rebuild_109 : decode cX1_rebuild 109 = .ok (.getfield 35, 3) := by decide +kernel
theorem dX1_rebuild_112 : decode cX1_rebuild 112 = .ok (.aload_n 0, 1) := by decide +kernel
theorem dX1_rebuild_113 : decode cX1_rebuild 113 = .ok (.getfield 28, 3) := by decide +kernel
theorem dX1_rebuild_116 : decode cX1_rebuild 116 = .ok (.iload_n 1, 1) := by decide +kernel
theorem dX1_rebuild_117 : decode cX1_rebuild 117 = .ok (.aload_n 0, 1) := by decide +kernel
theorem dX1_rebuild_118 : decode cX1_rebuild 118 = .ok (.getfield 28, 3) := by decide +kernel
theorem dX1_rebuild_121 : decode cX1_rebuild 121 = .ok (.getfield 422, 3) := by decide +kernel
theorem dX1_rebuild_124 : decode cX1_rebuild 124 = .ok (.bipush 16, 2) := by decide +kernel
theorem dX1_rebuild_126 : decode cX1_rebuild 126 = .ok (.iload_n 1, 1) := by decide +kernel
theorem dX1_rebuild_127 : decode cX1_rebuild 127 = .ok (.imul, 1) := by decide +kernel
theorem dX1_rebuild_128 : decode cX1_rebuild 128 = .ok (.iaload, 1) := by decide +kernel
theorem dX1_rebuild_129 : decode cX1_rebuild 129 = .ok (.iload 5, 2) := by decide +kernel
theorem dX1_rebuild_131 : decode cX1_rebuild 131 = .ok (.invokevirtual 511, 3) := by decide +kernel
theorem dX1_rebuild_134 : decode cX1_rebuild 134 = .ok (.aload_n 0, 1) := by decide +kernel
theorem dX1_rebuild_135 : decode cX1_rebuild 135 = .ok (.getfield 35, 3) := by decide +kernel
theorem dX1_rebuild_138 : decode cX1_rebuild 138 = .ok (.aload_n 0, 1) := by decide +kernel
theorem dX1_rebuild_139 : decode cX1_rebuild 139 = .ok (.getfield 28, 3) := by decide +kernel
theorem dX1_rebuild_142 : decode cX1_rebuild 142 = .ok (.iload_n 1, 1) := by decide +kernel
theorem dX1_rebuild_143 : decode cX1_rebuild 143 = .ok (.iload 4, 2) := by decide +kernel
theorem dX1_rebuild_145 : decode cX1_rebuild 145 = .ok (.invokevirtual 514, 3) := by decide +kernel
theorem dX1_rebuild_148 : decode cX1_rebuild 148 = .ok (.iconst 0, 1) := by decide +kernel
theorem dX1_rebuild_149 : decode cX1_rebuild 149 = .ok (.istore 6, 2) := by decide +kernel
theorem dX1_rebuild_151 : decode cX1_rebuild 151 = .ok (.iload 6, 2) := by decide +kernel
theorem dX1_rebuild_153 : decode cX1_rebuild 153 = .ok (.bipush 16, 2) := by decide +kernel
theorem dX1_rebuild_155 : decode cX1_rebuild 155 = .ok (.if_icmp .ge 70, 3) := by decide +kernel
theorem dX1_rebuild_158 : decode cX1_rebuild 158 = .ok (.iload_n 3, 1) := by decide +kernel
theorem dX1_rebuild_159 : decode cX1_rebuild 159 = .ok (.iconst 1, 1) := by decide +kernel
theorem dX1_rebuild_160 : decode cX1_rebuild 160 = .ok (.if_icmp .eq 65, 3) := by decide +kernel
theorem dX1_rebuild_163 : decode cX1_rebuild 163 = .ok (.iload_n 3, 1) := by decide +kernel
theorem dX1_rebuild_164 : decode cX1_rebuild 164 = .ok (.ifCond .ne 39, 3) := by decide +kernel
theorem dX1_rebuild_167 : decode cX1_rebuild 167 = .ok (.aload_n 0, 1) := by decide +kernel
theorem dX1_rebuild_168 : decode cX1_rebuild 168 = .ok (.getfield 35, 3) := by decide +kernel
theorem dX1_rebuild_171 : decode cX1_rebuild 171 = .ok (.aload_n 0, 1) := by decide +kernel
theorem dX1_rebuild_172 : decode cX1_rebuild 172 = .ok (.getfield 28, 3) := by decide +kernel
theorem dX1_rebuild_175 : decode cX1_rebuild 175 = .ok (.iload_n 1, 1) := by decide +kernel
theorem dX1_rebuild_176 : decode cX1_rebuild 176 = .ok (.iload 6, 2) := by decide +kernel
theorem dX1_rebuild_178 : decode cX1_rebuild 178 = .ok (.aload_n 0, 1) := by decide +kernel
theorem dX1_rebuild_179 : decode cX1_rebuild 179 = .ok (.getfield 28, 3) := by decide +kernel
theorem dX1_rebuild_182 : decode cX1_rebuild 182 = .ok (.getfield 422, 3) := by decide +kernel
theorem dX1_rebuild_185 : decode cX1_rebuild 185 = .ok (.bipush 16, 2) := by decide +kernel
theorem dX1_rebuild_187 : decode cX1_rebuild 187 = .ok (.iload_n 1, 1) := by decide +kernel
theorem dX1_rebuild_188 : decode cX1_rebuild 188 = .ok (.imul, 1) := by decide +kernel
theorem dX1_rebuild_189 : decode cX1_rebuild 189 = .ok (.iload 6, 2) := by decide +kernel
theorem dX1_rebuild_191 : decode cX1_rebuild 191 = .ok (.iadd, 1) := by decide +kernel
theorem dX1_rebuild_192 : decode cX1_rebuild 192 = .ok (.iaload, 1) := by decide +kernel
theorem dX1_rebuild_193 : decode cX1_rebuild 193 = .ok (.iload 6, 2) := by decide +kernel
theorem dX1_rebuild_195 : decode cX1_rebuild 195 = .ok (.iload 5, 2) := by decide +kernel
theorem dX1_rebuild_197 : decode cX1_rebuild 197 = .ok (.invokestatic 434, 3) := by decide +kernel
theorem dX1_rebuild_200 : decode cX1_rebuild 200 = .ok (.invokevirtual 518, 3) := by decide +kernel
theorem dX1_rebuild_203 : decode cX1_rebuild 203 = .ok (.aload_n 0, 1) := by decide +kernel
theorem dX1_rebuild_204 : decode cX1_rebuild 204 = .ok (.getfield 35, 3) := by decide +kernel
theorem dX1_rebuild_207 : decode cX1_rebuild 207 = .ok (.aload_n 0, 1) := by decide +kernel
theorem dX1_rebuild_208 : decode cX1_rebuild 208 = .ok (.getfield 28, 3) := by decide +kernel
theorem dX1_rebuild_211 : decode cX1_rebuild 211 = .ok (.iload_n 1, 1) := by decide +kernel
theorem dX1_rebuild_212 : decode cX1_rebuild 212 = .ok (.iload 6, 2) := by decide +kernel
theorem dX1_rebuild_214 : decode cX1_rebuild 214 = .ok (.iload 4, 2) := by decide +kernel
theorem dX1_rebuild_216 : decode cX1_rebuild 216 = .ok (.invokevirtual 522, 3) := by decide +kernel
theorem dX1_rebuild_219 : decode cX1_rebuild 219 = .ok (.iinc 6 1, 3) := by decide +kernel
theorem dX1_rebuild_222 : decode cX1_rebuild 222 = .ok (.goto (-71), 3) := by decide +kernel
theorem dX1_rebuild_225 : decode cX1_rebuild 225 = .ok (.aload_n 0, 1) := by decide +kernel
theorem dX1_rebuild_226 : decode cX1_rebuild 226 = .ok (.getfield 35, 3) := by decide +kernel
theorem dX1_rebuild_229 : decode cX1_rebuild 229 = .ok (.aload_n 0, 1) := by decide +kernel
theorem dX1_rebuild_230 : decode cX1_rebuild 230 = .ok (.getfield 28, 3) := by decide +kernel
theorem dX1_rebuild_233 : decode cX1_rebuild 233 = .ok (.iload_n 1, 1) := by decide +kernel
theorem dX1_rebuild_234 : decode cX1_rebuild 234 = .ok (.iload 4, 2) := by decide +kernel
theorem dX1_rebuild_236 : decode cX1_rebuild 236 = .ok (.aload_n 0, 1) := by decide +kernel
theorem dX1_rebuild_237 : decode cX1_rebuild 237 = .ok (.getfield 28, 3) := by decide +kernel
theorem dX1_rebuild_240 : decode cX1_rebuild 240 = .ok (.getfield 308, 3) := by decide +kernel
theorem dX1_rebuild_243 : decode cX1_rebuild 243 = .ok (.bipush 8, 2) := by decide +kernel
theorem dX1_rebuild_245 : decode cX1_rebuild 245 = .ok (.iaload, 1) := by decide +kernel
theorem dX1_rebuild_246 : decode cX1_rebuild 246 = .ok (.invokestatic 525, 3) := by decide +kernel
theorem dX1_rebuild_249 : decode cX1_rebuild 249 = .ok (.invokevirtual 528, 3) := by decide +kernel
theorem dX1_rebuild_252 : decode cX1_rebuild 252 = .ok (.return_, 1) := by decide +kernel
def FX1_rebuild (G : GG) (M : DD) (a : Nat) (p0 : Int32) : Option (DD) :=
  ltt ((((8 : Int32)) * p0)) fun x1 =>
  dr G 9 ((M.2 a 2)) fun b2 =>
  ltt ((x1 + ((0 : Int32)))) fun x3 =>
  dr G 13 ((M.2 b2 6)) fun b4 =>
  chk (¬ (x3 < 0 ∨ G.2.2 b4 ≤ x3.toNatClampNeg)) <|
  ltt (M.1 b4 x3.toNatClampNeg) fun x5 =>
  ltt ((x1 + ((2 : Int32)))) fun x6 =>
  chk (¬ (x6 < 0 ∨ G.2.2 b4 ≤ x6.toNatClampNeg)) <|
  ltt (M.1 b4 x6.toNatClampNeg) fun x7 =>
  if x5 = ((2 : Int32)) then (dr G 6 ((M.2 a 3)) fun b55 =>
  bnd (FX6_fillRaw G M b55 ((M.2 a 2)) p0) fun y56 =>
  some y56) else
  (bnd (FX9_sides G M b2 p0) fun y9 =>
  bnd (if x5 = ((3 : Int32)) then (dr G 6 ((y9.1.2 a 3)) fun b53 =>
  bnd (FX6_predictByLists G y9.1 b53 ((y9.1.2 a 2)) p0) fun y54 =>
  some (y54)) else
  (dr G 9 ((y9.1.2 a 2)) fun b47 =>
  ltt ((x1 + ((5 : Int32)))) fun x48 =>
  dr G 13 ((y9.1.2 b47 6)) fun b49 =>
  chk (¬ (x48 < 0 ∨ G.2.2 b49 ≤ x48.toNatClampNeg)) <|
  ltt (y9.1.1 b49 x48.toNatClampNeg) fun x50 =>
  dr G 6 ((y9.1.2 a 3)) fun b51 =>
  bnd (FX6_predictColours_ G y9.1 b51 (some b47) p0 x50 y9.2) fun y52 =>
  some (y52))) fun (y10 : DD) =>
  bnd (if x5 = ((1 : Int32)) then (dr G 9 ((y10.2 a 2)) fun b38 =>
  ltt ((((16 : Int32)) * p0)) fun x39 =>
  dr G 13 ((y10.2 b38 7)) fun b40 =>
  chk (¬ (x39 < 0 ∨ G.2.2 b40 ≤ x39.toNatClampNeg)) <|
  ltt (y10.1 b40 x39.toNatClampNeg) fun x41 =>
  dr G 6 ((y10.2 a 3)) fun b42 =>
  bnd (FX6_predictSixteen G y10 b42 (some b38) p0 x41 y9.2) fun y43 =>
  dr G 6 ((y43.2 a 3)) fun b44 =>
  bnd (FX6_fillSixteen G y43 b44 ((y43.2 a 2)) p0 x7) fun y45 =>
  some (y45)) else
  (some (y10))) fun (y11 : DD) =>
  bnd (itr (fun (s13 : Int32 × DD) => ((if ((16 : Int32)) ≤ s13.1 then (some (.inr (s13.1, s13.2))) else
  (if x5 = ((1 : Int32)) then (some (.inr (s13.1, s13.2))) else
  (bnd (if x5 = ((0 : Int32)) then (dr G 9 ((s13.2.2 a 2)) fun b29 =>
  ltt ((((16 : Int32)) * p0)) fun x30 =>
  ltt ((x30 + s13.1)) fun x31 =>
  dr G 13 ((s13.2.2 b29 7)) fun b32 =>
  chk (¬ (x31 < 0 ∨ G.2.2 b32 ≤ x31.toNatClampNeg)) <|
  ltt (s13.2.1 b32 x31.toNatClampNeg) fun x33 =>
  bnd (FX9_sidesOf G s13.2 s13.1 y9.2) fun y34 =>
  dr G 6 ((s13.2.2 a 3)) fun b35 =>
  bnd (FX6_predictFour G y34.1 b35 (some b29) p0 s13.1 x33 y34.2) fun y36 =>
  some (y36)) else
  (some (s13.2))) fun (y24 : DD) =>
  dr G 6 ((y24.2 a 3)) fun b25 =>
  bnd (FX6_fillLuma G y24 b25 ((y24.2 a 2)) p0 s13.1 x7) fun y26 =>
  ltt (s13.1 + (1 : Int32)) fun x27 =>
  some (.inl (x27, y26))))) : Option ((Int32 × DD) ⊕ (Int32 × DD)))) 1000000 ((0 : Int32), y11)) fun (y12 : Int32 × DD) =>
  dr G 9 ((y12.2.2 a 2)) fun b15 =>
  dr G 13 ((y12.2.2 b15 2)) fun b16 =>
  chk (¬ (((8 : Int32)) < 0 ∨ G.2.2 b16 ≤ ((8 : Int32)).toNatClampNeg)) <|
  ltt (y12.2.1 b16 ((8 : Int32)).toNatClampNeg) fun x17 =>
  bnd (FX6_colourStep G y12.2 x7 x17) fun y18 =>
  dr G 6 ((y12.2.2 a 3)) fun b19 =>
  bnd (FX6_fillColours G y18.1 b19 (some b15) p0 y18.2) fun y20 =>
  some y20)
set_option maxHeartbeats 4000000 in
set_option maxRecDepth 100000 in
theorem kX1_rebuild (l : Launch) (D : va_G) (ct : CT) (ad : Nat → Nat) (Z : Nat → Nat) (G : GG) (M : DD) (sz : Nat) (a : Nat) (p0 : Int32) (y : DD) (hc : a < G.1) (hk : G.2.1 a = 1) (hF : FX1_rebuild G M a p0 = some y) : Met l yX1_rebuild wsX1_rebuild ({ frames := 5, cells := 0, slots := 0, locals := 140 }) (va_Pc [.ref (ad a), .int p0] (kB D ct ad Z G M sz)) (va_Qv (fun (_ : Unit) => True) (fun _ t => kE D ct ad G (wA ad G sz) y t) (wA ad G sz)) 0 0 (wA ad G sz) := by
  refine Met.ofW (cc := cX1_rebuild) (maxL := 7) (ret := none) (by decide) rfl ?_
  intro p e s m args below meth c s₁ B hml hv
  obtain ⟨rfl, hsz, hP, hK, hD0, hZ, hN⟩ := hv
  have hx := B.exec
  have hb := B.bytes
  have hr := B.returns
  have hts := atoms_spec (ws := wsX1_rebuild) B.pre
  have hown : s.vm.findClass RX1 = some m.cls := findClass_of_methodNamed B.named
  have hlocks := B.notSynchronized
  subst hsz
  have hD := wD_self (sz := s.heap.size) hD0
  have hA9 : ∀ q, s.heap.size ≤ q → wA ad G s.heap.size q := fun q h => Or.inr h
  generalize hAe : wA ad G s.heap.size = A at hD hA9 hZ ⊢
  have hS : va_S A s.heap s.heap [] := va_S.rf
  have hl := lv_entry ([.ref (ad a), .int p0]) (n := 7) (Nat.le_of_ble_eq_true rfl)
  rw [lg_entry_eq]
  generalize (lg_sl ([.ref (ad a), .int p0]) ++ List.replicate (7 - (lg_sl ([.ref (ad a), .int p0])).length) Slot.unset).toArray = ls at hl ⊢
  have hl : lv_has ls 7 [(0, .ref (ad a)), (1, .int p0)] := hl
  unfold FX1_rebuild at hF
  refine lv_bipush (v := (8 : Int32)) hx hb dX1_rebuild_0 (by decide) ?_
  refine lv_iload_n hx hb dX1_rebuild_2 rfl (lv_at hl 1 rfl) ?_
  refine lv_imul hx hb dX1_rebuild_3 ?_
  obtain ⟨x1, ex1, hF⟩ := ltt_some hF
  refine lv_topi (fun zx1 ezx1 => ?_)
  obtain rfl : x1 = zx1 := ex1.trans ezx1.symm
  refine lv_istore_n (lv' := [(2, .int x1), (0, .ref (ad a)), (1, .int p0)]) hx hb dX1_rebuild_4 rfl hl (by decide) rfl (fun ls hl => ?_)
  refine lv_aload_n hx hb dX1_rebuild_5 rfl (lv_at hl 1 rfl) ?_
  refine va_get (D := D) (ci := 1) (v := va_re ad (M.2 a 2)) (C := RX1) (T := TX1) (N := 22) hx hb hts (by decide +kernel) hown hK hP a (wld_o ct ad G M hc hk (by decide)) rfl 2 (by decide) (hts (.fieldLink RX1 28 "VideoSuite$Decoder" "work" "LVideoSuite$Work;") (by decide +kernel)) (fun _ h9 => h9) rfl dX1_rebuild_6 ?_
  obtain ⟨b2, ho2, hc2, hk2, hF⟩ := dr_some hF
  refine W_st (st' := [.ref (ad b2)]) (by rw [va_some ho2]) ?_
  refine va_get (D := D) (ci := 9) (v := va_re ad (M.2 b2 6)) (C := RX9) (T := TX9) (N := 20) hx hb hts (by decide +kernel) hown hK hP b2 (wld_o ct ad G M hc2 hk2 (by decide)) rfl 6 (by decide) (hts (.fieldLink RX1 355 "VideoSuite$Work" "info" "[I") (by decide +kernel)) (fun _ h9 => h9) rfl dX1_rebuild_9 ?_
  refine lv_iload_n hx hb dX1_rebuild_12 rfl (lv_at hl 0 rfl) ?_
  refine lv_iconst (v := (0 : Int32)) hx hb dX1_rebuild_13 (by decide) ?_
  refine lv_iadd hx hb dX1_rebuild_14 ?_
  obtain ⟨x3, ex3, hF⟩ := ltt_some hF
  refine lv_topi (fun zx3 ezx3 => ?_)
  obtain rfl : x3 = zx3 := ex3.trans ezx3.symm
  obtain ⟨b4, ho4, hc4, hk4, hF⟩ := dr_some hF
  refine W_st (st' := [.int x3, .ref (ad b4)]) (by rw [va_some ho4]) ?_
  obtain ⟨hvc, hF⟩ := chk_some hF
  refine va_iald hx hb hK hP b4 1 (wld_i ct ad G M hc4 hk4) rfl hvc dX1_rebuild_15 ?_
  obtain ⟨x5, ex5, hF⟩ := ltt_some hF
  refine lv_topi (fun zx5 ezx5 => ?_)
  obtain rfl : x5 = zx5 := ex5.trans ezx5.symm
  refine lv_istore_n (lv' := [(3, .int x5), (2, .int x1), (0, .ref (ad a)), (1, .int p0)]) hx hb dX1_rebuild_16 rfl hl (by decide) rfl (fun ls hl => ?_)
  refine lv_aload_n hx hb dX1_rebuild_17 rfl (lv_at hl 2 rfl) ?_
  refine va_get (D := D) (ci := 1) (v := va_re ad (M.2 a 2)) (C := RX1) (T := TX1) (N := 22) hx hb hts (by decide +kernel) hown hK hP a (wld_o ct ad G M hc hk (by decide)) rfl 2 (by decide) (hts (.fieldLink RX1 28 "VideoSuite$Decoder" "work" "LVideoSuite$Work;") (by decide +kernel)) (fun _ h9 => h9) rfl dX1_rebuild_18 ?_
  refine W_st (st' := [.ref (ad b2)]) (by rw [va_some ho2]) ?_
  refine va_get (D := D) (ci := 9) (v := va_re ad (M.2 b2 6)) (C := RX9) (T := TX9) (N := 20) hx hb hts (by decide +kernel) hown hK hP b2 (wld_o ct ad G M hc2 hk2 (by decide)) rfl 6 (by decide) (hts (.fieldLink RX1 355 "VideoSuite$Work" "info" "[I") (by decide +kernel)) (fun _ h9 => h9) rfl dX1_rebuild_21 ?_
  refine lv_iload_n hx hb dX1_rebuild_24 rfl (lv_at hl 1 rfl) ?_
  refine lv_iconst (v := (2 : Int32)) hx hb dX1_rebuild_25 (by decide) ?_
  refine lv_iadd hx hb dX1_rebuild_26 ?_
  obtain ⟨x6, ex6, hF⟩ := ltt_some hF
  refine lv_topi (fun zx6 ezx6 => ?_)
  obtain rfl : x6 = zx6 := ex6.trans ezx6.symm
  refine W_st (st' := [.int x6, .ref (ad b4)]) (by rw [va_some ho4]) ?_
  obtain ⟨hvc, hF⟩ := chk_some hF
  refine va_iald hx hb hK hP b4 1 (wld_i ct ad G M hc4 hk4) rfl hvc dX1_rebuild_27 ?_
  obtain ⟨x7, ex7, hF⟩ := ltt_some hF
  refine lv_topi (fun zx7 ezx7 => ?_)
  obtain rfl : x7 = zx7 := ex7.trans ezx7.symm
  refine lv_istore (lv' := [(4, .int x7), (3, .int x5), (2, .int x1), (0, .ref (ad a)), (1, .int p0)]) hx hb dX1_rebuild_28 hl (by decide) rfl (fun ls hl => ?_)
  refine lv_iload_n hx hb dX1_rebuild_30 rfl (lv_at hl 1 rfl) ?_
  refine lv_iconst (v := (2 : Int32)) hx hb dX1_rebuild_31 (by decide) ?_
  refine lv_icmp_ne (tgt := 48) hx hb dX1_rebuild_32 (by decide) (fun c8 => ?_) (fun c8 => ?_)
  · rw [if_neg c8] at hF
    refine lv_aload_n hx hb dX1_rebuild_48 rfl (lv_at hl 3 rfl) ?_
    refine va_get (D := D) (ci := 1) (v := va_re ad (M.2 a 2)) (C := RX1) (T := TX1) (N := 22) hx hb hts (by decide +kernel) hown hK hP a (wld_o ct ad G M hc hk (by decide)) rfl 2 (by decide) (hts (.fieldLink RX1 28 "VideoSuite$Decoder" "work" "LVideoSuite$Work;") (by decide +kernel)) (fun _ h9 => h9) rfl dX1_rebuild_49 ?_
    refine lv_iload_n hx hb dX1_rebuild_52 rfl (lv_at hl 4 rfl) ?_
    refine W_st (st' := [.int p0, .ref (ad b2)]) (by rw [va_some ho2]) ?_
    obtain ⟨y9, hy9, hF⟩ := bnd_some hF
    have hf9 := wA_in hD hA9 hS
    refine va_calli (va_runV (As := [.int p0]) (rest := []) ⟨hx, hb, hml, hown, hts⟩ (kX9_sides l D ct ad Z G M s.heap.size b2 p0 y9 hc2 hk2 hy9) (cwV 1 hts gX1_rebuild_X9_sides rfl rfl rfl (by decide +kernel) ⟨Nat.le_of_ble_eq_true rfl, Nat.le_of_ble_eq_true rfl⟩) ⟨fun a U g mk q => by obtain ⟨q0, q1, qP, qK, qD, qZ, qN⟩ := q; exact ⟨q0, q1, qP, va_K.moved (u := U) (U := U.calling g mk a) (Vm.Alike.refl U.vm) qK, qD, sF.moved (u := U) (U := U.calling g mk a) (Vm.Alike.refl U.vm) qZ, nF.same rfl qN⟩, va_recv hK hP (ci := 9) (q0 := b2) rfl (wld_o ct ad G M hc2 hk2 (by decide)), fun U hU hW => ⟨rfl, by rw [hU], by rw [hU]; exact hP, va_K.moved hW.alike hK, hD.weaken (fun _ _ _ _ => trivial), by rw [hU]; exact ((hZ.kept hS.2.1).narrow hf9).moved hW.alike, hN.warm hW⟩⟩ rfl rfl hl.1 rfl (lv_room (Nat.le_of_ble_eq_true rfl)) dX1_rebuild_53 ⟨(Nat.zero_le _), (Nat.zero_le _)⟩) hS (fun q _ h => hf9 q h) hf9 (fun r u t H locs ht hvm hw hB hz1 hk1 hS => ?_)
    obtain ⟨hP, hK9, hD9⟩ := hB
    rw [ht] at hP
    try dsimp only at hw
    subst hw
    have hD := hD9.weaken (fun _ q _ h => hf9 q.1 h)
    refine lv_istore (lv' := [(5, .int y9.2), (4, .int x7), (3, .int x5), (2, .int x1), (0, .ref (ad a)), (1, .int p0)]) hx hb dX1_rebuild_56 hl (by decide) rfl (fun ls hl => ?_)
    refine lv_iload_n hx hb dX1_rebuild_58 rfl (lv_at hl 2 rfl) ?_
    refine lv_iconst (v := (3 : Int32)) hx hb dX1_rebuild_59 (by decide) ?_
    obtain ⟨y10, hy10, hF⟩ := bnd_some hF
    have J10 : ∀ (H : Heap) (locs : List Loc) (ls : Array Slot), va_P D classes (wld ct ad G y10) H → va_D A (wld ct ad G y10) → va_S A s.heap H locs → lv_has ls 7 [(5, .int y9.2), (4, .int x7), (3, .int x5), (2, .int x1), (0, .ref (ad a)), (1, .int p0)] → W p l e (headSpec wsX1_rebuild ({ frames := 5, cells := 0, slots := 0, locals := 140 })).room s m ([.ref (ad a), .int p0] : List Value).toArray below meth c H locs 0 0 (MQ below (va_Qv (fun (_ : Unit) => True) (fun _ t => kE D ct ad G A y t) A) ([.ref (ad a), .int p0] : List Value).toArray s 0 0 A) (F0 m 103 ls []) := by
      intro H locs ls hP hD hS hl
      refine lv_iload_n hx hb dX1_rebuild_103 rfl (lv_at hl 2 rfl) ?_
      refine lv_iconst (v := (1 : Int32)) hx hb dX1_rebuild_104 (by decide) ?_
      obtain ⟨y11, hy11, hF⟩ := bnd_some hF
      have J11 : ∀ (H : Heap) (locs : List Loc) (ls : Array Slot), va_P D classes (wld ct ad G y11) H → va_D A (wld ct ad G y11) → va_S A s.heap H locs → lv_has ls 7 [(5, .int y9.2), (4, .int x7), (3, .int x5), (2, .int x1), (0, .ref (ad a)), (1, .int p0)] → W p l e (headSpec wsX1_rebuild ({ frames := 5, cells := 0, slots := 0, locals := 140 })).room s m ([.ref (ad a), .int p0] : List Value).toArray below meth c H locs 0 0 (MQ below (va_Qv (fun (_ : Unit) => True) (fun _ t => kE D ct ad G A y t) A) ([.ref (ad a), .int p0] : List Value).toArray s 0 0 A) (F0 m 148 ls []) := by
        intro H locs ls hP hD hS hl
        refine lv_iconst (v := (0 : Int32)) hx hb dX1_rebuild_148 (by decide) ?_
        refine lv_istore (lv' := [(6, .int (0 : Int32)), (5, .int y9.2), (4, .int x7), (3, .int x5), (2, .int x1), (0, .ref (ad a)), (1, .int p0)]) hx hb dX1_rebuild_149 hl (by decide) rfl (fun ls hl => ?_)
        obtain ⟨y12, hy12, hF⟩ := bnd_some hF
        have K12 : ∀ (H : Heap) (locs : List Loc) (ls : Array Slot), va_P D classes (wld ct ad G y12.2) H → va_D A (wld ct ad G y12.2) → va_S A s.heap H locs → lv_has ls 7 [(6, .int y12.1), (5, .int y9.2), (4, .int x7), (3, .int x5), (2, .int x1), (0, .ref (ad a)), (1, .int p0)] → W p l e (headSpec wsX1_rebuild ({ frames := 5, cells := 0, slots := 0, locals := 140 })).room s m ([.ref (ad a), .int p0] : List Value).toArray below meth c H locs 0 0 (MQ below (va_Qv (fun (_ : Unit) => True) (fun _ t => kE D ct ad G A y t) A) ([.ref (ad a), .int p0] : List Value).toArray s 0 0 A) (F0 m 225 ls []) := by
          intro H locs ls hP hD hS hl
          refine lv_aload_n hx hb dX1_rebuild_225 rfl (lv_at hl 5 rfl) ?_
          refine va_get (D := D) (ci := 1) (v := va_re ad (y12.2.2 a 3)) (C := RX1) (T := TX1) (N := 22) hx hb hts (by decide +kernel) hown hK hP a (wld_o ct ad G y12.2 hc hk (by decide)) rfl 3 (by decide) (hts (.fieldLink RX1 35 "VideoSuite$Decoder" "samples" "LVideoSuite$Samples;") (by decide +kernel)) (fun _ h9 => h9) rfl dX1_rebuild_226 ?_
          refine lv_aload_n hx hb dX1_rebuild_229 rfl (lv_at hl 5 rfl) ?_
          refine va_get (D := D) (ci := 1) (v := va_re ad (y12.2.2 a 2)) (C := RX1) (T := TX1) (N := 22) hx hb hts (by decide +kernel) hown hK hP a (wld_o ct ad G y12.2 hc hk (by decide)) rfl 2 (by decide) (hts (.fieldLink RX1 28 "VideoSuite$Decoder" "work" "LVideoSuite$Work;") (by decide +kernel)) (fun _ h9 => h9) rfl dX1_rebuild_230 ?_
          refine lv_iload_n hx hb dX1_rebuild_233 rfl (lv_at hl 6 rfl) ?_
          refine lv_iload hx hb dX1_rebuild_234 (lv_at hl 2 rfl) ?_
          refine lv_aload_n hx hb dX1_rebuild_236 rfl (lv_at hl 5 rfl) ?_
          refine va_get (D := D) (ci := 1) (v := va_re ad (y12.2.2 a 2)) (C := RX1) (T := TX1) (N := 22) hx hb hts (by decide +kernel) hown hK hP a (wld_o ct ad G y12.2 hc hk (by decide)) rfl 2 (by decide) (hts (.fieldLink RX1 28 "VideoSuite$Decoder" "work" "LVideoSuite$Work;") (by decide +kernel)) (fun _ h9 => h9) rfl dX1_rebuild_237 ?_
          obtain ⟨b15, ho15, hc15, hk15, hF⟩ := dr_some hF
          refine W_st (st' := [.ref (ad b15), .int x7, .int p0, .ref (ad b15), va_re ad (y12.2.2 a 3)]) (by rw [va_some ho15]) ?_
          refine va_get (D := D) (ci := 9) (v := va_re ad (y12.2.2 b15 2)) (C := RX9) (T := TX9) (N := 20) hx hb hts (by decide +kernel) hown hK hP b15 (wld_o ct ad G y12.2 hc15 hk15 (by decide)) rfl 2 (by decide) (hts (.fieldLink RX1 308 "VideoSuite$Work" "par" "[I") (by decide +kernel)) (fun _ h9 => h9) rfl dX1_rebuild_240 ?_
          refine lv_bipush (v := (8 : Int32)) hx hb dX1_rebuild_243 (by decide) ?_
          obtain ⟨b16, ho16, hc16, hk16, hF⟩ := dr_some hF
          refine W_st (st' := [.int (8 : Int32), .ref (ad b16), .int x7, .int p0, .ref (ad b15), va_re ad (y12.2.2 a 3)]) (by rw [va_some ho16]) ?_
          obtain ⟨hvc, hF⟩ := chk_some hF
          refine va_iald hx hb hK hP b16 1 (wld_i ct ad G y12.2 hc16 hk16) rfl hvc dX1_rebuild_245 ?_
          obtain ⟨x17, ex17, hF⟩ := ltt_some hF
          refine lv_topi (fun zx17 ezx17 => ?_)
          obtain rfl : x17 = zx17 := ex17.trans ezx17.symm
          obtain ⟨y18, hy18, hF⟩ := bnd_some hF
          have hf9 := wA_in hD hA9 hS
          refine va_calli (va_runS (As := [.int x7, .int x17]) (rest := [.int p0, .ref (ad b15), va_re ad (y12.2.2 a 3)]) ⟨hx, hb, hml, hown, hts⟩ (kX6_colourStep l D ct ad Z G y12.2 H.size x7 x17 y18 hy18) (va_cwS 2 hts gX1_rebuild_X6_colourStep rfl rfl rfl (by decide +kernel) ⟨Nat.le_of_ble_eq_true rfl, Nat.le_of_ble_eq_true rfl⟩) ⟨fun a U g mk q => by obtain ⟨q0, q1, qP, qK, qD, qZ, qN⟩ := q; exact ⟨q0, q1, qP, va_K.moved (u := U) (U := U.calling g mk a) (Vm.Alike.refl U.vm) qK, qD, sF.moved (u := U) (U := U.calling g mk a) (Vm.Alike.refl U.vm) qZ, nF.same rfl qN⟩, fun U hU hW => ⟨rfl, by rw [hU], by rw [hU]; exact hP, va_K.moved hW.alike hK, hD.weaken (fun _ _ _ _ => trivial), by rw [hU]; exact ((hZ.kept hS.2.1).narrow hf9).moved hW.alike, hN.warm hW⟩⟩ rfl rfl hl.1 rfl (lv_room (by simp only [List.map, va_re_cat]; exact Nat.le_of_ble_eq_true rfl)) dX1_rebuild_246 ⟨(Nat.zero_le _), (Nat.zero_le _)⟩) hS (fun q _ h => hf9 q h) hf9 (fun r u t H locs ht hvm hw hB hz1 hk1 hS => ?_)
          obtain ⟨hP, hK9, hD9⟩ := hB
          rw [ht] at hP
          try dsimp only at hw
          subst hw
          have hD := hD9.weaken (fun _ q _ h => hf9 q.1 h)
          obtain ⟨b19, ho19, hc19, hk19, hF⟩ := dr_some hF
          refine W_st (st' := [.int y18.2, .int p0, .ref (ad b15), .ref (ad b19)]) (by rw [va_some ho19]) ?_
          obtain ⟨y20, hy20, hF⟩ := bnd_some hF
          have hf9 := wA_in hD hA9 hS
          refine va_callv (va_runV (As := [.ref (ad b15), .int p0, .int y18.2]) (rest := []) ⟨hx, hb, hml, hown, hts⟩ (kX6_fillColours l D ct ad Z G y18.1 H.size b19 (some b15) p0 y18.2 y20 hc19 hk19 hy20) (cwV 3 hts gX1_rebuild_X6_fillColours rfl rfl rfl (by decide +kernel) ⟨Nat.le_of_ble_eq_true rfl, Nat.le_of_ble_eq_true rfl⟩) ⟨fun a U g mk q => by obtain ⟨q0, q1, qP, qK, qD, qZ, qN⟩ := q; exact ⟨q0, q1, qP, va_K.moved (u := U) (U := U.calling g mk a) (Vm.Alike.refl U.vm) qK, qD, sF.moved (u := U) (U := U.calling g mk a) (Vm.Alike.refl U.vm) qZ, nF.same rfl qN⟩, va_recv hK hP (ci := 6) (q0 := b19) rfl (wld_o ct ad G y18.1 hc19 hk19 (by decide)), fun U hU hW => ⟨rfl, by rw [hU], by rw [hU]; exact hP, va_K.moved hW.alike hK, hD.weaken (fun _ _ _ _ => trivial), by rw [hU]; exact ((hZ.kept hS.2.1).narrow hf9).moved hW.alike, hN.warm hW⟩⟩ rfl rfl hl.1 rfl (lv_room (Nat.le_of_ble_eq_true rfl)) dX1_rebuild_249 ⟨(Nat.zero_le _), (Nat.zero_le _)⟩) hS (fun q _ h => hf9 q h) hf9 (fun u t H locs ht hvm hw hB hz1 hk1 hS => ?_)
          obtain ⟨hP, hK9, hD9⟩ := hB
          rw [ht] at hP
          have hD := hD9.weaken (fun _ q _ h => hf9 q.1 h)
          obtain rfl := Option.some.inj hF
          exact W.vret hx hb hr (fun t ht hW => ⟨⟨(), rfl, trivial, ⟨by rw [ht]; exact hP, va_K.moved hW.alike hK, hD⟩⟩, hS.F ht⟩) hS.2.2 dX1_rebuild_252
        clear hF
        refine itr_rule (fun (s13 : Int32 × DD) => ∀ (H : Heap) (locs : List Loc) (ls : Array Slot), va_P D classes (wld ct ad G s13.2) H → va_D A (wld ct ad G s13.2) → va_S A s.heap H locs → lv_has ls 7 [(6, .int s13.1), (5, .int y9.2), (4, .int x7), (3, .int x5), (2, .int x1), (0, .ref (ad a)), (1, .int p0)] → W p l e (headSpec wsX1_rebuild ({ frames := 5, cells := 0, slots := 0, locals := 140 })).room s m ([.ref (ad a), .int p0] : List Value).toArray below meth c H locs 0 0 (MQ below (va_Qv (fun (_ : Unit) => True) (fun _ t => kE D ct ad G A y t) A) ([.ref (ad a), .int p0] : List Value).toArray s 0 0 A) (F0 m 151 ls [])) ?_ _ _ hy12 _ _ _ hP hD hS (lv_sub hl [0, 1, 2, 3, 4, 5, 6] rfl)
        rintro s13 ⟨z21, hF, hwz21⟩ H locs ls hP hD hS hl
        try dsimp only at hF
        refine lv_iload hx hb dX1_rebuild_151 (lv_at hl 0 rfl) ?_
        refine lv_bipush (v := (16 : Int32)) hx hb dX1_rebuild_153 (by decide) ?_
        refine lv_icmp_ge (tgt := 225) hx hb dX1_rebuild_155 (by decide) (fun c22 => ?_) (fun c22 => ?_)
        · rw [if_pos c22] at hF
          obtain rfl := Option.some.inj hF
          subst hwz21
          exact K12 _ _ _ hP hD hS (lv_sub hl [0, 1, 2, 3, 4, 5, 6] rfl)
        · rw [if_neg c22] at hF
          refine lv_iload_n hx hb dX1_rebuild_158 rfl (lv_at hl 3 rfl) ?_
          refine lv_iconst (v := (1 : Int32)) hx hb dX1_rebuild_159 (by decide) ?_
          refine lv_icmp_eq (tgt := 225) hx hb dX1_rebuild_160 (by decide) (fun c23 => ?_) (fun c23 => ?_)
          · rw [if_pos c23] at hF
            obtain rfl := Option.some.inj hF
            subst hwz21
            exact K12 _ _ _ hP hD hS (lv_sub hl [0, 1, 2, 3, 4, 5, 6] rfl)
          · rw [if_neg c23] at hF
            refine lv_iload_n hx hb dX1_rebuild_163 rfl (lv_at hl 3 rfl) ?_
            obtain ⟨y24, hy24, hF⟩ := bnd_some hF
            have J24 : ∀ (H : Heap) (locs : List Loc) (ls : Array Slot), va_P D classes (wld ct ad G y24) H → va_D A (wld ct ad G y24) → va_S A s.heap H locs → lv_has ls 7 [(6, .int s13.1), (5, .int y9.2), (4, .int x7), (3, .int x5), (2, .int x1), (0, .ref (ad a)), (1, .int p0)] → W p l e (headSpec wsX1_rebuild ({ frames := 5, cells := 0, slots := 0, locals := 140 })).room s m ([.ref (ad a), .int p0] : List Value).toArray below meth c H locs 0 0 (MQ below (va_Qv (fun (_ : Unit) => True) (fun _ t => kE D ct ad G A y t) A) ([.ref (ad a), .int p0] : List Value).toArray s 0 0 A) (F0 m 203 ls []) := by
              intro H locs ls hP hD hS hl
              refine lv_aload_n hx hb dX1_rebuild_203 rfl (lv_at hl 5 rfl) ?_
              refine va_get (D := D) (ci := 1) (v := va_re ad (y24.2 a 3)) (C := RX1) (T := TX1) (N := 22) hx hb hts (by decide +kernel) hown hK hP a (wld_o ct ad G y24 hc hk (by decide)) rfl 3 (by decide) (hts (.fieldLink RX1 35 "VideoSuite$Decoder" "samples" "LVideoSuite$Samples;") (by decide +kernel)) (fun _ h9 => h9) rfl dX1_rebuild_204 ?_
              refine lv_aload_n hx hb dX1_rebuild_207 rfl (lv_at hl 5 rfl) ?_
              refine va_get (D := D) (ci := 1) (v := va_re ad (y24.2 a 2)) (C := RX1) (T := TX1) (N := 22) hx hb hts (by decide +kernel) hown hK hP a (wld_o ct ad G y24 hc hk (by decide)) rfl 2 (by decide) (hts (.fieldLink RX1 28 "VideoSuite$Decoder" "work" "LVideoSuite$Work;") (by decide +kernel)) (fun _ h9 => h9) rfl dX1_rebuild_208 ?_
              refine lv_iload_n hx hb dX1_rebuild_211 rfl (lv_at hl 6 rfl) ?_
              refine lv_iload hx hb dX1_rebuild_212 (lv_at hl 0 rfl) ?_
              refine lv_iload hx hb dX1_rebuild_214 (lv_at hl 2 rfl) ?_
              obtain ⟨b25, ho25, hc25, hk25, hF⟩ := dr_some hF
              refine W_st (st' := [.int x7, .int s13.1, .int p0, va_re ad (y24.2 a 2), .ref (ad b25)]) (by rw [va_some ho25]) ?_
              obtain ⟨y26, hy26, hF⟩ := bnd_some hF
              have hf9 := wA_in hD hA9 hS
              refine va_callv (va_runV (As := [va_re ad (y24.2 a 2), .int p0, .int s13.1, .int x7]) (rest := []) ⟨hx, hb, hml, hown, hts⟩ (kX6_fillLuma l D ct ad Z G y24 H.size b25 ((y24.2 a 2)) p0 s13.1 x7 y26 hc25 hk25 hy26) (cwV 4 hts gX1_rebuild_X6_fillLuma rfl rfl rfl (by decide +kernel) ⟨Nat.le_of_ble_eq_true rfl, Nat.le_of_ble_eq_true rfl⟩) ⟨fun a U g mk q => by obtain ⟨q0, q1, qP, qK, qD, qZ, qN⟩ := q; exact ⟨q0, q1, qP, va_K.moved (u := U) (U := U.calling g mk a) (Vm.Alike.refl U.vm) qK, qD, sF.moved (u := U) (U := U.calling g mk a) (Vm.Alike.refl U.vm) qZ, nF.same rfl qN⟩, va_recv hK hP (ci := 6) (q0 := b25) rfl (wld_o ct ad G y24 hc25 hk25 (by decide)), fun U hU hW => ⟨rfl, by rw [hU], by rw [hU]; exact hP, va_K.moved hW.alike hK, hD.weaken (fun _ _ _ _ => trivial), by rw [hU]; exact ((hZ.kept hS.2.1).narrow hf9).moved hW.alike, hN.warm hW⟩⟩ rfl rfl hl.1 rfl (lv_room (Nat.le_of_ble_eq_true rfl)) dX1_rebuild_216 ⟨(Nat.zero_le _), (Nat.zero_le _)⟩) hS (fun q _ h => hf9 q h) hf9 (fun u t H locs ht hvm hw hB hz1 hk1 hS => ?_)
              obtain ⟨hP, hK9, hD9⟩ := hB
              rw [ht] at hP
              have hD := hD9.weaken (fun _ q _ h => hf9 q.1 h)
              obtain ⟨x27, ex27, hF⟩ := ltt_some hF
              refine lv_iinc (v := x27) (lv' := [(6, .int x27), (5, .int y9.2), (4, .int x7), (3, .int x5), (2, .int x1), (0, .ref (ad a)), (1, .int p0)]) hx hb dX1_rebuild_219 hl (k := 0) rfl (by rw [ex27]; rfl) (by decide) rfl (fun ls hl => ?_)
              refine lv_goto (tgt := 151) hx hb dX1_rebuild_222 (by decide) ?_
              obtain rfl := Option.some.inj hF
              exact hwz21 _ _ _ hP hD hS (lv_sub hl [0, 1, 2, 3, 4, 5, 6] rfl)
            clear hF
            have hF := hy24
            clear hy24
            refine lv_if_ne (tgt := 203) hx hb dX1_rebuild_164 (by decide) (fun c28 => ?_) (fun c28 => ?_)
            · rw [if_neg c28] at hF
              obtain rfl := Option.some.inj hF
              exact J24 _ _ _ hP hD hS (lv_sub hl [0, 1, 2, 3, 4, 5, 6] rfl)
            · rw [if_pos c28] at hF
              refine lv_aload_n hx hb dX1_rebuild_167 rfl (lv_at hl 5 rfl) ?_
              refine va_get (D := D) (ci := 1) (v := va_re ad (s13.2.2 a 3)) (C := RX1) (T := TX1) (N := 22) hx hb hts (by decide +kernel) hown hK hP a (wld_o ct ad G s13.2 hc hk (by decide)) rfl 3 (by decide) (hts (.fieldLink RX1 35 "VideoSuite$Decoder" "samples" "LVideoSuite$Samples;") (by decide +kernel)) (fun _ h9 => h9) rfl dX1_rebuild_168 ?_
              refine lv_aload_n hx hb dX1_rebuild_171 rfl (lv_at hl 5 rfl) ?_
              refine va_get (D := D) (ci := 1) (v := va_re ad (s13.2.2 a 2)) (C := RX1) (T := TX1) (N := 22) hx hb hts (by decide +kernel) hown hK hP a (wld_o ct ad G s13.2 hc hk (by decide)) rfl 2 (by decide) (hts (.fieldLink RX1 28 "VideoSuite$Decoder" "work" "LVideoSuite$Work;") (by decide +kernel)) (fun _ h9 => h9) rfl dX1_rebuild_172 ?_
              refine lv_iload_n hx hb dX1_rebuild_175 rfl (lv_at hl 6 rfl) ?_
              refine lv_iload hx hb dX1_rebuild_176 (lv_at hl 0 rfl) ?_
              refine lv_aload_n hx hb dX1_rebuild_178 rfl (lv_at hl 5 rfl) ?_
              refine va_get (D := D) (ci := 1) (v := va_re ad (s13.2.2 a 2)) (C := RX1) (T := TX1) (N := 22) hx hb hts (by decide +kernel) hown hK hP a (wld_o ct ad G s13.2 hc hk (by decide)) rfl 2 (by decide) (hts (.fieldLink RX1 28 "VideoSuite$Decoder" "work" "LVideoSuite$Work;") (by decide +kernel)) (fun _ h9 => h9) rfl dX1_rebuild_179 ?_
              obtain ⟨b29, ho29, hc29, hk29, hF⟩ := dr_some hF
              refine W_st (st' := [.ref (ad b29), .int s13.1, .int p0, .ref (ad b29), va_re ad (s13.2.2 a 3)]) (by rw [va_some ho29]) ?_
              refine va_get (D := D) (ci := 9) (v := va_re ad (s13.2.2 b29 7)) (C := RX9) (T := TX9) (N := 20) hx hb hts (by decide +kernel) hown hK hP b29 (wld_o ct ad G s13.2 hc29 hk29 (by decide)) rfl 7 (by decide) (hts (.fieldLink RX1 422 "VideoSuite$Work" "mode" "[I") (by decide +kernel)) (fun _ h9 => h9) rfl dX1_rebuild_182 ?_
              refine lv_bipush (v := (16 : Int32)) hx hb dX1_rebuild_185 (by decide) ?_
              refine lv_iload_n hx hb dX1_rebuild_187 rfl (lv_at hl 6 rfl) ?_
              refine lv_imul hx hb dX1_rebuild_188 ?_
              obtain ⟨x30, ex30, hF⟩ := ltt_some hF
              refine lv_topi (fun zx30 ezx30 => ?_)
              obtain rfl : x30 = zx30 := ex30.trans ezx30.symm
              refine lv_iload hx hb dX1_rebuild_189 (lv_at hl 0 rfl) ?_
              refine lv_iadd hx hb dX1_rebuild_191 ?_
              obtain ⟨x31, ex31, hF⟩ := ltt_some hF
              refine lv_topi (fun zx31 ezx31 => ?_)
              obtain rfl : x31 = zx31 := ex31.trans ezx31.symm
              obtain ⟨b32, ho32, hc32, hk32, hF⟩ := dr_some hF
              refine W_st (st' := [.int x31, .ref (ad b32), .int s13.1, .int p0, .ref (ad b29), va_re ad (s13.2.2 a 3)]) (by rw [va_some ho32]) ?_
              obtain ⟨hvc, hF⟩ := chk_some hF
              refine va_iald hx hb hK hP b32 1 (wld_i ct ad G s13.2 hc32 hk32) rfl hvc dX1_rebuild_192 ?_
              obtain ⟨x33, ex33, hF⟩ := ltt_some hF
              refine lv_topi (fun zx33 ezx33 => ?_)
              obtain rfl : x33 = zx33 := ex33.trans ezx33.symm
              refine lv_iload hx hb dX1_rebuild_193 (lv_at hl 0 rfl) ?_
              refine lv_iload hx hb dX1_rebuild_195 (lv_at hl 1 rfl) ?_
              obtain ⟨y34, hy34, hF⟩ := bnd_some hF
              have hf9 := wA_in hD hA9 hS
              refine va_calli (va_runS (As := [.int s13.1, .int y9.2]) (rest := [.int x33, .int s13.1, .int p0, .ref (ad b29), va_re ad (s13.2.2 a 3)]) ⟨hx, hb, hml, hown, hts⟩ (kX9_sidesOf l D ct ad Z G s13.2 H.size s13.1 y9.2 y34 hy34) (va_cwS 2 hts gX1_rebuild_X9_sidesOf rfl rfl rfl (by decide +kernel) ⟨Nat.le_of_ble_eq_true rfl, Nat.le_of_ble_eq_true rfl⟩) ⟨fun a U g mk q => by obtain ⟨q0, q1, qP, qK, qD, qZ, qN⟩ := q; exact ⟨q0, q1, qP, va_K.moved (u := U) (U := U.calling g mk a) (Vm.Alike.refl U.vm) qK, qD, sF.moved (u := U) (U := U.calling g mk a) (Vm.Alike.refl U.vm) qZ, nF.same rfl qN⟩, fun U hU hW => ⟨rfl, by rw [hU], by rw [hU]; exact hP, va_K.moved hW.alike hK, hD.weaken (fun _ _ _ _ => trivial), by rw [hU]; exact ((hZ.kept hS.2.1).narrow hf9).moved hW.alike, hN.warm hW⟩⟩ rfl rfl hl.1 rfl (lv_room (by simp only [List.map, va_re_cat]; exact Nat.le_of_ble_eq_true rfl)) dX1_rebuild_197 ⟨(Nat.zero_le _), (Nat.zero_le _)⟩) hS (fun q _ h => hf9 q h) hf9 (fun r u t H locs ht hvm hw hB hz1 hk1 hS => ?_)
              obtain ⟨hP, hK9, hD9⟩ := hB
              rw [ht] at hP
              try dsimp only at hw
              subst hw
              have hD := hD9.weaken (fun _ q _ h => hf9 q.1 h)
              obtain ⟨b35, ho35, hc35, hk35, hF⟩ := dr_some hF
              refine W_st (st' := [.int y34.2, .int x33, .int s13.1, .int p0, .ref (ad b29), .ref (ad b35)]) (by rw [va_some ho35]) ?_
              obtain ⟨y36, hy36, hF⟩ := bnd_some hF
              have hf9 := wA_in hD hA9 hS
              refine va_callv (va_runV (As := [.ref (ad b29), .int p0, .int s13.1, .int x33, .int y34.2]) (rest := []) ⟨hx, hb, hml, hown, hts⟩ (kX6_predictFour l D ct ad Z G y34.1 H.size b35 (some b29) p0 s13.1 x33 y34.2 y36 hc35 hk35 hy36) (cwV 5 hts gX1_rebuild_X6_predictFour rfl rfl rfl (by decide +kernel) ⟨Nat.le_of_ble_eq_true rfl, Nat.le_of_ble_eq_true rfl⟩) ⟨fun a U g mk q => by obtain ⟨q0, q1, qP, qK, qD, qZ, qN⟩ := q; exact ⟨q0, q1, qP, va_K.moved (u := U) (U := U.calling g mk a) (Vm.Alike.refl U.vm) qK, qD, sF.moved (u := U) (U := U.calling g mk a) (Vm.Alike.refl U.vm) qZ, nF.same rfl qN⟩, va_recv hK hP (ci := 6) (q0 := b35) rfl (wld_o ct ad G y34.1 hc35 hk35 (by decide)), fun U hU hW => ⟨rfl, by rw [hU], by rw [hU]; exact hP, va_K.moved hW.alike hK, hD.weaken (fun _ _ _ _ => trivial), by rw [hU]; exact ((hZ.kept hS.2.1).narrow hf9).moved hW.alike, hN.warm hW⟩⟩ rfl rfl hl.1 rfl (lv_room (Nat.le_of_ble_eq_true rfl)) dX1_rebuild_200 ⟨(Nat.zero_le _), (Nat.zero_le _)⟩) hS (fun q _ h => hf9 q h) hf9 (fun u t H locs ht hvm hw hB hz1 hk1 hS => ?_)
              obtain ⟨hP, hK9, hD9⟩ := hB
              rw [ht] at hP
              have hD := hD9.weaken (fun _ q _ h => hf9 q.1 h)
              obtain rfl := Option.some.inj hF
              exact J24 _ _ _ hP hD hS (lv_sub hl [0, 1, 2, 3, 4, 5, 6] rfl)
      clear hF
      have hF := hy11
      clear hy11
      refine lv_icmp_ne (tgt := 148) hx hb dX1_rebuild_105 (by decide) (fun c37 => ?_) (fun c37 => ?_)
      · rw [if_neg c37] at hF
        obtain rfl := Option.some.inj hF
        exact J11 _ _ _ hP hD hS (lv_sub hl [0, 1, 2, 3, 4, 5] rfl)
      · rw [if_pos c37] at hF
        refine lv_aload_n hx hb dX1_rebuild_108 rfl (lv_at hl 4 rfl) ?_
        refine va_get (D := D) (ci := 1) (v := va_re ad (y10.2 a 3)) (C := RX1) (T := TX1) (N := 22) hx hb hts (by decide +kernel) hown hK hP a (wld_o ct ad G y10 hc hk (by decide)) rfl 3 (by decide) (hts (.fieldLink RX1 35 "VideoSuite$Decoder" "samples" "LVideoSuite$Samples;") (by decide +kernel)) (fun _ h9 => h9) rfl dX1_rebuild_109 ?_
        refine lv_aload_n hx hb dX1_rebuild_112 rfl (lv_at hl 4 rfl) ?_
        refine va_get (D := D) (ci := 1) (v := va_re ad (y10.2 a 2)) (C := RX1) (T := TX1) (N := 22) hx hb hts (by decide +kernel) hown hK hP a (wld_o ct ad G y10 hc hk (by decide)) rfl 2 (by decide) (hts (.fieldLink RX1 28 "VideoSuite$Decoder" "work" "LVideoSuite$Work;") (by decide +kernel)) (fun _ h9 => h9) rfl dX1_rebuild_113 ?_
        refine lv_iload_n hx hb dX1_rebuild_116 rfl (lv_at hl 5 rfl) ?_
        refine lv_aload_n hx hb dX1_rebuild_117 rfl (lv_at hl 4 rfl) ?_
        refine va_get (D := D) (ci := 1) (v := va_re ad (y10.2 a 2)) (C := RX1) (T := TX1) (N := 22) hx hb hts (by decide +kernel) hown hK hP a (wld_o ct ad G y10 hc hk (by decide)) rfl 2 (by decide) (hts (.fieldLink RX1 28 "VideoSuite$Decoder" "work" "LVideoSuite$Work;") (by decide +kernel)) (fun _ h9 => h9) rfl dX1_rebuild_118 ?_
        obtain ⟨b38, ho38, hc38, hk38, hF⟩ := dr_some hF
        refine W_st (st' := [.ref (ad b38), .int p0, .ref (ad b38), va_re ad (y10.2 a 3)]) (by rw [va_some ho38]) ?_
        refine va_get (D := D) (ci := 9) (v := va_re ad (y10.2 b38 7)) (C := RX9) (T := TX9) (N := 20) hx hb hts (by decide +kernel) hown hK hP b38 (wld_o ct ad G y10 hc38 hk38 (by decide)) rfl 7 (by decide) (hts (.fieldLink RX1 422 "VideoSuite$Work" "mode" "[I") (by decide +kernel)) (fun _ h9 => h9) rfl dX1_rebuild_121 ?_
        refine lv_bipush (v := (16 : Int32)) hx hb dX1_rebuild_124 (by decide) ?_
        refine lv_iload_n hx hb dX1_rebuild_126 rfl (lv_at hl 5 rfl) ?_
        refine lv_imul hx hb dX1_rebuild_127 ?_
        obtain ⟨x39, ex39, hF⟩ := ltt_some hF
        refine lv_topi (fun zx39 ezx39 => ?_)
        obtain rfl : x39 = zx39 := ex39.trans ezx39.symm
        obtain ⟨b40, ho40, hc40, hk40, hF⟩ := dr_some hF
        refine W_st (st' := [.int x39, .ref (ad b40), .int p0, .ref (ad b38), va_re ad (y10.2 a 3)]) (by rw [va_some ho40]) ?_
        obtain ⟨hvc, hF⟩ := chk_some hF
        refine va_iald hx hb hK hP b40 1 (wld_i ct ad G y10 hc40 hk40) rfl hvc dX1_rebuild_128 ?_
        obtain ⟨x41, ex41, hF⟩ := ltt_some hF
        refine lv_topi (fun zx41 ezx41 => ?_)
        obtain rfl : x41 = zx41 := ex41.trans ezx41.symm
        refine lv_iload hx hb dX1_rebuild_129 (lv_at hl 0 rfl) ?_
        obtain ⟨b42, ho42, hc42, hk42, hF⟩ := dr_some hF
        refine W_st (st' := [.int y9.2, .int x41, .int p0, .ref (ad b38), .ref (ad b42)]) (by rw [va_some ho42]) ?_
        obtain ⟨y43, hy43, hF⟩ := bnd_some hF
        have hf9 := wA_in hD hA9 hS
        refine va_callv (va_runV (As := [.ref (ad b38), .int p0, .int x41, .int y9.2]) (rest := []) ⟨hx, hb, hml, hown, hts⟩ (kX6_predictSixteen l D ct ad Z G y10 H.size b42 (some b38) p0 x41 y9.2 y43 hc42 hk42 hy43) (cwV 4 hts gX1_rebuild_X6_predictSixteen rfl rfl rfl (by decide +kernel) ⟨Nat.le_of_ble_eq_true rfl, Nat.le_of_ble_eq_true rfl⟩) ⟨fun a U g mk q => by obtain ⟨q0, q1, qP, qK, qD, qZ, qN⟩ := q; exact ⟨q0, q1, qP, va_K.moved (u := U) (U := U.calling g mk a) (Vm.Alike.refl U.vm) qK, qD, sF.moved (u := U) (U := U.calling g mk a) (Vm.Alike.refl U.vm) qZ, nF.same rfl qN⟩, va_recv hK hP (ci := 6) (q0 := b42) rfl (wld_o ct ad G y10 hc42 hk42 (by decide)), fun U hU hW => ⟨rfl, by rw [hU], by rw [hU]; exact hP, va_K.moved hW.alike hK, hD.weaken (fun _ _ _ _ => trivial), by rw [hU]; exact ((hZ.kept hS.2.1).narrow hf9).moved hW.alike, hN.warm hW⟩⟩ rfl rfl hl.1 rfl (lv_room (Nat.le_of_ble_eq_true rfl)) dX1_rebuild_131 ⟨(Nat.zero_le _), (Nat.zero_le _)⟩) hS (fun q _ h => hf9 q h) hf9 (fun u t H locs ht hvm hw hB hz1 hk1 hS => ?_)
        obtain ⟨hP, hK9, hD9⟩ := hB
        rw [ht] at hP
        have hD := hD9.weaken (fun _ q _ h => hf9 q.1 h)
        refine lv_aload_n hx hb dX1_rebuild_134 rfl (lv_at hl 4 rfl) ?_
        refine va_get (D := D) (ci := 1) (v := va_re ad (y43.2 a 3)) (C := RX1) (T := TX1) (N := 22) hx hb hts (by decide +kernel) hown hK hP a (wld_o ct ad G y43 hc hk (by decide)) rfl 3 (by decide) (hts (.fieldLink RX1 35 "VideoSuite$Decoder" "samples" "LVideoSuite$Samples;") (by decide +kernel)) (fun _ h9 => h9) rfl dX1_rebuild_135 ?_
        refine lv_aload_n hx hb dX1_rebuild_138 rfl (lv_at hl 4 rfl) ?_
        refine va_get (D := D) (ci := 1) (v := va_re ad (y43.2 a 2)) (C := RX1) (T := TX1) (N := 22) hx hb hts (by decide +kernel) hown hK hP a (wld_o ct ad G y43 hc hk (by decide)) rfl 2 (by decide) (hts (.fieldLink RX1 28 "VideoSuite$Decoder" "work" "LVideoSuite$Work;") (by decide +kernel)) (fun _ h9 => h9) rfl dX1_rebuild_139 ?_
        refine lv_iload_n hx hb dX1_rebuild_142 rfl (lv_at hl 5 rfl) ?_
        refine lv_iload hx hb dX1_rebuild_143 (lv_at hl 1 rfl) ?_
        obtain ⟨b44, ho44, hc44, hk44, hF⟩ := dr_some hF
        refine W_st (st' := [.int x7, .int p0, va_re ad (y43.2 a 2), .ref (ad b44)]) (by rw [va_some ho44]) ?_
        obtain ⟨y45, hy45, hF⟩ := bnd_some hF
        have hf9 := wA_in hD hA9 hS
        refine va_callv (va_runV (As := [va_re ad (y43.2 a 2), .int p0, .int x7]) (rest := []) ⟨hx, hb, hml, hown, hts⟩ (kX6_fillSixteen l D ct ad Z G y43 H.size b44 ((y43.2 a 2)) p0 x7 y45 hc44 hk44 hy45) (cwV 3 hts gX1_rebuild_X6_fillSixteen rfl rfl rfl (by decide +kernel) ⟨Nat.le_of_ble_eq_true rfl, Nat.le_of_ble_eq_true rfl⟩) ⟨fun a U g mk q => by obtain ⟨q0, q1, qP, qK, qD, qZ, qN⟩ := q; exact ⟨q0, q1, qP, va_K.moved (u := U) (U := U.calling g mk a) (Vm.Alike.refl U.vm) qK, qD, sF.moved (u := U) (U := U.calling g mk a) (Vm.Alike.refl U.vm) qZ, nF.same rfl qN⟩, va_recv hK hP (ci := 6) (q0 := b44) rfl (wld_o ct ad G y43 hc44 hk44 (by decide)), fun U hU hW => ⟨rfl, by rw [hU], by rw [hU]; exact hP, va_K.moved hW.alike hK, hD.weaken (fun _ _ _ _ => trivial), by rw [hU]; exact ((hZ.kept hS.2.1).narrow hf9).moved hW.alike, hN.warm hW⟩⟩ rfl rfl hl.1 rfl (lv_room (Nat.le_of_ble_eq_true rfl)) dX1_rebuild_145 ⟨(Nat.zero_le _), (Nat.zero_le _)⟩) hS (fun q _ h => hf9 q h) hf9 (fun u t H locs ht hvm hw hB hz1 hk1 hS => ?_)
        obtain ⟨hP, hK9, hD9⟩ := hB
        rw [ht] at hP
        have hD := hD9.weaken (fun _ q _ h => hf9 q.1 h)
        obtain rfl := Option.some.inj hF
        exact J11 _ _ _ hP hD hS (lv_sub hl [0, 1, 2, 3, 4, 5] rfl)
    clear hF
    have hF := hy10
    clear hy10
    refine lv_icmp_ne (tgt := 78) hx hb dX1_rebuild_60 (by decide) (fun c46 => ?_) (fun c46 => ?_)
    · rw [if_neg c46] at hF
      refine lv_aload_n hx hb dX1_rebuild_78 rfl (lv_at hl 4 rfl) ?_
      refine va_get (D := D) (ci := 1) (v := va_re ad (y9.1.2 a 3)) (C := RX1) (T := TX1) (N := 22) hx hb hts (by decide +kernel) hown hK hP a (wld_o ct ad G y9.1 hc hk (by decide)) rfl 3 (by decide) (hts (.fieldLink RX1 35 "VideoSuite$Decoder" "samples" "LVideoSuite$Samples;") (by decide +kernel)) (fun _ h9 => h9) rfl dX1_rebuild_79 ?_
      refine lv_aload_n hx hb dX1_rebuild_82 rfl (lv_at hl 4 rfl) ?_
      refine va_get (D := D) (ci := 1) (v := va_re ad (y9.1.2 a 2)) (C := RX1) (T := TX1) (N := 22) hx hb hts (by decide +kernel) hown hK hP a (wld_o ct ad G y9.1 hc hk (by decide)) rfl 2 (by decide) (hts (.fieldLink RX1 28 "VideoSuite$Decoder" "work" "LVideoSuite$Work;") (by decide +kernel)) (fun _ h9 => h9) rfl dX1_rebuild_83 ?_
      refine lv_iload_n hx hb dX1_rebuild_86 rfl (lv_at hl 5 rfl) ?_
      refine lv_aload_n hx hb dX1_rebuild_87 rfl (lv_at hl 4 rfl) ?_
      refine va_get (D := D) (ci := 1) (v := va_re ad (y9.1.2 a 2)) (C := RX1) (T := TX1) (N := 22) hx hb hts (by decide +kernel) hown hK hP a (wld_o ct ad G y9.1 hc hk (by decide)) rfl 2 (by decide) (hts (.fieldLink RX1 28 "VideoSuite$Decoder" "work" "LVideoSuite$Work;") (by decide +kernel)) (fun _ h9 => h9) rfl dX1_rebuild_88 ?_
      obtain ⟨b47, ho47, hc47, hk47, hF⟩ := dr_some hF
      refine W_st (st' := [.ref (ad b47), .int p0, .ref (ad b47), va_re ad (y9.1.2 a 3)]) (by rw [va_some ho47]) ?_
      refine va_get (D := D) (ci := 9) (v := va_re ad (y9.1.2 b47 6)) (C := RX9) (T := TX9) (N := 20) hx hb hts (by decide +kernel) hown hK hP b47 (wld_o ct ad G y9.1 hc47 hk47 (by decide)) rfl 6 (by decide) (hts (.fieldLink RX1 355 "VideoSuite$Work" "info" "[I") (by decide +kernel)) (fun _ h9 => h9) rfl dX1_rebuild_91 ?_
      refine lv_iload_n hx hb dX1_rebuild_94 rfl (lv_at hl 3 rfl) ?_
      refine lv_iconst (v := (5 : Int32)) hx hb dX1_rebuild_95 (by decide) ?_
      refine lv_iadd hx hb dX1_rebuild_96 ?_
      obtain ⟨x48, ex48, hF⟩ := ltt_some hF
      refine lv_topi (fun zx48 ezx48 => ?_)
      obtain rfl : x48 = zx48 := ex48.trans ezx48.symm
      obtain ⟨b49, ho49, hc49, hk49, hF⟩ := dr_some hF
      refine W_st (st' := [.int x48, .ref (ad b49), .int p0, .ref (ad b47), va_re ad (y9.1.2 a 3)]) (by rw [va_some ho49]) ?_
      obtain ⟨hvc, hF⟩ := chk_some hF
      refine va_iald hx hb hK hP b49 1 (wld_i ct ad G y9.1 hc49 hk49) rfl hvc dX1_rebuild_97 ?_
      obtain ⟨x50, ex50, hF⟩ := ltt_some hF
      refine lv_topi (fun zx50 ezx50 => ?_)
      obtain rfl : x50 = zx50 := ex50.trans ezx50.symm
      refine lv_iload hx hb dX1_rebuild_98 (lv_at hl 0 rfl) ?_
      obtain ⟨b51, ho51, hc51, hk51, hF⟩ := dr_some hF
      refine W_st (st' := [.int y9.2, .int x50, .int p0, .ref (ad b47), .ref (ad b51)]) (by rw [va_some ho51]) ?_
      obtain ⟨y52, hy52, hF⟩ := bnd_some hF
      have hf9 := wA_in hD hA9 hS
      refine va_callv (va_runV (As := [.ref (ad b47), .int p0, .int x50, .int y9.2]) (rest := []) ⟨hx, hb, hml, hown, hts⟩ (kX6_predictColours_ l D ct ad Z G y9.1 H.size b51 (some b47) p0 x50 y9.2 y52 hc51 hk51 hy52) (cwV 4 hts gX1_rebuild_X6_predictColours_ rfl rfl rfl (by decide +kernel) ⟨Nat.le_of_ble_eq_true rfl, Nat.le_of_ble_eq_true rfl⟩) ⟨fun a U g mk q => by obtain ⟨q0, q1, qP, qK, qD, qZ, qN⟩ := q; exact ⟨q0, q1, qP, va_K.moved (u := U) (U := U.calling g mk a) (Vm.Alike.refl U.vm) qK, qD, sF.moved (u := U) (U := U.calling g mk a) (Vm.Alike.refl U.vm) qZ, nF.same rfl qN⟩, va_recv hK hP (ci := 6) (q0 := b51) rfl (wld_o ct ad G y9.1 hc51 hk51 (by decide)), fun U hU hW => ⟨rfl, by rw [hU], by rw [hU]; exact hP, va_K.moved hW.alike hK, hD.weaken (fun _ _ _ _ => trivial), by rw [hU]; exact ((hZ.kept hS.2.1).narrow hf9).moved hW.alike, hN.warm hW⟩⟩ rfl rfl hl.1 rfl (lv_room (Nat.le_of_ble_eq_true rfl)) dX1_rebuild_100 ⟨(Nat.zero_le _), (Nat.zero_le _)⟩) hS (fun q _ h => hf9 q h) hf9 (fun u t H locs ht hvm hw hB hz1 hk1 hS => ?_)
      obtain ⟨hP, hK9, hD9⟩ := hB
      rw [ht] at hP
      have hD := hD9.weaken (fun _ q _ h => hf9 q.1 h)
      obtain rfl := Option.some.inj hF
      exact J10 _ _ _ hP hD hS (lv_sub hl [0, 1, 2, 3, 4, 5] rfl)
    · rw [if_pos c46] at hF
      refine lv_aload_n hx hb dX1_rebuild_63 rfl (lv_at hl 4 rfl) ?_
      refine va_get (D := D) (ci := 1) (v := va_re ad (y9.1.2 a 3)) (C := RX1) (T := TX1) (N := 22) hx hb hts (by decide +kernel) hown hK hP a (wld_o ct ad G y9.1 hc hk (by decide)) rfl 3 (by decide) (hts (.fieldLink RX1 35 "VideoSuite$Decoder" "samples" "LVideoSuite$Samples;") (by decide +kernel)) (fun _ h9 => h9) rfl dX1_rebuild_64 ?_
      refine lv_aload_n hx hb dX1_rebuild_67 rfl (lv_at hl 4 rfl) ?_
      refine va_get (D := D) (ci := 1) (v := va_re ad (y9.1.2 a 2)) (C := RX1) (T := TX1) (N := 22) hx hb hts (by decide +kernel) hown hK hP a (wld_o ct ad G y9.1 hc hk (by decide)) rfl 2 (by decide) (hts (.fieldLink RX1 28 "VideoSuite$Decoder" "work" "LVideoSuite$Work;") (by decide +kernel)) (fun _ h9 => h9) rfl dX1_rebuild_68 ?_
      refine lv_iload_n hx hb dX1_rebuild_71 rfl (lv_at hl 5 rfl) ?_
      obtain ⟨b53, ho53, hc53, hk53, hF⟩ := dr_some hF
      refine W_st (st' := [.int p0, va_re ad (y9.1.2 a 2), .ref (ad b53)]) (by rw [va_some ho53]) ?_
      obtain ⟨y54, hy54, hF⟩ := bnd_some hF
      have hf9 := wA_in hD hA9 hS
      refine va_callv (va_runV (As := [va_re ad (y9.1.2 a 2), .int p0]) (rest := []) ⟨hx, hb, hml, hown, hts⟩ (kX6_predictByLists l D ct ad Z G y9.1 H.size b53 ((y9.1.2 a 2)) p0 y54 hc53 hk53 hy54) (cwV 2 hts gX1_rebuild_X6_predictByLists rfl rfl rfl (by decide +kernel) ⟨Nat.le_of_ble_eq_true rfl, Nat.le_of_ble_eq_true rfl⟩) ⟨fun a U g mk q => by obtain ⟨q0, q1, qP, qK, qD, qZ, qN⟩ := q; exact ⟨q0, q1, qP, va_K.moved (u := U) (U := U.calling g mk a) (Vm.Alike.refl U.vm) qK, qD, sF.moved (u := U) (U := U.calling g mk a) (Vm.Alike.refl U.vm) qZ, nF.same rfl qN⟩, va_recv hK hP (ci := 6) (q0 := b53) rfl (wld_o ct ad G y9.1 hc53 hk53 (by decide)), fun U hU hW => ⟨rfl, by rw [hU], by rw [hU]; exact hP, va_K.moved hW.alike hK, hD.weaken (fun _ _ _ _ => trivial), by rw [hU]; exact ((hZ.kept hS.2.1).narrow hf9).moved hW.alike, hN.warm hW⟩⟩ rfl rfl hl.1 rfl (lv_room (Nat.le_of_ble_eq_true rfl)) dX1_rebuild_72 ⟨(Nat.zero_le _), (Nat.zero_le _)⟩) hS (fun q _ h => hf9 q h) hf9 (fun u t H locs ht hvm hw hB hz1 hk1 hS => ?_)
      obtain ⟨hP, hK9, hD9⟩ := hB
      rw [ht] at hP
      have hD := hD9.weaken (fun _ q _ h => hf9 q.1 h)
      refine lv_goto (tgt := 103) hx hb dX1_rebuild_75 (by decide) ?_
      obtain rfl := Option.some.inj hF
      exact J10 _ _ _ hP hD hS (lv_sub hl [0, 1, 2, 3, 4, 5] rfl)
  · rw [if_pos c8] at hF
    refine lv_aload_n hx hb dX1_rebuild_35 rfl (lv_at hl 3 rfl) ?_
    refine va_get (D := D) (ci := 1) (v := va_re ad (M.2 a 3)) (C := RX1) (T := TX1) (N := 22) hx hb hts (by decide +kernel) hown hK hP a (wld_o ct ad G M hc hk (by decide)) rfl 3 (by decide) (hts (.fieldLink RX1 35 "VideoSuite$Decoder" "samples" "LVideoSuite$Samples;") (by decide +kernel)) (fun _ h9 => h9) rfl dX1_rebuild_36 ?_
    refine lv_aload_n hx hb dX1_rebuild_39 rfl (lv_at hl 3 rfl) ?_
    refine va_get (D := D) (ci := 1) (v := va_re ad (M.2 a 2)) (C := RX1) (T := TX1) (N := 22) hx hb hts (by decide +kernel) hown hK hP a (wld_o ct ad G M hc hk (by decide)) rfl 2 (by decide) (hts (.fieldLink RX1 28 "VideoSuite$Decoder" "work" "LVideoSuite$Work;") (by decide +kernel)) (fun _ h9 => h9) rfl dX1_rebuild_40 ?_
    refine lv_iload_n hx hb dX1_rebuild_43 rfl (lv_at hl 4 rfl) ?_
    obtain ⟨b55, ho55, hc55, hk55, hF⟩ := dr_some hF
    refine W_st (st' := [.int p0, va_re ad (M.2 a 2), .ref (ad b55)]) (by rw [va_some ho55]) ?_
    obtain ⟨y56, hy56, hF⟩ := bnd_some hF
    have hf9 := wA_in hD hA9 hS
    refine va_callv (va_runV (As := [va_re ad (M.2 a 2), .int p0]) (rest := []) ⟨hx, hb, hml, hown, hts⟩ (kX6_fillRaw l D ct ad Z G M s.heap.size b55 ((M.2 a 2)) p0 y56 hc55 hk55 hy56) (cwV 2 hts gX1_rebuild_X6_fillRaw rfl rfl rfl (by decide +kernel) ⟨Nat.le_of_ble_eq_true rfl, Nat.le_of_ble_eq_true rfl⟩) ⟨fun a U g mk q => by obtain ⟨q0, q1, qP, qK, qD, qZ, qN⟩ := q; exact ⟨q0, q1, qP, va_K.moved (u := U) (U := U.calling g mk a) (Vm.Alike.refl U.vm) qK, qD, sF.moved (u := U) (U := U.calling g mk a) (Vm.Alike.refl U.vm) qZ, nF.same rfl qN⟩, va_recv hK hP (ci := 6) (q0 := b55) rfl (wld_o ct ad G M hc55 hk55 (by decide)), fun U hU hW => ⟨rfl, by rw [hU], by rw [hU]; exact hP, va_K.moved hW.alike hK, hD.weaken (fun _ _ _ _ => trivial), by rw [hU]; exact ((hZ.kept hS.2.1).narrow hf9).moved hW.alike, hN.warm hW⟩⟩ rfl rfl hl.1 rfl (lv_room (Nat.le_of_ble_eq_true rfl)) dX1_rebuild_44 ⟨(Nat.zero_le _), (Nat.zero_le _)⟩) hS (fun q _ h => hf9 q h) hf9 (fun u t H locs ht hvm hw hB hz1 hk1 hS => ?_)
    obtain ⟨hP, hK9, hD9⟩ := hB
    rw [ht] at hP
    have hD := hD9.weaken (fun _ q _ h => hf9 q.1 h)
    obtain rfl := Option.some.inj hF
    exact W.vret hx hb hr (fun t ht hW => ⟨⟨(), rfl, trivial, ⟨by rw [ht]; exact hP, va_K.moved hW.alike hK, hD⟩⟩, hS.F ht⟩) hS.2.2 dX1_rebuild_47
theorem ggX2_filter_X4_blocks : GoodIn wsX2_filter wsX4_blocks := goodIn_r _ [7, 8, 9, 104, 105, 106, 107, 108, 109, 110, 111, 112, 113, 114, 115, 116, 117, 118, 119, 120, 121] (by decide +kernel) (by decide +kernel)
set_option maxRecDepth 20000 in
theorem gX2_filter_X4_blocks : GoodIn wsX2_filter (wsV RX2 21 RX4 yX4_blocks wsX4_blocks) := goodIn_app (goodIn_of _ (by decide +kernel)) ggX2_filter_X4_blocks
set_option maxRecDepth 20000 in
theorem ggX2_filter_X2_measure : GoodIn wsX2_filter wsX2_measure := goodIn_r _ [14, 1, 15, 16, 17, 18, 19, 20, 21, 22, 23, 24, 25, 26, 27, 13, 28, 29, 30, 31, 32, 6, 33, 34, 35, 36, 37, 38, 39, 77, 78, 79, 80, 81, 82, 83, 84, 85, 86, 87, 88, 89, 90, 91, 92, 93, 94, 95, 96, 104, 105, 106, 107, 108, 109, 110, 111, 112, 113, 114, 115, 116, 117, 118, 119, 120, 121, 97, 98, 99, 100, 101, 102, 103] (by decide +kernel) (by decide +kernel)
set_option maxRecDepth 20000 in
theorem gX2_filter_X2_measure : GoodIn wsX2_filter (wsV RX2 68 RX2 yX2_measure wsX2_measure) := goodIn_app (goodIn_of _ (by decide +kernel)) ggX2_filter_X2_measure
set_option maxRecDepth 20000 in
theorem ggX2_filter_X2_filterEdge : GoodIn wsX2_filter wsX2_filterEdge := goodIn_r _ [43, 1, 15, 18, 44, 45, 46, 47, 13, 48, 17, 49, 16, 50, 51, 52, 53, 54, 55, 56, 57, 58, 59, 60, 61, 62, 63, 64, 65, 66, 67, 68, 69, 70, 71, 72, 73, 74, 75, 76, 77, 78, 79, 80, 81, 82, 83, 84, 85, 86, 87, 88, 89, 90, 91, 92, 93, 94, 95, 96, 104, 105, 106, 107, 108, 109, 110, 111, 112, 113, 114, 115, 116, 117, 118, 119, 120, 121, 97, 98, 99, 100, 101, 102, 103] (by decide +kernel) (by decide +kernel)
set_option maxRecDepth 20000 in
theorem gX2_filter_X2_filterEdge : GoodIn wsX2_filter (wsV RX2 71 RX2 yX2_filterEdge wsX2_filterEdge) := goodIn_app (goodIn_of _ (by decide +kernel)) ggX2_filter_X2_filterEdge
theorem dX2_filter_0 : decode cX2_filter 0 = .ok (.aload_n 0, 1) := by decide +kernel
theorem dX2_filter_1 : decode cX2_filter 1 = .ok (.aload_n 1, 1) := by decide +kernel
theorem dX2_filter_2 : decode cX2_filter 2 = .ok (.getfield 15, 3) := by decide +kernel
theorem dX2_filter_5 : decode cX2_filter 5 = .ok (.invokevirtual 21, 3) := by decide +kernel
theorem dX2_filter_8 : decode cX2_filter 8 = .ok (.putfield 66, 3) := by decide +kernel
theorem dX2_filter_11 : decode cX2_filter 11 = .ok (.iconst 0, 1) := by decide +kernel
theorem dX2_filter_12 : decode cX2_filter 12 = .ok (.istore_n 2, 1) := by decide +kernel
theorem dX2_filter_13 : decode cX2_filter 13 = .ok (.iload_n 2, 1) := by decide +kernel
theorem dX2_filter_14 : decode cX2_filter 14 = .ok (.aload_n 0, 1) := by decide +kernel
theorem dX2_filter_15 : decode cX2_filter 15 = .ok (.getfield 66, 3) := by decide +kernel
theorem dX2_filter_18 : decode cX2_filter 18 = .ok (.if_icmp .ge 77, 3) := by decide +kernel
theorem dX2_filter_21 : decode cX2_filter 21 = .ok (.aload_n 0, 1) := by decide +kernel
theorem dX2_filter_22 : decode cX2_filter 22 = .ok (.aload_n 1, 1) := by decide +kernel
theorem dX2_filter_23 : decode cX2_filter 23 = .ok (.iload_n 2, 1) := by decide +kernel
theorem dX2_filter_24 : decode cX2_filter 24 = .ok (.invokevirtual 68, 3) := by decide +kernel
theorem dX2_filter_27 : decode cX2_filter 27 = .ok (.iconst 0, 1) := by decide +kernel
theorem dX2_filter_28 : decode cX2_filter 28 = .ok (.istore_n 3, 1) := by decide +kernel
theorem dX2_filter_29 : decode cX2_filter 29 = .ok (.iload_n 3, 1) := by decide +kernel
theorem dX2_filter_30 : decode cX2_filter 30 = .ok (.iconst 3, 1) := by decide +kernel
theorem dX2_filter_31 : decode cX2_filter 31 = .ok (.if_icmp .ge 58, 3) := by decide +kernel
theorem dX2_filter_34 : decode cX2_filter 34 = .ok (.iconst 0, 1) := by decide +kernel
theorem dX2_filter_35 : decode cX2_filter 35 = .ok (.istore 4, 2) := by decide +kernel
theorem dX2_filter_37 : decode cX2_filter 37 = .ok (.iload 4, 2) := by decide +kernel
theorem dX2_filter_39 : decode cX2_filter 39 = .ok (.iconst 2, 1) := by decide +kernel
theorem dX2_filter_40 : decode cX2_filter 40 = .ok (.if_icmp .ge 43, 3) := by decide +kernel
theorem dX2_filter_43 : decode cX2_filter 43 = .ok (.iconst 0, 1) := by decide +kernel
theorem dX2_filter_44 : decode cX2_filter 44 = .ok (.istore 5, 2) := by decide +kernel
theorem dX2_filter_46 : decode cX2_filter 46 = .ok (.iload 5, 2) := by decide +kernel
theorem dX2_filter_48 : decode cX2_filter 48 = .ok (.iload_n 3, 1) := by decide +kernel
theorem dX2_filter_49 : decode cX2_filter 49 = .ok (.ifCond .ne 7, 3) := by decide +kernel
theorem dX2_filter_52 : decode cX2_filter 52 = .ok (.iconst 4, 1) := by decide +kernel
theorem dX2_filter_53 : decode cX2_filter 53 = .ok (.goto 4, 3) := by decide +kernel
theorem dX2_filter_56 : decode cX2_filter 56 = .ok (.iconst 2, 1) := by decide +kernel
theorem dX2_filter_57 : decode cX2_filter 57 = .ok (.if_icmp .ge 20, 3) := by decide +kernel
theorem dX2_filter_60 : decode cX2_filter 60 = .ok (.aload_n 0, 1) := by decide +kernel
theorem dX2_filter_61 : decode cX2_filter 61 = .ok (.aload_n 1, 1) := by decide +kernel
theorem dX2_filter_62 : decode cX2_filter 62 = .ok (.iload_n 2, 1) := by decide +kernel
theorem dX2_filter_63 : decode cX2_filter 63 = .ok (.iload_n 3, 1) := by decide +kernel
theorem dX2_filter_64 : decode cX2_filter 64 = .ok (.iload 4, 2) := by decide +kernel
theorem dX2_filter_66 : decode cX2_filter 66 = .ok (.iload 5, 2) := by decide +kernel
theorem dX2_filter_68 : decode cX2_filter 68 = .ok (.invokevirtual 71, 3) := by decide +kernel
theorem dX2_filter_71 : decode cX2_filter 71 = .ok (.iinc 5 1, 3) := by decide +kernel
theorem dX2_filter_74 : decode cX2_filter 74 = .ok (.goto (-28), 3) := by decide +kernel
theorem dX2_filter_77 : decode cX2_filter 77 = .ok (.iinc 4 1, 3) := by decide +kernel
theorem dX2_filter_80 : decode cX2_filter 80 = .ok (.goto (-43), 3) := by decide +kernel
theorem dX2_filter_83 : decode cX2_filter 83 = .ok (.iinc 3 1, 3) := by decide +kernel
theorem dX2_filter_86 : decode cX2_filter 86 = .ok (.goto (-57), 3) := by decide +kernel
theorem dX2_filter_89 : decode cX2_filter 89 = .ok (.iinc 2 1, 3) := by decide +kernel
theorem dX2_filter_92 : decode cX2_filter 92 = .ok (.goto (-79), 3) := by decide +kernel
theorem dX2_filter_95 : decode cX2_filter 95 = .ok (.return_, 1) := by decide +kernel
def FX2_filter (G : GG) (M : DD) (a : Nat) (p0 : Option Nat) : Option (DD) :=
  dr G 9 p0 fun b2 =>
  dr G 4 ((M.2 b2 0)) fun b3 =>
  bnd (FX4_blocks G M b3) fun y4 =>
  ltt (uI y4.1 a 1 y4.2) fun M5 =>
  bnd (itr (fun (s7 : Int32 × DD) => ((ltt (s7.2.1 a 1) fun x10 =>
  if x10 ≤ s7.1 then (some (.inr (s7.1, s7.2))) else
  (bnd (FX2_measure G s7.2 a p0 s7.1) fun y12 =>
  bnd (itr (fun (s14 : Int32 × DD) => ((if ((3 : Int32)) ≤ s14.1 then (some (.inr (s14.1, s14.2))) else
  (bnd (itr (fun (s20 : Int32 × DD) => ((if ((2 : Int32)) ≤ s20.1 then (some (.inr (s20.1, s20.2))) else
  (bnd (itr (fun (s26 : Int32 × DD) => ((bnd (if s14.1 = ((0 : Int32)) then (some ((4 : Int32))) else
  (some ((2 : Int32)))) fun (y30 : Int32) =>
  if y30 ≤ s26.1 then (some (.inr (s26.1, s26.2))) else
  (bnd (FX2_filterEdge G s26.2 a p0 s7.1 s14.1 s20.1 s26.1) fun y32 =>
  ltt (s26.1 + (1 : Int32)) fun x33 =>
  some (.inl (x33, y32)))) : Option ((Int32 × DD) ⊕ (Int32 × DD)))) 1000000 ((0 : Int32), s20.2)) fun (y25 : Int32 × DD) =>
  ltt (s20.1 + (1 : Int32)) fun x28 =>
  some (.inl (x28, y25.2)))) : Option ((Int32 × DD) ⊕ (Int32 × DD)))) 1000000 ((0 : Int32), s14.2)) fun (y19 : Int32 × DD) =>
  ltt (s14.1 + (1 : Int32)) fun x22 =>
  some (.inl (x22, y19.2)))) : Option ((Int32 × DD) ⊕ (Int32 × DD)))) 1000000 ((0 : Int32), y12)) fun (y13 : Int32 × DD) =>
  ltt (s7.1 + (1 : Int32)) fun x16 =>
  some (.inl (x16, y13.2)))) : Option ((Int32 × DD) ⊕ (Int32 × DD)))) 1000000 ((0 : Int32), M5)) fun (y6 : Int32 × DD) =>
  some y6.2
set_option maxHeartbeats 4000000 in
set_option maxRecDepth 100000 in
theorem kX2_filter (l : Launch) (D : va_G) (ct : CT) (ad : Nat → Nat) (Z : Nat → Nat) (G : GG) (M : DD) (sz : Nat) (a : Nat) (p0 : Option Nat) (y : DD) (hc : a < G.1) (hk : G.2.1 a = 2) (hF : FX2_filter G M a p0 = some y) : Met l yX2_filter wsX2_filter ({ frames := 4, cells := 0, slots := 0, locals := 111 }) (va_Pc [.ref (ad a), va_re ad p0] (kB D ct ad Z G M sz)) (va_Qv (fun (_ : Unit) => True) (fun _ t => kE D ct ad G (wA ad G sz) y t) (wA ad G sz)) 0 0 (wA ad G sz) := by
  refine Met.ofW (cc := cX2_filter) (maxL := 6) (ret := none) (by decide) rfl ?_
  intro p e s m args below meth c s₁ B hml hv
  obtain ⟨rfl, hsz, hP, hK, hD0, hZ, hN⟩ := hv
  have hx := B.exec
  have hb := B.bytes
  have hr := B.returns
  have hts := atoms_spec (ws := wsX2_filter) B.pre
  have hown : s.vm.findClass RX2 = some m.cls := findClass_of_methodNamed B.named
  have hlocks := B.notSynchronized
  subst hsz
  have hD := wD_self (sz := s.heap.size) hD0
  have hA9 : ∀ q, s.heap.size ≤ q → wA ad G s.heap.size q := fun q h => Or.inr h
  generalize hAe : wA ad G s.heap.size = A at hD hA9 hZ ⊢
  have hS : va_S A s.heap s.heap [] := va_S.rf
  have hl := lv_entry ([.ref (ad a), va_re ad p0]) (n := 6) (by cases p0 <;> exact Nat.le_of_ble_eq_true rfl)
  rw [lg_entry_eq]
  generalize (lg_sl ([.ref (ad a), va_re ad p0]) ++ List.replicate (6 - (lg_sl ([.ref (ad a), va_re ad p0])).length) Slot.unset).toArray = ls at hl ⊢
  have hl : lv_has ls 6 [(0, .ref (ad a)), (1, va_re ad p0)] := by have e9 : lv_args 0 [.ref (ad a), va_re ad p0] = [(0, .ref (ad a)), (1, va_re ad p0)] := (by cases p0 <;> rfl); rw [e9] at hl; exact hl
  unfold FX2_filter at hF
  refine lv_aload_n hx hb dX2_filter_0 rfl (lv_at hl 0 rfl) ?_
  refine lv_aloadq_n hx hb dX2_filter_1 rfl (lv_at hl 1 rfl) ?_
  obtain ⟨b2, ho2, hc2, hk2, hF⟩ := dr_some hF
  refine W_st (st' := [.ref (ad b2), .ref (ad a)]) (by rw [va_some ho2]) ?_
  refine va_get (D := D) (ci := 9) (v := va_re ad (M.2 b2 0)) (C := RX9) (T := TX9) (N := 20) hx hb hts (by decide +kernel) hown hK hP b2 (wld_o ct ad G M hc2 hk2 (by decide)) rfl 0 (by decide) (hts (.fieldLink RX2 15 "VideoSuite$Work" "pic" "LVideoSuite$Picture;") (by decide +kernel)) (fun _ h9 => h9) rfl dX2_filter_2 ?_
  obtain ⟨b3, ho3, hc3, hk3, hF⟩ := dr_some hF
  refine W_st (st' := [.ref (ad b3), .ref (ad a)]) (by rw [va_some ho3]) ?_
  obtain ⟨y4, hy4, hF⟩ := bnd_some hF
  have hf9 := wA_in hD hA9 hS
  refine va_calli (va_runV (As := []) (rest := [.ref (ad a)]) ⟨hx, hb, hml, hown, hts⟩ (kX4_blocks l D ct ad Z G M s.heap.size b3 y4 hc3 hk3 hy4) (cwV 0 hts gX2_filter_X4_blocks rfl rfl rfl (by decide +kernel) ⟨Nat.le_of_ble_eq_true rfl, Nat.le_of_ble_eq_true rfl⟩) ⟨fun a U g mk q => by obtain ⟨q0, q1, qP, qK, qD, qZ, qN⟩ := q; exact ⟨q0, q1, qP, va_K.moved (u := U) (U := U.calling g mk a) (Vm.Alike.refl U.vm) qK, qD, sF.moved (u := U) (U := U.calling g mk a) (Vm.Alike.refl U.vm) qZ, nF.same rfl qN⟩, va_recv hK hP (ci := 4) (q0 := b3) rfl (wld_o ct ad G M hc3 hk3 (by decide)), fun U hU hW => ⟨rfl, by rw [hU], by rw [hU]; exact hP, va_K.moved hW.alike hK, hD.weaken (fun _ _ _ _ => trivial), by rw [hU]; exact ((hZ.kept hS.2.1).narrow hf9).moved hW.alike, hN.warm hW⟩⟩ rfl rfl hl.1 rfl (lv_room (Nat.le_of_ble_eq_true rfl)) dX2_filter_5 ⟨(Nat.zero_le _), (Nat.zero_le _)⟩) hS (fun q _ h => hf9 q h) hf9 (fun r u t H locs ht hvm hw hB hz1 hk1 hS => ?_)
  obtain ⟨hP, hK9, hD9⟩ := hB
  rw [ht] at hP
  try dsimp only at hw
  subst hw
  have hD := hD9.weaken (fun _ q _ h => hf9 q.1 h)
  refine va_put (D := D) (ci := 2) (v := .int y4.2) (ty := .int) (C := RX2) (T := TX2) (N := 7) hx hb hts (by decide +kernel) tyX2 tyX2_ok nmX2 hown hK hP hD hS a (wld_o ct ad G y4.1 hc hk (by decide)) rfl 1 (by decide) (hts (.fieldLink RX2 66 "VideoSuite$Edges" "blocks" "I") (by decide +kernel)) (fun _ h9 => h9) rfl (by decide +kernel) rfl rfl (Nat.le_of_ble_eq_true rfl) dX2_filter_8 (fun H locs hP hD hS => ?_)
  obtain ⟨M5, eM5, hF⟩ := ltt_some hF
  rw [set_oI ct ad G y4.1 hc hk (by decide) (by rfl), ← eM5] at hP hD
  refine lv_iconst (v := (0 : Int32)) hx hb dX2_filter_11 (by decide) ?_
  refine lv_istore_n (lv' := [(2, .int (0 : Int32)), (0, .ref (ad a)), (1, va_re ad p0)]) hx hb dX2_filter_12 rfl hl (by decide) (by generalize p0 = o9; cases o9 <;> rfl) (fun ls hl => ?_)
  obtain ⟨y6, hy6, hF⟩ := bnd_some hF
  have K6 : ∀ (H : Heap) (locs : List Loc) (ls : Array Slot), va_P D classes (wld ct ad G y6.2) H → va_D A (wld ct ad G y6.2) → va_S A s.heap H locs → lv_has ls 6 [(2, .int y6.1), (0, .ref (ad a)), (1, va_re ad p0)] → W p l e (headSpec wsX2_filter ({ frames := 4, cells := 0, slots := 0, locals := 111 })).room s m ([.ref (ad a), va_re ad p0] : List Value).toArray below meth c H locs 0 0 (MQ below (va_Qv (fun (_ : Unit) => True) (fun _ t => kE D ct ad G A y t) A) ([.ref (ad a), va_re ad p0] : List Value).toArray s 0 0 A) (F0 m 95 ls []) := by
    intro H locs ls hP hD hS hl
    obtain rfl := Option.some.inj hF
    exact W.vret hx hb hr (fun t ht hW => ⟨⟨(), rfl, trivial, ⟨by rw [ht]; exact hP, va_K.moved hW.alike hK, hD⟩⟩, hS.F ht⟩) hS.2.2 dX2_filter_95
  clear hF
  refine itr_rule (fun (s7 : Int32 × DD) => ∀ (H : Heap) (locs : List Loc) (ls : Array Slot), va_P D classes (wld ct ad G s7.2) H → va_D A (wld ct ad G s7.2) → va_S A s.heap H locs → lv_has ls 6 [(2, .int s7.1), (0, .ref (ad a)), (1, va_re ad p0)] → W p l e (headSpec wsX2_filter ({ frames := 4, cells := 0, slots := 0, locals := 111 })).room s m ([.ref (ad a), va_re ad p0] : List Value).toArray below meth c H locs 0 0 (MQ below (va_Qv (fun (_ : Unit) => True) (fun _ t => kE D ct ad G A y t) A) ([.ref (ad a), va_re ad p0] : List Value).toArray s 0 0 A) (F0 m 13 ls [])) ?_ _ _ hy6 _ _ _ hP hD hS (lv_sub hl [0, 1, 2] rfl)
  rintro s7 ⟨z9, hF, hwz9⟩ H locs ls hP hD hS hl
  try dsimp only at hF
  refine lv_iload_n hx hb dX2_filter_13 rfl (lv_at hl 0 rfl) ?_
  refine lv_aload_n hx hb dX2_filter_14 rfl (lv_at hl 1 rfl) ?_
  refine va_get (D := D) (ci := 2) (v := .int (s7.2.1 a 1)) (C := RX2) (T := TX2) (N := 7) hx hb hts (by decide +kernel) hown hK hP a (wld_o ct ad G s7.2 hc hk (by decide)) rfl 1 (by decide) (hts (.fieldLink RX2 66 "VideoSuite$Edges" "blocks" "I") (by decide +kernel)) (fun _ h9 => h9) rfl dX2_filter_15 ?_
  obtain ⟨x10, ex10, hF⟩ := ltt_some hF
  refine lv_topi (fun zx10 ezx10 => ?_)
  obtain rfl : x10 = zx10 := ex10.trans ezx10.symm
  refine lv_icmp_ge (tgt := 95) hx hb dX2_filter_18 (by decide) (fun c11 => ?_) (fun c11 => ?_)
  · rw [if_pos c11] at hF
    obtain rfl := Option.some.inj hF
    subst hwz9
    exact K6 _ _ _ hP hD hS (lv_sub hl [0, 1, 2] rfl)
  · rw [if_neg c11] at hF
    refine lv_aload_n hx hb dX2_filter_21 rfl (lv_at hl 1 rfl) ?_
    refine lv_aloadq_n hx hb dX2_filter_22 rfl (lv_at hl 2 rfl) ?_
    refine lv_iload_n hx hb dX2_filter_23 rfl (lv_at hl 0 rfl) ?_
    obtain ⟨y12, hy12, hF⟩ := bnd_some hF
    have hf9 := wA_in hD hA9 hS
    refine va_callv (va_runV (As := [va_re ad p0, .int s7.1]) (rest := []) ⟨hx, hb, hml, hown, hts⟩ (kX2_measure l D ct ad Z G s7.2 H.size a p0 s7.1 y12 hc hk hy12) (cwV 2 hts gX2_filter_X2_measure rfl rfl rfl (by decide +kernel) ⟨Nat.le_of_ble_eq_true rfl, Nat.le_of_ble_eq_true rfl⟩) ⟨fun a U g mk q => by obtain ⟨q0, q1, qP, qK, qD, qZ, qN⟩ := q; exact ⟨q0, q1, qP, va_K.moved (u := U) (U := U.calling g mk a) (Vm.Alike.refl U.vm) qK, qD, sF.moved (u := U) (U := U.calling g mk a) (Vm.Alike.refl U.vm) qZ, nF.same rfl qN⟩, va_recv hK hP (ci := 2) (q0 := a) rfl (wld_o ct ad G s7.2 hc hk (by decide)), fun U hU hW => ⟨rfl, by rw [hU], by rw [hU]; exact hP, va_K.moved hW.alike hK, hD.weaken (fun _ _ _ _ => trivial), by rw [hU]; exact ((hZ.kept hS.2.1).narrow hf9).moved hW.alike, hN.warm hW⟩⟩ rfl rfl hl.1 rfl (lv_room (Nat.le_of_ble_eq_true rfl)) dX2_filter_24 ⟨(Nat.zero_le _), (Nat.zero_le _)⟩) hS (fun q _ h => hf9 q h) hf9 (fun u t H locs ht hvm hw hB hz1 hk1 hS => ?_)
    obtain ⟨hP, hK9, hD9⟩ := hB
    rw [ht] at hP
    have hD := hD9.weaken (fun _ q _ h => hf9 q.1 h)
    refine lv_iconst (v := (0 : Int32)) hx hb dX2_filter_27 (by decide) ?_
    refine lv_istore_n (lv' := [(3, .int (0 : Int32)), (2, .int s7.1), (0, .ref (ad a)), (1, va_re ad p0)]) hx hb dX2_filter_28 rfl hl (by decide) rfl (fun ls hl => ?_)
    obtain ⟨y13, hy13, hF⟩ := bnd_some hF
    have K13 : ∀ (H : Heap) (locs : List Loc) (ls : Array Slot), va_P D classes (wld ct ad G y13.2) H → va_D A (wld ct ad G y13.2) → va_S A s.heap H locs → lv_has ls 6 [(3, .int y13.1), (2, .int s7.1), (0, .ref (ad a)), (1, va_re ad p0)] → W p l e (headSpec wsX2_filter ({ frames := 4, cells := 0, slots := 0, locals := 111 })).room s m ([.ref (ad a), va_re ad p0] : List Value).toArray below meth c H locs 0 0 (MQ below (va_Qv (fun (_ : Unit) => True) (fun _ t => kE D ct ad G A y t) A) ([.ref (ad a), va_re ad p0] : List Value).toArray s 0 0 A) (F0 m 89 ls []) := by
      intro H locs ls hP hD hS hl
      obtain ⟨x16, ex16, hF⟩ := ltt_some hF
      refine lv_iinc (v := x16) (lv' := [(2, .int x16), (3, .int y13.1), (0, .ref (ad a)), (1, va_re ad p0)]) hx hb dX2_filter_89 hl (k := 1) rfl (by rw [ex16]; rfl) (by decide) (by generalize p0 = o9; cases o9 <;> rfl) (fun ls hl => ?_)
      refine lv_goto (tgt := 13) hx hb dX2_filter_92 (by decide) ?_
      obtain rfl := Option.some.inj hF
      exact hwz9 _ _ _ hP hD hS (lv_sub hl [0, 2, 3] rfl)
    clear hF
    refine itr_rule (fun (s14 : Int32 × DD) => ∀ (H : Heap) (locs : List Loc) (ls : Array Slot), va_P D classes (wld ct ad G s14.2) H → va_D A (wld ct ad G s14.2) → va_S A s.heap H locs → lv_has ls 6 [(3, .int s14.1), (2, .int s7.1), (0, .ref (ad a)), (1, va_re ad p0)] → W p l e (headSpec wsX2_filter ({ frames := 4, cells := 0, slots := 0, locals := 111 })).room s m ([.ref (ad a), va_re ad p0] : List Value).toArray below meth c H locs 0 0 (MQ below (va_Qv (fun (_ : Unit) => True) (fun _ t => kE D ct ad G A y t) A) ([.ref (ad a), va_re ad p0] : List Value).toArray s 0 0 A) (F0 m 29 ls [])) ?_ _ _ hy13 _ _ _ hP hD hS (lv_sub hl [0, 1, 2, 3] rfl)
    rintro s14 ⟨z17, hF, hwz17⟩ H locs ls hP hD hS hl
    try dsimp only at hF
    refine lv_iload_n hx hb dX2_filter_29 rfl (lv_at hl 0 rfl) ?_
    refine lv_iconst (v := (3 : Int32)) hx hb dX2_filter_30 (by decide) ?_
    refine lv_icmp_ge (tgt := 89) hx hb dX2_filter_31 (by decide) (fun c18 => ?_) (fun c18 => ?_)
    · rw [if_pos c18] at hF
      obtain rfl := Option.some.inj hF
      subst hwz17
      exact K13 _ _ _ hP hD hS (lv_sub hl [0, 1, 2, 3] rfl)
    · rw [if_neg c18] at hF
      refine lv_iconst (v := (0 : Int32)) hx hb dX2_filter_34 (by decide) ?_
      refine lv_istore (lv' := [(4, .int (0 : Int32)), (3, .int s14.1), (2, .int s7.1), (0, .ref (ad a)), (1, va_re ad p0)]) hx hb dX2_filter_35 hl (by decide) rfl (fun ls hl => ?_)
      obtain ⟨y19, hy19, hF⟩ := bnd_some hF
      have K19 : ∀ (H : Heap) (locs : List Loc) (ls : Array Slot), va_P D classes (wld ct ad G y19.2) H → va_D A (wld ct ad G y19.2) → va_S A s.heap H locs → lv_has ls 6 [(4, .int y19.1), (3, .int s14.1), (2, .int s7.1), (0, .ref (ad a)), (1, va_re ad p0)] → W p l e (headSpec wsX2_filter ({ frames := 4, cells := 0, slots := 0, locals := 111 })).room s m ([.ref (ad a), va_re ad p0] : List Value).toArray below meth c H locs 0 0 (MQ below (va_Qv (fun (_ : Unit) => True) (fun _ t => kE D ct ad G A y t) A) ([.ref (ad a), va_re ad p0] : List Value).toArray s 0 0 A) (F0 m 83 ls []) := by
        intro H locs ls hP hD hS hl
        obtain ⟨x22, ex22, hF⟩ := ltt_some hF
        refine lv_iinc (v := x22) (lv' := [(3, .int x22), (4, .int y19.1), (2, .int s7.1), (0, .ref (ad a)), (1, va_re ad p0)]) hx hb dX2_filter_83 hl (k := 1) rfl (by rw [ex22]; rfl) (by decide) rfl (fun ls hl => ?_)
        refine lv_goto (tgt := 29) hx hb dX2_filter_86 (by decide) ?_
        obtain rfl := Option.some.inj hF
        exact hwz17 _ _ _ hP hD hS (lv_sub hl [0, 2, 3, 4] rfl)
      clear hF
      refine itr_rule (fun (s20 : Int32 × DD) => ∀ (H : Heap) (locs : List Loc) (ls : Array Slot), va_P D classes (wld ct ad G s20.2) H → va_D A (wld ct ad G s20.2) → va_S A s.heap H locs → lv_has ls 6 [(4, .int s20.1), (3, .int s14.1), (2, .int s7.1), (0, .ref (ad a)), (1, va_re ad p0)] → W p l e (headSpec wsX2_filter ({ frames := 4, cells := 0, slots := 0, locals := 111 })).room s m ([.ref (ad a), va_re ad p0] : List Value).toArray below meth c H locs 0 0 (MQ below (va_Qv (fun (_ : Unit) => True) (fun _ t => kE D ct ad G A y t) A) ([.ref (ad a), va_re ad p0] : List Value).toArray s 0 0 A) (F0 m 37 ls [])) ?_ _ _ hy19 _ _ _ hP hD hS (lv_sub hl [0, 1, 2, 3, 4] rfl)
      rintro s20 ⟨z23, hF, hwz23⟩ H locs ls hP hD hS hl
      try dsimp only at hF
      refine lv_iload hx hb dX2_filter_37 (lv_at hl 0 rfl) ?_
      refine lv_iconst (v := (2 : Int32)) hx hb dX2_filter_39 (by decide) ?_
      refine lv_icmp_ge (tgt := 83) hx hb dX2_filter_40 (by decide) (fun c24 => ?_) (fun c24 => ?_)
      · rw [if_pos c24] at hF
        obtain rfl := Option.some.inj hF
        subst hwz23
        exact K19 _ _ _ hP hD hS (lv_sub hl [0, 1, 2, 3, 4] rfl)
      · rw [if_neg c24] at hF
        refine lv_iconst (v := (0 : Int32)) hx hb dX2_filter_43 (by decide) ?_
        refine lv_istore (lv' := [(5, .int (0 : Int32)), (4, .int s20.1), (3, .int s14.1), (2, .int s7.1), (0, .ref (ad a)), (1, va_re ad p0)]) hx hb dX2_filter_44 hl (by decide) rfl (fun ls hl => ?_)
        obtain ⟨y25, hy25, hF⟩ := bnd_some hF
        have K25 : ∀ (H : Heap) (locs : List Loc) (ls : Array Slot), va_P D classes (wld ct ad G y25.2) H → va_D A (wld ct ad G y25.2) → va_S A s.heap H locs → lv_has ls 6 [(5, .int y25.1), (4, .int s20.1), (3, .int s14.1), (2, .int s7.1), (0, .ref (ad a)), (1, va_re ad p0)] → W p l e (headSpec wsX2_filter ({ frames := 4, cells := 0, slots := 0, locals := 111 })).room s m ([.ref (ad a), va_re ad p0] : List Value).toArray below meth c H locs 0 0 (MQ below (va_Qv (fun (_ : Unit) => True) (fun _ t => kE D ct ad G A y t) A) ([.ref (ad a), va_re ad p0] : List Value).toArray s 0 0 A) (F0 m 77 ls []) := by
          intro H locs ls hP hD hS hl
          obtain ⟨x28, ex28, hF⟩ := ltt_some hF
          refine lv_iinc (v := x28) (lv' := [(4, .int x28), (5, .int y25.1), (3, .int s14.1), (2, .int s7.1), (0, .ref (ad a)), (1, va_re ad p0)]) hx hb dX2_filter_77 hl (k := 1) rfl (by rw [ex28]; rfl) (by decide) rfl (fun ls hl => ?_)
          refine lv_goto (tgt := 37) hx hb dX2_filter_80 (by decide) ?_
          obtain rfl := Option.some.inj hF
          exact hwz23 _ _ _ hP hD hS (lv_sub hl [0, 2, 3, 4, 5] rfl)
        clear hF
        refine itr_rule (fun (s26 : Int32 × DD) => ∀ (H : Heap) (locs : List Loc) (ls : Array Slot), va_P D classes (wld ct ad G s26.2) H → va_D A (wld ct ad G s26.2) → va_S A s.heap H locs → lv_has ls 6 [(5, .int s26.1), (4, .int s20.1), (3, .int s14.1), (2, .int s7.1), (0, .ref (ad a)), (1, va_re ad p0)] → W p l e (headSpec wsX2_filter ({ frames := 4, cells := 0, slots := 0, locals := 111 })).room s m ([.ref (ad a), va_re ad p0] : List Value).toArray below meth c H locs 0 0 (MQ below (va_Qv (fun (_ : Unit) => True) (fun _ t => kE D ct ad G A y t) A) ([.ref (ad a), va_re ad p0] : List Value).toArray s 0 0 A) (F0 m 46 ls [])) ?_ _ _ hy25 _ _ _ hP hD hS (lv_sub hl [0, 1, 2, 3, 4, 5] rfl)
        rintro s26 ⟨z29, hF, hwz29⟩ H locs ls hP hD hS hl
        try dsimp only at hF
        refine lv_iload hx hb dX2_filter_46 (lv_at hl 0 rfl) ?_
        refine lv_iload_n hx hb dX2_filter_48 rfl (lv_at hl 2 rfl) ?_
        obtain ⟨y30, hy30, hF⟩ := bnd_some hF
        have J30 : ∀ (H : Heap) (locs : List Loc) (ls : Array Slot), va_P D classes (wld ct ad G s26.2) H → va_D A (wld ct ad G s26.2) → va_S A s.heap H locs → lv_has ls 6 [(5, .int s26.1), (4, .int s20.1), (3, .int s14.1), (2, .int s7.1), (0, .ref (ad a)), (1, va_re ad p0)] → W p l e (headSpec wsX2_filter ({ frames := 4, cells := 0, slots := 0, locals := 111 })).room s m ([.ref (ad a), va_re ad p0] : List Value).toArray below meth c H locs 0 0 (MQ below (va_Qv (fun (_ : Unit) => True) (fun _ t => kE D ct ad G A y t) A) ([.ref (ad a), va_re ad p0] : List Value).toArray s 0 0 A) (F0 m 57 ls [.int y30, .int s26.1]) := by
          intro H locs ls hP hD hS hl
          refine lv_icmp_ge (tgt := 77) hx hb dX2_filter_57 (by decide) (fun c31 => ?_) (fun c31 => ?_)
          · rw [if_pos c31] at hF
            obtain rfl := Option.some.inj hF
            subst hwz29
            exact K25 _ _ _ hP hD hS (lv_sub hl [0, 1, 2, 3, 4, 5] rfl)
          · rw [if_neg c31] at hF
            refine lv_aload_n hx hb dX2_filter_60 rfl (lv_at hl 4 rfl) ?_
            refine lv_aloadq_n hx hb dX2_filter_61 rfl (lv_at hl 5 rfl) ?_
            refine lv_iload_n hx hb dX2_filter_62 rfl (lv_at hl 3 rfl) ?_
            refine lv_iload_n hx hb dX2_filter_63 rfl (lv_at hl 2 rfl) ?_
            refine lv_iload hx hb dX2_filter_64 (lv_at hl 1 rfl) ?_
            refine lv_iload hx hb dX2_filter_66 (lv_at hl 0 rfl) ?_
            obtain ⟨y32, hy32, hF⟩ := bnd_some hF
            have hf9 := wA_in hD hA9 hS
            refine va_callv (va_runV (As := [va_re ad p0, .int s7.1, .int s14.1, .int s20.1, .int s26.1]) (rest := []) ⟨hx, hb, hml, hown, hts⟩ (kX2_filterEdge l D ct ad Z G s26.2 H.size a p0 s7.1 s14.1 s20.1 s26.1 y32 hc hk hy32) (cwV 5 hts gX2_filter_X2_filterEdge rfl rfl rfl (by decide +kernel) ⟨Nat.le_of_ble_eq_true rfl, Nat.le_of_ble_eq_true rfl⟩) ⟨fun a U g mk q => by obtain ⟨q0, q1, qP, qK, qD, qZ, qN⟩ := q; exact ⟨q0, q1, qP, va_K.moved (u := U) (U := U.calling g mk a) (Vm.Alike.refl U.vm) qK, qD, sF.moved (u := U) (U := U.calling g mk a) (Vm.Alike.refl U.vm) qZ, nF.same rfl qN⟩, va_recv hK hP (ci := 2) (q0 := a) rfl (wld_o ct ad G s26.2 hc hk (by decide)), fun U hU hW => ⟨rfl, by rw [hU], by rw [hU]; exact hP, va_K.moved hW.alike hK, hD.weaken (fun _ _ _ _ => trivial), by rw [hU]; exact ((hZ.kept hS.2.1).narrow hf9).moved hW.alike, hN.warm hW⟩⟩ rfl rfl hl.1 rfl (lv_room (Nat.le_of_ble_eq_true rfl)) dX2_filter_68 ⟨(Nat.zero_le _), (Nat.zero_le _)⟩) hS (fun q _ h => hf9 q h) hf9 (fun u t H locs ht hvm hw hB hz1 hk1 hS => ?_)
            obtain ⟨hP, hK9, hD9⟩ := hB
            rw [ht] at hP
            have hD := hD9.weaken (fun _ q _ h => hf9 q.1 h)
            obtain ⟨x33, ex33, hF⟩ := ltt_some hF
            refine lv_iinc (v := x33) (lv' := [(5, .int x33), (4, .int s20.1), (3, .int s14.1), (2, .int s7.1), (0, .ref (ad a)), (1, va_re ad p0)]) hx hb dX2_filter_71 hl (k := 0) rfl (by rw [ex33]; rfl) (by decide) rfl (fun ls hl => ?_)
            refine lv_goto (tgt := 46) hx hb dX2_filter_74 (by decide) ?_
            obtain rfl := Option.some.inj hF
            exact hwz29 _ _ _ hP hD hS (lv_sub hl [0, 1, 2, 3, 4, 5] rfl)
        clear hF
        have hF := hy30
        clear hy30
        refine lv_if_ne (tgt := 56) hx hb dX2_filter_49 (by decide) (fun c34 => ?_) (fun c34 => ?_)
        · rw [if_neg c34] at hF
          refine lv_iconst (v := (2 : Int32)) hx hb dX2_filter_56 (by decide) ?_
          obtain rfl := Option.some.inj hF
          exact J30 _ _ _ hP hD hS (lv_sub hl [0, 1, 2, 3, 4, 5] rfl)
        · rw [if_pos c34] at hF
          refine lv_iconst (v := (4 : Int32)) hx hb dX2_filter_52 (by decide) ?_
          refine lv_goto (tgt := 57) hx hb dX2_filter_53 (by decide) ?_
          obtain rfl := Option.some.inj hF
          exact J30 _ _ _ hP hD hS (lv_sub hl [0, 1, 2, 3, 4, 5] rfl)
theorem ggX9_begin_X9_clearBlock : GoodIn wsX9_begin wsX9_clearBlock := goodIn_r _ [7, 8, 9, 10, 11, 12, 13, 14, 15, 16, 17, 18, 19, 20, 21, 22, 23, 24, 6, 25, 26, 27, 28, 29, 1, 30, 31, 32, 33, 34, 35, 36, 37, 38, 39, 40, 41, 42, 43, 44, 45, 46, 47, 48, 49, 50, 51, 52, 53, 54, 55, 56, 57, 58, 59, 60, 61, 62, 63, 64, 65, 66, 67, 68, 69, 70, 71, 72, 73, 74, 75, 76, 77, 78] (by decide +kernel) (by decide +kernel)
set_option maxRecDepth 20000 in
theorem gX9_begin_X9_clearBlock : GoodIn wsX9_begin (wsV RX9 59 RX9 yX9_clearBlock wsX9_clearBlock) := goodIn_app (goodIn_of _ (by decide +kernel)) ggX9_begin_X9_clearBlock
theorem dX9_begin_0 : decode cX9_begin 0 = .ok (.aload_n 0, 1) := by decide +kernel
theorem dX9_begin_1 : decode cX9_begin 1 = .ok (.aload_n 1, 1) := by decide +kernel
theorem dX9_begin_2 : decode cX9_begin 2 = .ok (.putfield 51, 3) := by decide +kernel
theorem dX9_begin_5 : decode cX9_begin 5 = .ok (.aload_n 0, 1) := by decide +kernel
theorem dX9_begin_6 : decode cX9_begin 6 = .ok (.iconst (-1), 1) := by decide +kernel
theorem dX9_begin_7 : decode cX9_begin 7 = .ok (.putfield 55, 3) := by decide +kernel
theorem dX9_begin_10 : decode cX9_begin 10 = .ok (.iconst 0, 1) := by decide +kernel
theorem dX9_begin_11 : decode cX9_begin 11 = .ok (.istore_n 2, 1) := by decide +kernel
theorem dX9_begin_12 : decode cX9_begin 12 = .ok (.iload_n 2, 1) := by decide +kernel
theorem dX9_begin_13 : decode cX9_begin 13 = .ok (.bipush 32, 2) := by decide +kernel
theorem dX9_begin_15 : decode cX9_begin 15 = .ok (.if_icmp .ge 14, 3) := by decide +kernel
theorem dX9_begin_18 : decode cX9_begin 18 = .ok (.aload_n 0, 1) := by decide +kernel
theorem dX9_begin_19 : decode cX9_begin 19 = .ok (.iload_n 2, 1) := by decide +kernel
theorem dX9_begin_20 : decode cX9_begin 20 = .ok (.invokevirtual 59, 3) := by decide +kernel
theorem dX9_begin_23 : decode cX9_begin 23 = .ok (.iinc 2 1, 3) := by decide +kernel
theorem dX9_begin_26 : decode cX9_begin 26 = .ok (.goto (-14), 3) := by decide +kernel
theorem dX9_begin_29 : decode cX9_begin 29 = .ok (.return_, 1) := by decide +kernel
def FX9_begin (G : GG) (M : DD) (a : Nat) (p0 : Option Nat) : Option (DD) :=
  ltt (uP M a 0 p0) fun M1 =>
  ltt (uI M1 a 11 ((-1 : Int32))) fun M2 =>
  bnd (itr (fun (s4 : Int32 × DD) => ((if ((32 : Int32)) ≤ s4.1 then (some (.inr (s4.1, s4.2))) else
  (bnd (FX9_clearBlock G s4.2 a s4.1) fun y8 =>
  ltt (s4.1 + (1 : Int32)) fun x9 =>
  some (.inl (x9, y8)))) : Option ((Int32 × DD) ⊕ (Int32 × DD)))) 1000000 ((0 : Int32), M2)) fun (y3 : Int32 × DD) =>
  some y3.2
set_option maxHeartbeats 4000000 in
set_option maxRecDepth 100000 in
theorem kX9_begin (l : Launch) (D : va_G) (ct : CT) (ad : Nat → Nat) (Z : Nat → Nat) (G : GG) (M : DD) (sz : Nat) (a : Nat) (p0 : Option Nat) (y : DD) (hc : a < G.1) (hk : G.2.1 a = 9) (hF : FX9_begin G M a p0 = some y) : Met l yX9_begin wsX9_begin ({ frames := 4, cells := 0, slots := 0, locals := 90 }) (va_Pc [.ref (ad a), va_re ad p0] (kB D ct ad Z G M sz)) (va_Qv (fun (_ : Unit) => True) (fun _ t => kE D ct ad G (wA ad G sz) y t) (wA ad G sz)) 0 0 (wA ad G sz) := by
  refine Met.ofW (cc := cX9_begin) (maxL := 3) (ret := none) (by decide) rfl ?_
  intro p e s m args below meth c s₁ B hml hv
  obtain ⟨rfl, hsz, hP, hK, hD0, hZ, hN⟩ := hv
  have hx := B.exec
  have hb := B.bytes
  have hr := B.returns
  have hts := atoms_spec (ws := wsX9_begin) B.pre
  have hown : s.vm.findClass RX9 = some m.cls := findClass_of_methodNamed B.named
  have hlocks := B.notSynchronized
  subst hsz
  have hD := wD_self (sz := s.heap.size) hD0
  have hA9 : ∀ q, s.heap.size ≤ q → wA ad G s.heap.size q := fun q h => Or.inr h
  generalize hAe : wA ad G s.heap.size = A at hD hA9 hZ ⊢
  have hS : va_S A s.heap s.heap [] := va_S.rf
  have hl := lv_entry ([.ref (ad a), va_re ad p0]) (n := 3) (by cases p0 <;> exact Nat.le_of_ble_eq_true rfl)
  rw [lg_entry_eq]
  generalize (lg_sl ([.ref (ad a), va_re ad p0]) ++ List.replicate (3 - (lg_sl ([.ref (ad a), va_re ad p0])).length) Slot.unset).toArray = ls at hl ⊢
  have hl : lv_has ls 3 [(0, .ref (ad a)), (1, va_re ad p0)] := by have e9 : lv_args 0 [.ref (ad a), va_re ad p0] = [(0, .ref (ad a)), (1, va_re ad p0)] := (by cases p0 <;> rfl); rw [e9] at hl; exact hl
  unfold FX9_begin at hF
  refine lv_aload_n hx hb dX9_begin_0 rfl (lv_at hl 0 rfl) ?_
  refine lv_aloadq_n hx hb dX9_begin_1 rfl (lv_at hl 1 rfl) ?_
  refine va_put (D := D) (ci := 9) (v := va_re ad p0) (ty := (.object "VideoSuite$Picture")) (C := RX9) (T := TX9) (N := 20) hx hb hts (by decide +kernel) tyX9 tyX9_ok nmX9 hown hK hP hD hS a (wld_o ct ad G M hc hk (by decide)) rfl 0 (by decide) (hts (.fieldLink RX9 51 "VideoSuite$Work" "pic" "LVideoSuite$Picture;") (by decide +kernel)) (fun _ h9 => h9) rfl (by decide +kernel) (nar_q ad (Or.inl ⟨_, rfl⟩) p0).1 (nar_q ad (Or.inl ⟨_, rfl⟩) p0).2 (Nat.le_of_ble_eq_true rfl) dX9_begin_2 (fun H locs hP hD hS => ?_)
  obtain ⟨M1, eM1, hF⟩ := ltt_some hF
  rw [set_oP ct ad G M hc hk (by decide) (by rfl), ← eM1] at hP hD
  refine lv_aload_n hx hb dX9_begin_5 rfl (lv_at hl 0 rfl) ?_
  refine lv_iconst (v := (-1 : Int32)) hx hb dX9_begin_6 (by decide) ?_
  refine va_put (D := D) (ci := 9) (v := .int (-1 : Int32)) (ty := .int) (C := RX9) (T := TX9) (N := 20) hx hb hts (by decide +kernel) tyX9 tyX9_ok nmX9 hown hK hP hD hS a (wld_o ct ad G M1 hc hk (by decide)) rfl 11 (by decide) (hts (.fieldLink RX9 55 "VideoSuite$Work" "sliceNumber" "I") (by decide +kernel)) (fun _ h9 => h9) rfl (by decide +kernel) rfl rfl (Nat.le_of_ble_eq_true rfl) dX9_begin_7 (fun H locs hP hD hS => ?_)
  obtain ⟨M2, eM2, hF⟩ := ltt_some hF
  rw [set_oI ct ad G M1 hc hk (by decide) (by rfl), ← eM2] at hP hD
  refine lv_iconst (v := (0 : Int32)) hx hb dX9_begin_10 (by decide) ?_
  refine lv_istore_n (lv' := [(2, .int (0 : Int32)), (0, .ref (ad a)), (1, va_re ad p0)]) hx hb dX9_begin_11 rfl hl (by decide) (by generalize p0 = o9; cases o9 <;> rfl) (fun ls hl => ?_)
  obtain ⟨y3, hy3, hF⟩ := bnd_some hF
  have K3 : ∀ (H : Heap) (locs : List Loc) (ls : Array Slot), va_P D classes (wld ct ad G y3.2) H → va_D A (wld ct ad G y3.2) → va_S A s.heap H locs → lv_has ls 3 [(2, .int y3.1), (0, .ref (ad a)), (1, va_re ad p0)] → W p l e (headSpec wsX9_begin ({ frames := 4, cells := 0, slots := 0, locals := 90 })).room s m ([.ref (ad a), va_re ad p0] : List Value).toArray below meth c H locs 0 0 (MQ below (va_Qv (fun (_ : Unit) => True) (fun _ t => kE D ct ad G A y t) A) ([.ref (ad a), va_re ad p0] : List Value).toArray s 0 0 A) (F0 m 29 ls []) := by
    intro H locs ls hP hD hS hl
    obtain rfl := Option.some.inj hF
    exact W.vret hx hb hr (fun t ht hW => ⟨⟨(), rfl, trivial, ⟨by rw [ht]; exact hP, va_K.moved hW.alike hK, hD⟩⟩, hS.F ht⟩) hS.2.2 dX9_begin_29
  clear hF
  refine itr_rule (fun (s4 : Int32 × DD) => ∀ (H : Heap) (locs : List Loc) (ls : Array Slot), va_P D classes (wld ct ad G s4.2) H → va_D A (wld ct ad G s4.2) → va_S A s.heap H locs → lv_has ls 3 [(2, .int s4.1), (0, .ref (ad a)), (1, va_re ad p0)] → W p l e (headSpec wsX9_begin ({ frames := 4, cells := 0, slots := 0, locals := 90 })).room s m ([.ref (ad a), va_re ad p0] : List Value).toArray below meth c H locs 0 0 (MQ below (va_Qv (fun (_ : Unit) => True) (fun _ t => kE D ct ad G A y t) A) ([.ref (ad a), va_re ad p0] : List Value).toArray s 0 0 A) (F0 m 12 ls [])) ?_ _ _ hy3 _ _ _ hP hD hS (lv_sub hl [0, 1, 2] rfl)
  rintro s4 ⟨z6, hF, hwz6⟩ H locs ls hP hD hS hl
  try dsimp only at hF
  refine lv_iload_n hx hb dX9_begin_12 rfl (lv_at hl 0 rfl) ?_
  refine lv_bipush (v := (32 : Int32)) hx hb dX9_begin_13 (by decide) ?_
  refine lv_icmp_ge (tgt := 29) hx hb dX9_begin_15 (by decide) (fun c7 => ?_) (fun c7 => ?_)
  · rw [if_pos c7] at hF
    obtain rfl := Option.some.inj hF
    subst hwz6
    exact K3 _ _ _ hP hD hS (lv_sub hl [0, 1, 2] rfl)
  · rw [if_neg c7] at hF
    refine lv_aload_n hx hb dX9_begin_18 rfl (lv_at hl 1 rfl) ?_
    refine lv_iload_n hx hb dX9_begin_19 rfl (lv_at hl 0 rfl) ?_
    obtain ⟨y8, hy8, hF⟩ := bnd_some hF
    have hf9 := wA_in hD hA9 hS
    refine va_callv (va_runV (As := [.int s4.1]) (rest := []) ⟨hx, hb, hml, hown, hts⟩ (kX9_clearBlock l D ct ad Z G s4.2 H.size a s4.1 y8 hc hk hy8) (cwV 1 hts gX9_begin_X9_clearBlock rfl rfl rfl (by decide +kernel) ⟨Nat.le_of_ble_eq_true rfl, Nat.le_of_ble_eq_true rfl⟩) ⟨fun a U g mk q => by obtain ⟨q0, q1, qP, qK, qD, qZ, qN⟩ := q; exact ⟨q0, q1, qP, va_K.moved (u := U) (U := U.calling g mk a) (Vm.Alike.refl U.vm) qK, qD, sF.moved (u := U) (U := U.calling g mk a) (Vm.Alike.refl U.vm) qZ, nF.same rfl qN⟩, va_recv hK hP (ci := 9) (q0 := a) rfl (wld_o ct ad G s4.2 hc hk (by decide)), fun U hU hW => ⟨rfl, by rw [hU], by rw [hU]; exact hP, va_K.moved hW.alike hK, hD.weaken (fun _ _ _ _ => trivial), by rw [hU]; exact ((hZ.kept hS.2.1).narrow hf9).moved hW.alike, hN.warm hW⟩⟩ rfl rfl hl.1 rfl (lv_room (Nat.le_of_ble_eq_true rfl)) dX9_begin_20 ⟨(Nat.zero_le _), (Nat.zero_le _)⟩) hS (fun q _ h => hf9 q h) hf9 (fun u t H locs ht hvm hw hB hz1 hk1 hS => ?_)
    obtain ⟨hP, hK9, hD9⟩ := hB
    rw [ht] at hP
    have hD := hD9.weaken (fun _ q _ h => hf9 q.1 h)
    obtain ⟨x9, ex9, hF⟩ := ltt_some hF
    refine lv_iinc (v := x9) (lv' := [(2, .int x9), (0, .ref (ad a)), (1, va_re ad p0)]) hx hb dX9_begin_23 hl (k := 0) rfl (by rw [ex9]; rfl) (by decide) (by generalize p0 = o9; cases o9 <;> rfl) (fun ls hl => ?_)
    refine lv_goto (tgt := 12) hx hb dX9_begin_26 (by decide) ?_
    obtain rfl := Option.some.inj hF
    exact hwz6 _ _ _ hP hD hS (lv_sub hl [0, 1, 2] rfl)
theorem ggX0_beginTry_X9_begin : GoodIn wsX0_beginTry wsX9_begin := goodIn_r _ [11, 12, 13, 14, 15, 16, 10, 17, 18, 19, 20, 21, 22, 23, 24, 25, 26, 27, 28, 29, 30, 31, 32, 33, 34, 35, 36, 37, 38, 39, 40, 41, 42, 43, 44, 45, 46, 68, 69, 70, 71, 72, 73, 74, 75, 76, 77, 78, 79, 80, 81, 82, 83, 84, 85, 86, 87, 92, 93, 94, 95, 96, 97, 98, 99, 100, 101, 102, 103, 104, 105, 106, 107, 108, 109, 110, 111, 112, 113] (by decide +kernel) (by decide +kernel)
set_option maxRecDepth 20000 in
theorem gX0_beginTry_X9_begin : GoodIn wsX0_beginTry (wsV RX0 278 RX9 yX9_begin wsX9_begin) := goodIn_app (goodIn_of _ (by decide +kernel)) ggX0_beginTry_X9_begin
theorem dX0_beginTry_0 : decode cX0_beginTry 0 = .ok (.aload_n 0, 1) := by decide +kernel
theorem dX0_beginTry_1 : decode cX0_beginTry 1 = .ok (.getfield 36, 3) := by decide +kernel
theorem dX0_beginTry_4 : decode cX0_beginTry 4 = .ok (.getfield 81, 3) := by decide +kernel
theorem dX0_beginTry_7 : decode cX0_beginTry 7 = .ok (.getfield 252, 3) := by decide +kernel
theorem dX0_beginTry_10 : decode cX0_beginTry 10 = .ok (.bipush 12, 2) := by decide +kernel
theorem dX0_beginTry_12 : decode cX0_beginTry 12 = .ok (.iload_n 1, 1) := by decide +kernel
theorem dX0_beginTry_13 : decode cX0_beginTry 13 = .ok (.iastore, 1) := by decide +kernel
theorem dX0_beginTry_14 : decode cX0_beginTry 14 = .ok (.aload_n 0, 1) := by decide +kernel
theorem dX0_beginTry_15 : decode cX0_beginTry 15 = .ok (.dup, 1) := by decide +kernel
theorem dX0_beginTry_16 : decode cX0_beginTry 16 = .ok (.getfield 197, 3) := by decide +kernel
theorem dX0_beginTry_19 : decode cX0_beginTry 19 = .ok (.aload_n 0, 1) := by decide +kernel
theorem dX0_beginTry_20 : decode cX0_beginTry 20 = .ok (.getfield 23, 3) := by decide +kernel
theorem dX0_beginTry_23 : decode cX0_beginTry 23 = .ok (.iconst 0, 1) := by decide +kernel
theorem dX0_beginTry_24 : decode cX0_beginTry 24 = .ok (.iaload, 1) := by decide +kernel
theorem dX0_beginTry_25 : decode cX0_beginTry 25 = .ok (.aload_n 0, 1) := by decide +kernel
theorem dX0_beginTry_26 : decode cX0_beginTry 26 = .ok (.getfield 23, 3) := by decide +kernel
theorem dX0_beginTry_29 : decode cX0_beginTry 29 = .ok (.iconst 1, 1) := by decide +kernel
theorem dX0_beginTry_30 : decode cX0_beginTry 30 = .ok (.iaload, 1) := by decide +kernel
theorem dX0_beginTry_31 : decode cX0_beginTry 31 = .ok (.imul, 1) := by decide +kernel
theorem dX0_beginTry_32 : decode cX0_beginTry 32 = .ok (.iadd, 1) := by decide +kernel
theorem dX0_beginTry_33 : decode cX0_beginTry 33 = .ok (.putfield 197, 3) := by decide +kernel
theorem dX0_beginTry_36 : decode cX0_beginTry 36 = .ok (.aload_n 0, 1) := by decide +kernel
theorem dX0_beginTry_37 : decode cX0_beginTry 37 = .ok (.getfield 36, 3) := by decide +kernel
theorem dX0_beginTry_40 : decode cX0_beginTry 40 = .ok (.aload_n 0, 1) := by decide +kernel
theorem dX0_beginTry_41 : decode cX0_beginTry 41 = .ok (.getfield 36, 3) := by decide +kernel
theorem dX0_beginTry_44 : decode cX0_beginTry 44 = .ok (.getfield 266, 3) := by decide +kernel
theorem dX0_beginTry_47 : decode cX0_beginTry 47 = .ok (.invokevirtual 278, 3) := by decide +kernel
theorem dX0_beginTry_50 : decode cX0_beginTry 50 = .ok (.return_, 1) := by decide +kernel
def FX0_beginTry (G : GG) (M : DD) (a : Nat) (p0 : Int32) : Option (DD) :=
  dr G 9 ((M.2 a 3)) fun b2 =>
  dr G 3 ((M.2 b2 1)) fun b3 =>
  dr G 13 ((M.2 b3 0)) fun b4 =>
  chk (¬ (((12 : Int32)) < 0 ∨ G.2.2 b4 ≤ ((12 : Int32)).toNatClampNeg)) <|
  ltt (uI M b4 ((12 : Int32)).toNatClampNeg p0) fun M5 =>
  ltt (M5.1 a 18) fun x6 =>
  dr G 13 ((M5.2 a 1)) fun b7 =>
  chk (¬ (((0 : Int32)) < 0 ∨ G.2.2 b7 ≤ ((0 : Int32)).toNatClampNeg)) <|
  ltt (M5.1 b7 ((0 : Int32)).toNatClampNeg) fun x8 =>
  chk (¬ (((1 : Int32)) < 0 ∨ G.2.2 b7 ≤ ((1 : Int32)).toNatClampNeg)) <|
  ltt (M5.1 b7 ((1 : Int32)).toNatClampNeg) fun x9 =>
  ltt ((x8 * x9)) fun x10 =>
  ltt ((x6 + x10)) fun x11 =>
  ltt (uI M5 a 18 x11) fun M12 =>
  dr G 9 ((M12.2 a 3)) fun b13 =>
  bnd (FX9_begin G M12 b13 ((M12.2 b13 0))) fun y14 =>
  some y14
set_option maxHeartbeats 4000000 in
set_option maxRecDepth 100000 in
theorem kX0_beginTry (l : Launch) (D : va_G) (ct : CT) (ad : Nat → Nat) (Z : Nat → Nat) (G : GG) (M : DD) (sz : Nat) (a : Nat) (p0 : Int32) (y : DD) (hc : a < G.1) (hk : G.2.1 a = 0) (hF : FX0_beginTry G M a p0 = some y) : Met l yX0_beginTry wsX0_beginTry ({ frames := 5, cells := 0, slots := 0, locals := 112 }) (va_Pc [.ref (ad a), .int p0] (kB D ct ad Z G M sz)) (va_Qv (fun (_ : Unit) => True) (fun _ t => kE D ct ad G (wA ad G sz) y t) (wA ad G sz)) 0 0 (wA ad G sz) := by
  refine Met.ofW (cc := cX0_beginTry) (maxL := 2) (ret := none) (by decide) rfl ?_
  intro p e s m args below meth c s₁ B hml hv
  obtain ⟨rfl, hsz, hP, hK, hD0, hZ, hN⟩ := hv
  have hx := B.exec
  have hb := B.bytes
  have hr := B.returns
  have hts := atoms_spec (ws := wsX0_beginTry) B.pre
  have hown : s.vm.findClass RX0 = some m.cls := findClass_of_methodNamed B.named
  have hlocks := B.notSynchronized
  subst hsz
  have hD := wD_self (sz := s.heap.size) hD0
  have hA9 : ∀ q, s.heap.size ≤ q → wA ad G s.heap.size q := fun q h => Or.inr h
  generalize hAe : wA ad G s.heap.size = A at hD hA9 hZ ⊢
  have hS : va_S A s.heap s.heap [] := va_S.rf
  have hl := lv_entry ([.ref (ad a), .int p0]) (n := 2) (Nat.le_of_ble_eq_true rfl)
  rw [lg_entry_eq]
  generalize (lg_sl ([.ref (ad a), .int p0]) ++ List.replicate (2 - (lg_sl ([.ref (ad a), .int p0])).length) Slot.unset).toArray = ls at hl ⊢
  have hl : lv_has ls 2 [(0, .ref (ad a)), (1, .int p0)] := hl
  unfold FX0_beginTry at hF
  refine lv_aload_n hx hb dX0_beginTry_0 rfl (lv_at hl 0 rfl) ?_
  refine va_get (D := D) (ci := 0) (v := va_re ad (M.2 a 3)) (C := RX0) (T := TX0) (N := 21) hx hb hts (by decide +kernel) hown hK hP a (wld_o ct ad G M hc hk (by decide)) rfl 3 (by decide) (hts (.fieldLink RX0 36 "VideoSuite$Coder" "work" "LVideoSuite$Work;") (by decide +kernel)) (fun _ h9 => h9) rfl dX0_beginTry_1 ?_
  obtain ⟨b2, ho2, hc2, hk2, hF⟩ := dr_some hF
  refine W_st (st' := [.ref (ad b2)]) (by rw [va_some ho2]) ?_
  refine va_get (D := D) (ci := 9) (v := va_re ad (M.2 b2 1)) (C := RX9) (T := TX9) (N := 20) hx hb hts (by decide +kernel) hown hK hP b2 (wld_o ct ad G M hc2 hk2 (by decide)) rfl 1 (by decide) (hts (.fieldLink RX0 81 "VideoSuite$Work" "head" "LVideoSuite$Header;") (by decide +kernel)) (fun _ h9 => h9) rfl dX0_beginTry_4 ?_
  obtain ⟨b3, ho3, hc3, hk3, hF⟩ := dr_some hF
  refine W_st (st' := [.ref (ad b3)]) (by rw [va_some ho3]) ?_
  refine va_get (D := D) (ci := 3) (v := va_re ad (M.2 b3 0)) (C := RX3) (T := TX3) (N := 4) hx hb hts (by decide +kernel) hown hK hP b3 (wld_o ct ad G M hc3 hk3 (by decide)) rfl 0 (by decide) (hts (.fieldLink RX0 252 "VideoSuite$Header" "v" "[I") (by decide +kernel)) (fun _ h9 => h9) rfl dX0_beginTry_7 ?_
  refine lv_bipush (v := (12 : Int32)) hx hb dX0_beginTry_10 (by decide) ?_
  refine lv_iload_n hx hb dX0_beginTry_12 rfl (lv_at hl 1 rfl) ?_
  obtain ⟨b4, ho4, hc4, hk4, hF⟩ := dr_some hF
  refine W_st (st' := [.int p0, .int (12 : Int32), .ref (ad b4)]) (by rw [va_some ho4]) ?_
  obtain ⟨hvc, hF⟩ := chk_some hF
  refine va_iast hx hb hK hP hD hS b4 1 (wld_i ct ad G M hc4 hk4) rfl hvc dX0_beginTry_13 (fun H locs hP hD hS => ?_)
  obtain ⟨M5, eM5, hF⟩ := ltt_some hF
  rw [set_i ct ad G M hc4 hk4, ← eM5] at hP hD
  refine lv_aload_n hx hb dX0_beginTry_14 rfl (lv_at hl 0 rfl) ?_
  refine lv_dup hx hb dX0_beginTry_15 rfl ?_
  refine va_get (D := D) (ci := 0) (v := .int (M5.1 a 18)) (C := RX0) (T := TX0) (N := 21) hx hb hts (by decide +kernel) hown hK hP a (wld_o ct ad G M5 hc hk (by decide)) rfl 18 (by decide) (hts (.fieldLink RX0 197 "VideoSuite$Coder" "spent" "I") (by decide +kernel)) (fun _ h9 => h9) rfl dX0_beginTry_16 ?_
  obtain ⟨x6, ex6, hF⟩ := ltt_some hF
  refine lv_topi (fun zx6 ezx6 => ?_)
  obtain rfl : x6 = zx6 := ex6.trans ezx6.symm
  refine lv_aload_n hx hb dX0_beginTry_19 rfl (lv_at hl 0 rfl) ?_
  refine va_get (D := D) (ci := 0) (v := va_re ad (M5.2 a 1)) (C := RX0) (T := TX0) (N := 21) hx hb hts (by decide +kernel) hown hK hP a (wld_o ct ad G M5 hc hk (by decide)) rfl 1 (by decide) (hts (.fieldLink RX0 23 "VideoSuite$Coder" "now" "[I") (by decide +kernel)) (fun _ h9 => h9) rfl dX0_beginTry_20 ?_
  refine lv_iconst (v := (0 : Int32)) hx hb dX0_beginTry_23 (by decide) ?_
  obtain ⟨b7, ho7, hc7, hk7, hF⟩ := dr_some hF
  refine W_st (st' := [.int (0 : Int32), .ref (ad b7), .int x6, .ref (ad a)]) (by rw [va_some ho7]) ?_
  obtain ⟨hvc, hF⟩ := chk_some hF
  refine va_iald hx hb hK hP b7 1 (wld_i ct ad G M5 hc7 hk7) rfl hvc dX0_beginTry_24 ?_
  obtain ⟨x8, ex8, hF⟩ := ltt_some hF
  refine lv_topi (fun zx8 ezx8 => ?_)
  obtain rfl : x8 = zx8 := ex8.trans ezx8.symm
  refine lv_aload_n hx hb dX0_beginTry_25 rfl (lv_at hl 0 rfl) ?_
  refine va_get (D := D) (ci := 0) (v := va_re ad (M5.2 a 1)) (C := RX0) (T := TX0) (N := 21) hx hb hts (by decide +kernel) hown hK hP a (wld_o ct ad G M5 hc hk (by decide)) rfl 1 (by decide) (hts (.fieldLink RX0 23 "VideoSuite$Coder" "now" "[I") (by decide +kernel)) (fun _ h9 => h9) rfl dX0_beginTry_26 ?_
  refine lv_iconst (v := (1 : Int32)) hx hb dX0_beginTry_29 (by decide) ?_
  refine W_st (st' := [.int (1 : Int32), .ref (ad b7), .int x8, .int x6, .ref (ad a)]) (by rw [va_some ho7]) ?_
  obtain ⟨hvc, hF⟩ := chk_some hF
  refine va_iald hx hb hK hP b7 1 (wld_i ct ad G M5 hc7 hk7) rfl hvc dX0_beginTry_30 ?_
  obtain ⟨x9, ex9, hF⟩ := ltt_some hF
  refine lv_topi (fun zx9 ezx9 => ?_)
  obtain rfl : x9 = zx9 := ex9.trans ezx9.symm
  refine lv_imul hx hb dX0_beginTry_31 ?_
  obtain ⟨x10, ex10, hF⟩ := ltt_some hF
  refine lv_topi (fun zx10 ezx10 => ?_)
  obtain rfl : x10 = zx10 := ex10.trans ezx10.symm
  refine lv_iadd hx hb dX0_beginTry_32 ?_
  obtain ⟨x11, ex11, hF⟩ := ltt_some hF
  refine lv_topi (fun zx11 ezx11 => ?_)
  obtain rfl : x11 = zx11 := ex11.trans ezx11.symm
  refine va_put (D := D) (ci := 0) (v := .int x11) (ty := .int) (C := RX0) (T := TX0) (N := 21) hx hb hts (by decide +kernel) tyX0 tyX0_ok nmX0 hown hK hP hD hS a (wld_o ct ad G M5 hc hk (by decide)) rfl 18 (by decide) (hts (.fieldLink RX0 197 "VideoSuite$Coder" "spent" "I") (by decide +kernel)) (fun _ h9 => h9) rfl (by decide +kernel) rfl rfl (Nat.le_of_ble_eq_true rfl) dX0_beginTry_33 (fun H locs hP hD hS => ?_)
  obtain ⟨M12, eM12, hF⟩ := ltt_some hF
  rw [set_oI ct ad G M5 hc hk (by decide) (by rfl), ← eM12] at hP hD
  refine lv_aload_n hx hb dX0_beginTry_36 rfl (lv_at hl 0 rfl) ?_
  refine va_get (D := D) (ci := 0) (v := va_re ad (M12.2 a 3)) (C := RX0) (T := TX0) (N := 21) hx hb hts (by decide +kernel) hown hK hP a (wld_o ct ad G M12 hc hk (by decide)) rfl 3 (by decide) (hts (.fieldLink RX0 36 "VideoSuite$Coder" "work" "LVideoSuite$Work;") (by decide +kernel)) (fun _ h9 => h9) rfl dX0_beginTry_37 ?_
  refine lv_aload_n hx hb dX0_beginTry_40 rfl (lv_at hl 0 rfl) ?_
  refine va_get (D := D) (ci := 0) (v := va_re ad (M12.2 a 3)) (C := RX0) (T := TX0) (N := 21) hx hb hts (by decide +kernel) hown hK hP a (wld_o ct ad G M12 hc hk (by decide)) rfl 3 (by decide) (hts (.fieldLink RX0 36 "VideoSuite$Coder" "work" "LVideoSuite$Work;") (by decide +kernel)) (fun _ h9 => h9) rfl dX0_beginTry_41 ?_
  obtain ⟨b13, ho13, hc13, hk13, hF⟩ := dr_some hF
  refine W_st (st' := [.ref (ad b13), .ref (ad b13)]) (by rw [va_some ho13]) ?_
  refine va_get (D := D) (ci := 9) (v := va_re ad (M12.2 b13 0)) (C := RX9) (T := TX9) (N := 20) hx hb hts (by decide +kernel) hown hK hP b13 (wld_o ct ad G M12 hc13 hk13 (by decide)) rfl 0 (by decide) (hts (.fieldLink RX0 266 "VideoSuite$Work" "pic" "LVideoSuite$Picture;") (by decide +kernel)) (fun _ h9 => h9) rfl dX0_beginTry_44 ?_
  obtain ⟨y14, hy14, hF⟩ := bnd_some hF
  have hf9 := wA_in hD hA9 hS
  refine va_callv (va_runV (As := [va_re ad (M12.2 b13 0)]) (rest := []) ⟨hx, hb, hml, hown, hts⟩ (kX9_begin l D ct ad Z G M12 H.size b13 ((M12.2 b13 0)) y14 hc13 hk13 hy14) (cwV 1 hts gX0_beginTry_X9_begin rfl rfl rfl (by decide +kernel) ⟨Nat.le_of_ble_eq_true rfl, Nat.le_of_ble_eq_true rfl⟩) ⟨fun a U g mk q => by obtain ⟨q0, q1, qP, qK, qD, qZ, qN⟩ := q; exact ⟨q0, q1, qP, va_K.moved (u := U) (U := U.calling g mk a) (Vm.Alike.refl U.vm) qK, qD, sF.moved (u := U) (U := U.calling g mk a) (Vm.Alike.refl U.vm) qZ, nF.same rfl qN⟩, va_recv hK hP (ci := 9) (q0 := b13) rfl (wld_o ct ad G M12 hc13 hk13 (by decide)), fun U hU hW => ⟨rfl, by rw [hU], by rw [hU]; exact hP, va_K.moved hW.alike hK, hD.weaken (fun _ _ _ _ => trivial), by rw [hU]; exact ((hZ.kept hS.2.1).narrow hf9).moved hW.alike, hN.warm hW⟩⟩ rfl rfl hl.1 rfl (lv_room (Nat.le_of_ble_eq_true rfl)) dX0_beginTry_47 ⟨(Nat.zero_le _), (Nat.zero_le _)⟩) hS (fun q _ h => hf9 q h) hf9 (fun u t H locs ht hvm hw hB hz1 hk1 hS => ?_)
  obtain ⟨hP, hK9, hD9⟩ := hB
  rw [ht] at hP
  have hD := hD9.weaken (fun _ q _ h => hf9 q.1 h)
  obtain rfl := Option.some.inj hF
  exact W.vret hx hb hr (fun t ht hW => ⟨⟨(), rfl, trivial, ⟨by rw [ht]; exact hP, va_K.moved hW.alike hK, hD⟩⟩, hS.F ht⟩) hS.2.2 dX0_beginTry_50
