theorem ggX0_beginSlice_X7_makeLists : GoodIn wsX0_beginSlice wsX7_makeLists := goodIn_r _ [13, 14, 15, 16, 17, 18, 19, 12, 20, 21, 22, 23, 24, 25, 26, 27, 28, 29, 30, 31, 32, 33, 34, 35, 36, 37, 38, 39, 40, 74, 75, 76, 77, 78, 79, 80, 81, 82, 83, 84, 85, 86, 87, 88, 89, 90, 91, 92, 93, 94, 95, 96, 97, 118, 119, 120, 121, 122, 123, 124, 125, 126, 127, 128, 129, 130, 131, 132, 133, 134, 135, 136, 137, 138, 139, 140, 141, 142, 143, 144, 145, 146, 147, 148, 149, 150, 151, 152] (by decide +kernel) (by decide +kernel)
set_option maxRecDepth 20000 in
theorem gX0_beginSlice_X7_makeLists : GoodIn wsX0_beginSlice (wsV RX0 305 RX7 yX7_makeLists wsX7_makeLists) := goodIn_app (goodIn_of _ (by decide +kernel)) ggX0_beginSlice_X7_makeLists
set_option maxRecDepth 20000 in
theorem ggX0_beginSlice_X10_beginUnit : GoodIn wsX0_beginSlice wsX10_beginUnit := goodIn_r _ [45, 46, 47, 48, 49, 50, 51, 52, 98, 99, 100, 101, 102, 103, 104, 105, 106, 107, 108, 109, 110, 111, 112, 113, 114, 115, 116, 117] (by decide +kernel) (by decide +kernel)
set_option maxRecDepth 20000 in
theorem gX0_beginSlice_X10_beginUnit : GoodIn wsX0_beginSlice (wsV RX0 154 RX10 yX10_beginUnit wsX10_beginUnit) := goodIn_app (goodIn_of _ (by decide +kernel)) ggX0_beginSlice_X10_beginUnit
theorem dX0_beginSlice_0 : decode cX0_beginSlice 0 = .ok (.aload_n 0, 1) := by decide +kernel
theorem dX0_beginSlice_1 : decode cX0_beginSlice 1 = .ok (.getfield 36, 3) := by decide +kernel
theorem dX0_beginSlice_4 : decode cX0_beginSlice 4 = .ok (.getfield 81, 3) := by decide +kernel
theorem dX0_beginSlice_7 : decode cX0_beginSlice 7 = .ok (.getfield 252, 3) := by decide +kernel
theorem dX0_beginSlice_10 : decode cX0_beginSlice 10 = .ok (.astore_n 2, 1) := by decide +kernel
theorem dX0_beginSlice_11 : decode cX0_beginSlice 11 = .ok (.aload_n 2, 1) := by decide +kernel
theorem dX0_beginSlice_12 : decode cX0_beginSlice 12 = .ok (.iconst 0, 1) := by decide +kernel
theorem dX0_beginSlice_13 : decode cX0_beginSlice 13 = .ok (.iload_n 1, 1) := by decide +kernel
theorem dX0_beginSlice_14 : decode cX0_beginSlice 14 = .ok (.iastore, 1) := by decide +kernel
theorem dX0_beginSlice_15 : decode cX0_beginSlice 15 = .ok (.aload_n 0, 1) := by decide +kernel
theorem dX0_beginSlice_16 : decode cX0_beginSlice 16 = .ok (.aload_n 2, 1) := by decide +kernel
theorem dX0_beginSlice_17 : decode cX0_beginSlice 17 = .ok (.bipush 12, 2) := by decide +kernel
theorem dX0_beginSlice_19 : decode cX0_beginSlice 19 = .ok (.iaload, 1) := by decide +kernel
theorem dX0_beginSlice_20 : decode cX0_beginSlice 20 = .ok (.putfield 299, 3) := by decide +kernel
theorem dX0_beginSlice_23 : decode cX0_beginSlice 23 = .ok (.aload_n 0, 1) := by decide +kernel
theorem dX0_beginSlice_24 : decode cX0_beginSlice 24 = .ok (.getfield 36, 3) := by decide +kernel
theorem dX0_beginSlice_27 : decode cX0_beginSlice 27 = .ok (.dup, 1) := by decide +kernel
theorem dX0_beginSlice_28 : decode cX0_beginSlice 28 = .ok (.getfield 302, 3) := by decide +kernel
theorem dX0_beginSlice_31 : decode cX0_beginSlice 31 = .ok (.iconst 1, 1) := by decide +kernel
theorem dX0_beginSlice_32 : decode cX0_beginSlice 32 = .ok (.iadd, 1) := by decide +kernel
theorem dX0_beginSlice_33 : decode cX0_beginSlice 33 = .ok (.putfield 302, 3) := by decide +kernel
theorem dX0_beginSlice_36 : decode cX0_beginSlice 36 = .ok (.aload_n 0, 1) := by decide +kernel
theorem dX0_beginSlice_37 : decode cX0_beginSlice 37 = .ok (.getfield 57, 3) := by decide +kernel
theorem dX0_beginSlice_40 : decode cX0_beginSlice 40 = .ok (.aload_n 0, 1) := by decide +kernel
theorem dX0_beginSlice_41 : decode cX0_beginSlice 41 = .ok (.getfield 36, 3) := by decide +kernel
theorem dX0_beginSlice_44 : decode cX0_beginSlice 44 = .ok (.sipush 256, 3) := by decide +kernel
theorem dX0_beginSlice_47 : decode cX0_beginSlice 47 = .ok (.invokevirtual 305, 3) := by decide +kernel
theorem dX0_beginSlice_50 : decode cX0_beginSlice 50 = .ok (.aload_n 0, 1) := by decide +kernel
theorem dX0_beginSlice_51 : decode cX0_beginSlice 51 = .ok (.getfield 29, 3) := by decide +kernel
theorem dX0_beginSlice_54 : decode cX0_beginSlice 54 = .ok (.aload_n 2, 1) := by decide +kernel
theorem dX0_beginSlice_55 : decode cX0_beginSlice 55 = .ok (.bipush 11, 2) := by decide +kernel
theorem dX0_beginSlice_57 : decode cX0_beginSlice 57 = .ok (.iaload, 1) := by decide +kernel
theorem dX0_beginSlice_58 : decode cX0_beginSlice 58 = .ok (.iconst 5, 1) := by decide +kernel
theorem dX0_beginSlice_59 : decode cX0_beginSlice 59 = .ok (.ishl, 1) := by decide +kernel
theorem dX0_beginSlice_60 : decode cX0_beginSlice 60 = .ok (.aload_n 2, 1) := by decide +kernel
theorem dX0_beginSlice_61 : decode cX0_beginSlice 61 = .ok (.bipush 18, 2) := by decide +kernel
theorem dX0_beginSlice_63 : decode cX0_beginSlice 63 = .ok (.iaload, 1) := by decide +kernel
theorem dX0_beginSlice_64 : decode cX0_beginSlice 64 = .ok (.ior, 1) := by decide +kernel
theorem dX0_beginSlice_65 : decode cX0_beginSlice 65 = .ok (.invokevirtual 154, 3) := by decide +kernel
theorem dX0_beginSlice_68 : decode cX0_beginSlice 68 = .ok (.aload_n 0, 1) := by decide +kernel
theorem dX0_beginSlice_69 : decode cX0_beginSlice 69 = .ok (.getfield 29, 3) := by decide +kernel
theorem dX0_beginSlice_72 : decode cX0_beginSlice 72 = .ok (.iconst 0, 1) := by decide +kernel
theorem dX0_beginSlice_73 : decode cX0_beginSlice 73 = .ok (.putfield 309, 3) := by decide +kernel
theorem dX0_beginSlice_76 : decode cX0_beginSlice 76 = .ok (.return_, 1) := by decide +kernel
def FX0_beginSlice (G : GG) (M : DD) (a : Nat) (p0 : Int32) : Option (DD) :=
  dr G 9 ((M.2 a 3)) fun b2 =>
  dr G 3 ((M.2 b2 1)) fun b3 =>
  dr G 13 ((M.2 b3 0)) fun b4 =>
  chk (¬ (((0 : Int32)) < 0 ∨ G.2.2 b4 ≤ ((0 : Int32)).toNatClampNeg)) <|
  ltt (uI M b4 ((0 : Int32)).toNatClampNeg p0) fun M5 =>
  chk (¬ (((12 : Int32)) < 0 ∨ G.2.2 b4 ≤ ((12 : Int32)).toNatClampNeg)) <|
  ltt (M5.1 b4 ((12 : Int32)).toNatClampNeg) fun x6 =>
  ltt (uI M5 a 19 x6) fun M7 =>
  dr G 9 ((M7.2 a 3)) fun b8 =>
  ltt (M7.1 b8 11) fun x9 =>
  ltt ((x9 + ((1 : Int32)))) fun x10 =>
  ltt (uI M7 b8 11 x10) fun M11 =>
  dr G 7 ((M11.2 a 6)) fun b12 =>
  bnd (FX7_makeLists G M11 b12 ((M11.2 a 3)) ((256 : Int32))) fun y13 =>
  chk (¬ (((11 : Int32)) < 0 ∨ G.2.2 b4 ≤ ((11 : Int32)).toNatClampNeg)) <|
  ltt (y13.1 b4 ((11 : Int32)).toNatClampNeg) fun x14 =>
  ltt ((x14 <<< (((5 : Int32)) &&& 31))) fun x15 =>
  chk (¬ (((18 : Int32)) < 0 ∨ G.2.2 b4 ≤ ((18 : Int32)).toNatClampNeg)) <|
  ltt (y13.1 b4 ((18 : Int32)).toNatClampNeg) fun x16 =>
  ltt ((x15 ||| x16)) fun x17 =>
  dr G 10 ((y13.2 a 2)) fun b18 =>
  bnd (FX10_beginUnit G y13 b18 x17) fun y19 =>
  dr G 10 ((y19.2 a 2)) fun b20 =>
  ltt (uI y19 b20 3 ((0 : Int32))) fun M21 =>
  some M21
set_option maxHeartbeats 4000000 in
set_option maxRecDepth 100000 in
theorem kX0_beginSlice (l : Launch) (D : va_G) (ct : CT) (ad : Nat → Nat) (Z : Nat → Nat) (G : GG) (M : DD) (sz : Nat) (a : Nat) (p0 : Int32) (y : DD) (hc : a < G.1) (hk : G.2.1 a = 0) (hF : FX0_beginSlice G M a p0 = some y) : Met l yX0_beginSlice wsX0_beginSlice ({ frames := 4, cells := 0, slots := 0, locals := 105 }) (va_Pc [.ref (ad a), .int p0] (kB D ct ad Z G M sz)) (va_Qv (fun (_ : Unit) => True) (fun _ t => kE D ct ad G (wA ad G sz) y t) (wA ad G sz)) 0 0 (wA ad G sz) := by
  refine Met.ofW (cc := cX0_beginSlice) (maxL := 3) (ret := none) (by decide) rfl ?_
  intro p e s m args below meth c s₁ B hml hv
  obtain ⟨rfl, hsz, hP, hK, hD0, hZ, hN⟩ := hv
  have hx := B.exec
  have hb := B.bytes
  have hr := B.returns
  have hts := atoms_spec (ws := wsX0_beginSlice) B.pre
  have hown : s.vm.findClass RX0 = some m.cls := findClass_of_methodNamed B.named
  have hlocks := B.notSynchronized
  subst hsz
  have hD := wD_self (sz := s.heap.size) hD0
  have hA9 : ∀ q, s.heap.size ≤ q → wA ad G s.heap.size q := fun q h => Or.inr h
  generalize hAe : wA ad G s.heap.size = A at hD hA9 hZ ⊢
  have hS : va_S A s.heap s.heap [] := va_S.rf
  have hl := lv_entry ([.ref (ad a), .int p0]) (n := 3) (Nat.le_of_ble_eq_true rfl)
  rw [lg_entry_eq]
  generalize (lg_sl ([.ref (ad a), .int p0]) ++ List.replicate (3 - (lg_sl ([.ref (ad a), .int p0])).length) Slot.unset).toArray = ls at hl ⊢
  have hl : lv_has ls 3 [(0, .ref (ad a)), (1, .int p0)] := hl
  unfold FX0_beginSlice at hF
  refine lv_aload_n hx hb dX0_beginSlice_0 rfl (lv_at hl 0 rfl) ?_
  refine va_get (D := D) (ci := 0) (v := va_re ad (M.2 a 3)) (C := RX0) (T := TX0) (N := 21) hx hb hts (by decide +kernel) hown hK hP a (wld_o ct ad G M hc hk (by decide)) rfl 3 (by decide) (hts (.fieldLink RX0 36 "VideoSuite$Coder" "work" "LVideoSuite$Work;") (by decide +kernel)) (fun _ h9 => h9) rfl dX0_beginSlice_1 ?_
  obtain ⟨b2, ho2, hc2, hk2, hF⟩ := dr_some hF
  refine W_st (st' := [.ref (ad b2)]) (by rw [va_some ho2]) ?_
  refine va_get (D := D) (ci := 9) (v := va_re ad (M.2 b2 1)) (C := RX9) (T := TX9) (N := 20) hx hb hts (by decide +kernel) hown hK hP b2 (wld_o ct ad G M hc2 hk2 (by decide)) rfl 1 (by decide) (hts (.fieldLink RX0 81 "VideoSuite$Work" "head" "LVideoSuite$Header;") (by decide +kernel)) (fun _ h9 => h9) rfl dX0_beginSlice_4 ?_
  obtain ⟨b3, ho3, hc3, hk3, hF⟩ := dr_some hF
  refine W_st (st' := [.ref (ad b3)]) (by rw [va_some ho3]) ?_
  refine va_get (D := D) (ci := 3) (v := va_re ad (M.2 b3 0)) (C := RX3) (T := TX3) (N := 4) hx hb hts (by decide +kernel) hown hK hP b3 (wld_o ct ad G M hc3 hk3 (by decide)) rfl 0 (by decide) (hts (.fieldLink RX0 252 "VideoSuite$Header" "v" "[I") (by decide +kernel)) (fun _ h9 => h9) rfl dX0_beginSlice_7 ?_
  refine lv_astoreq_n (lv' := [(2, va_re ad (M.2 b3 0)), (0, .ref (ad a)), (1, .int p0)]) hx hb dX0_beginSlice_10 rfl hl (by decide) rfl (fun ls hl => ?_)
  refine lv_aloadq_n hx hb dX0_beginSlice_11 rfl (lv_at hl 0 rfl) ?_
  refine lv_iconst (v := (0 : Int32)) hx hb dX0_beginSlice_12 (by decide) ?_
  refine lv_iload_n hx hb dX0_beginSlice_13 rfl (lv_at hl 2 rfl) ?_
  obtain ⟨b4, ho4, hc4, hk4, hF⟩ := dr_some hF
  refine W_st (st' := [.int p0, .int (0 : Int32), .ref (ad b4)]) (by rw [va_some ho4]) ?_
  obtain ⟨hvc, hF⟩ := chk_some hF
  refine va_iast hx hb hK hP hD hS b4 1 (wld_i ct ad G M hc4 hk4) rfl hvc dX0_beginSlice_14 (fun H locs hP hD hS => ?_)
  obtain ⟨M5, eM5, hF⟩ := ltt_some hF
  rw [set_i ct ad G M hc4 hk4, ← eM5] at hP hD
  refine lv_aload_n hx hb dX0_beginSlice_15 rfl (lv_at hl 1 rfl) ?_
  refine lv_aloadq_n hx hb dX0_beginSlice_16 rfl (lv_at hl 0 rfl) ?_
  refine lv_bipush (v := (12 : Int32)) hx hb dX0_beginSlice_17 (by decide) ?_
  refine W_st (st' := [.int (12 : Int32), .ref (ad b4), .ref (ad a)]) (by rw [va_some ho4]) ?_
  obtain ⟨hvc, hF⟩ := chk_some hF
  refine va_iald hx hb hK hP b4 1 (wld_i ct ad G M5 hc4 hk4) rfl hvc dX0_beginSlice_19 ?_
  obtain ⟨x6, ex6, hF⟩ := ltt_some hF
  refine lv_topi (fun zx6 ezx6 => ?_)
  obtain rfl : x6 = zx6 := ex6.trans ezx6.symm
  refine va_put (D := D) (ci := 0) (v := .int x6) (ty := .int) (C := RX0) (T := TX0) (N := 21) hx hb hts (by decide +kernel) tyX0 tyX0_ok nmX0 hown hK hP hD hS a (wld_o ct ad G M5 hc hk (by decide)) rfl 19 (by decide) (hts (.fieldLink RX0 299 "VideoSuite$Coder" "step" "I") (by decide +kernel)) (fun _ h9 => h9) rfl (by decide +kernel) rfl rfl (Nat.le_of_ble_eq_true rfl) dX0_beginSlice_20 (fun H locs hP hD hS => ?_)
  obtain ⟨M7, eM7, hF⟩ := ltt_some hF
  rw [set_oI ct ad G M5 hc hk (by decide) (by rfl), ← eM7] at hP hD
  refine lv_aload_n hx hb dX0_beginSlice_23 rfl (lv_at hl 1 rfl) ?_
  refine va_get (D := D) (ci := 0) (v := va_re ad (M7.2 a 3)) (C := RX0) (T := TX0) (N := 21) hx hb hts (by decide +kernel) hown hK hP a (wld_o ct ad G M7 hc hk (by decide)) rfl 3 (by decide) (hts (.fieldLink RX0 36 "VideoSuite$Coder" "work" "LVideoSuite$Work;") (by decide +kernel)) (fun _ h9 => h9) rfl dX0_beginSlice_24 ?_
  refine lv_dup hx hb dX0_beginSlice_27 (va_re_cat _ _) ?_
  obtain ⟨b8, ho8, hc8, hk8, hF⟩ := dr_some hF
  refine W_st (st' := [.ref (ad b8), .ref (ad b8)]) (by rw [va_some ho8]) ?_
  refine va_get (D := D) (ci := 9) (v := .int (M7.1 b8 11)) (C := RX9) (T := TX9) (N := 20) hx hb hts (by decide +kernel) hown hK hP b8 (wld_o ct ad G M7 hc8 hk8 (by decide)) rfl 11 (by decide) (hts (.fieldLink RX0 302 "VideoSuite$Work" "sliceNumber" "I") (by decide +kernel)) (fun _ h9 => h9) rfl dX0_beginSlice_28 ?_
  obtain ⟨x9, ex9, hF⟩ := ltt_some hF
  refine lv_topi (fun zx9 ezx9 => ?_)
  obtain rfl : x9 = zx9 := ex9.trans ezx9.symm
  refine lv_iconst (v := (1 : Int32)) hx hb dX0_beginSlice_31 (by decide) ?_
  refine lv_iadd hx hb dX0_beginSlice_32 ?_
  obtain ⟨x10, ex10, hF⟩ := ltt_some hF
  refine lv_topi (fun zx10 ezx10 => ?_)
  obtain rfl : x10 = zx10 := ex10.trans ezx10.symm
  refine va_put (D := D) (ci := 9) (v := .int x10) (ty := .int) (C := RX9) (T := TX9) (N := 20) hx hb hts (by decide +kernel) tyX9 tyX9_ok nmX9 hown hK hP hD hS b8 (wld_o ct ad G M7 hc8 hk8 (by decide)) rfl 11 (by decide) (hts (.fieldLink RX0 302 "VideoSuite$Work" "sliceNumber" "I") (by decide +kernel)) (fun _ h9 => h9) rfl (by decide +kernel) rfl rfl (Nat.le_of_ble_eq_true rfl) dX0_beginSlice_33 (fun H locs hP hD hS => ?_)
  obtain ⟨M11, eM11, hF⟩ := ltt_some hF
  rw [set_oI ct ad G M7 hc8 hk8 (by decide) (by rfl), ← eM11] at hP hD
  refine lv_aload_n hx hb dX0_beginSlice_36 rfl (lv_at hl 1 rfl) ?_
  refine va_get (D := D) (ci := 0) (v := va_re ad (M11.2 a 6)) (C := RX0) (T := TX0) (N := 21) hx hb hts (by decide +kernel) hown hK hP a (wld_o ct ad G M11 hc hk (by decide)) rfl 6 (by decide) (hts (.fieldLink RX0 57 "VideoSuite$Coder" "store" "LVideoSuite$Store;") (by decide +kernel)) (fun _ h9 => h9) rfl dX0_beginSlice_37 ?_
  refine lv_aload_n hx hb dX0_beginSlice_40 rfl (lv_at hl 1 rfl) ?_
  refine va_get (D := D) (ci := 0) (v := va_re ad (M11.2 a 3)) (C := RX0) (T := TX0) (N := 21) hx hb hts (by decide +kernel) hown hK hP a (wld_o ct ad G M11 hc hk (by decide)) rfl 3 (by decide) (hts (.fieldLink RX0 36 "VideoSuite$Coder" "work" "LVideoSuite$Work;") (by decide +kernel)) (fun _ h9 => h9) rfl dX0_beginSlice_41 ?_
  refine lv_sipush (v := (256 : Int32)) hx hb dX0_beginSlice_44 (by decide) ?_
  obtain ⟨b12, ho12, hc12, hk12, hF⟩ := dr_some hF
  refine W_st (st' := [.int (256 : Int32), va_re ad (M11.2 a 3), .ref (ad b12)]) (by rw [va_some ho12]) ?_
  obtain ⟨y13, hy13, hF⟩ := bnd_some hF
  have hf9 := wA_in hD hA9 hS
  refine va_callv (va_runV (As := [va_re ad (M11.2 a 3), .int (256 : Int32)]) (rest := []) ⟨hx, hb, hml, hown, hts⟩ (kX7_makeLists l D ct ad Z G M11 H.size b12 ((M11.2 a 3)) ((256 : Int32)) y13 hc12 hk12 hy13) (cwV 2 hts gX0_beginSlice_X7_makeLists rfl rfl rfl (by decide +kernel) ⟨Nat.le_of_ble_eq_true rfl, Nat.le_of_ble_eq_true rfl⟩) ⟨fun a U g mk q => by obtain ⟨q0, q1, qP, qK, qD, qZ, qN⟩ := q; exact ⟨q0, q1, qP, va_K.moved (u := U) (U := U.calling g mk a) (Vm.Alike.refl U.vm) qK, qD, sF.moved (u := U) (U := U.calling g mk a) (Vm.Alike.refl U.vm) qZ, nF.same rfl qN⟩, va_recv hK hP (ci := 7) (q0 := b12) rfl (wld_o ct ad G M11 hc12 hk12 (by decide)), fun U hU hW => ⟨rfl, by rw [hU], by rw [hU]; exact hP, va_K.moved hW.alike hK, hD.weaken (fun _ _ _ _ => trivial), by rw [hU]; exact ((hZ.kept hS.2.1).narrow hf9).moved hW.alike, hN.warm hW⟩⟩ rfl rfl hl.1 rfl (lv_room (Nat.le_of_ble_eq_true rfl)) dX0_beginSlice_47 ⟨(Nat.zero_le _), (Nat.zero_le _)⟩) hS (fun q _ h => hf9 q h) hf9 (fun u t H locs ht hvm hw hB hz1 hk1 hS => ?_)
  obtain ⟨hP, hK9, hD9⟩ := hB
  rw [ht] at hP
  have hD := hD9.weaken (fun _ q _ h => hf9 q.1 h)
  refine lv_aload_n hx hb dX0_beginSlice_50 rfl (lv_at hl 1 rfl) ?_
  refine va_get (D := D) (ci := 0) (v := va_re ad (y13.2 a 2)) (C := RX0) (T := TX0) (N := 21) hx hb hts (by decide +kernel) hown hK hP a (wld_o ct ad G y13 hc hk (by decide)) rfl 2 (by decide) (hts (.fieldLink RX0 29 "VideoSuite$Coder" "writer" "LVideoSuite$Writer;") (by decide +kernel)) (fun _ h9 => h9) rfl dX0_beginSlice_51 ?_
  refine lv_aloadq_n hx hb dX0_beginSlice_54 rfl (lv_at hl 0 rfl) ?_
  refine lv_bipush (v := (11 : Int32)) hx hb dX0_beginSlice_55 (by decide) ?_
  refine W_st (st' := [.int (11 : Int32), .ref (ad b4), va_re ad (y13.2 a 2)]) (by rw [va_some ho4]) ?_
  obtain ⟨hvc, hF⟩ := chk_some hF
  refine va_iald hx hb hK hP b4 1 (wld_i ct ad G y13 hc4 hk4) rfl hvc dX0_beginSlice_57 ?_
  obtain ⟨x14, ex14, hF⟩ := ltt_some hF
  refine lv_topi (fun zx14 ezx14 => ?_)
  obtain rfl : x14 = zx14 := ex14.trans ezx14.symm
  refine lv_iconst (v := (5 : Int32)) hx hb dX0_beginSlice_58 (by decide) ?_
  refine lv_ishl hx hb dX0_beginSlice_59 ?_
  obtain ⟨x15, ex15, hF⟩ := ltt_some hF
  refine lv_topi (fun zx15 ezx15 => ?_)
  obtain rfl : x15 = zx15 := ex15.trans ezx15.symm
  refine lv_aloadq_n hx hb dX0_beginSlice_60 rfl (lv_at hl 0 rfl) ?_
  refine lv_bipush (v := (18 : Int32)) hx hb dX0_beginSlice_61 (by decide) ?_
  refine W_st (st' := [.int (18 : Int32), .ref (ad b4), .int x15, va_re ad (y13.2 a 2)]) (by rw [va_some ho4]) ?_
  obtain ⟨hvc, hF⟩ := chk_some hF
  refine va_iald hx hb hK hP b4 1 (wld_i ct ad G y13 hc4 hk4) rfl hvc dX0_beginSlice_63 ?_
  obtain ⟨x16, ex16, hF⟩ := ltt_some hF
  refine lv_topi (fun zx16 ezx16 => ?_)
  obtain rfl : x16 = zx16 := ex16.trans ezx16.symm
  refine lv_ior hx hb dX0_beginSlice_64 ?_
  obtain ⟨x17, ex17, hF⟩ := ltt_some hF
  refine lv_topi (fun zx17 ezx17 => ?_)
  obtain rfl : x17 = zx17 := ex17.trans ezx17.symm
  obtain ⟨b18, ho18, hc18, hk18, hF⟩ := dr_some hF
  refine W_st (st' := [.int x17, .ref (ad b18)]) (by rw [va_some ho18]) ?_
  obtain ⟨y19, hy19, hF⟩ := bnd_some hF
  have hf9 := wA_in hD hA9 hS
  refine va_callv (va_runV (As := [.int x17]) (rest := []) ⟨hx, hb, hml, hown, hts⟩ (kX10_beginUnit l D ct ad Z G y13 H.size b18 x17 y19 hc18 hk18 hy19) (cwV 1 hts gX0_beginSlice_X10_beginUnit rfl rfl rfl (by decide +kernel) ⟨Nat.le_of_ble_eq_true rfl, Nat.le_of_ble_eq_true rfl⟩) ⟨fun a U g mk q => by obtain ⟨q0, q1, qP, qK, qD, qZ, qN⟩ := q; exact ⟨q0, q1, qP, va_K.moved (u := U) (U := U.calling g mk a) (Vm.Alike.refl U.vm) qK, qD, sF.moved (u := U) (U := U.calling g mk a) (Vm.Alike.refl U.vm) qZ, nF.same rfl qN⟩, va_recv hK hP (ci := 10) (q0 := b18) rfl (wld_o ct ad G y13 hc18 hk18 (by decide)), fun U hU hW => ⟨rfl, by rw [hU], by rw [hU]; exact hP, va_K.moved hW.alike hK, hD.weaken (fun _ _ _ _ => trivial), by rw [hU]; exact ((hZ.kept hS.2.1).narrow hf9).moved hW.alike, hN.warm hW⟩⟩ rfl rfl hl.1 rfl (lv_room (Nat.le_of_ble_eq_true rfl)) dX0_beginSlice_65 ⟨(Nat.zero_le _), (Nat.zero_le _)⟩) hS (fun q _ h => hf9 q h) hf9 (fun u t H locs ht hvm hw hB hz1 hk1 hS => ?_)
  obtain ⟨hP, hK9, hD9⟩ := hB
  rw [ht] at hP
  have hD := hD9.weaken (fun _ q _ h => hf9 q.1 h)
  refine lv_aload_n hx hb dX0_beginSlice_68 rfl (lv_at hl 1 rfl) ?_
  refine va_get (D := D) (ci := 0) (v := va_re ad (y19.2 a 2)) (C := RX0) (T := TX0) (N := 21) hx hb hts (by decide +kernel) hown hK hP a (wld_o ct ad G y19 hc hk (by decide)) rfl 2 (by decide) (hts (.fieldLink RX0 29 "VideoSuite$Coder" "writer" "LVideoSuite$Writer;") (by decide +kernel)) (fun _ h9 => h9) rfl dX0_beginSlice_69 ?_
  refine lv_iconst (v := (0 : Int32)) hx hb dX0_beginSlice_72 (by decide) ?_
  obtain ⟨b20, ho20, hc20, hk20, hF⟩ := dr_some hF
  refine W_st (st' := [.int (0 : Int32), .ref (ad b20)]) (by rw [va_some ho20]) ?_
  refine va_put (D := D) (ci := 10) (v := .int (0 : Int32)) (ty := .int) (C := RX10) (T := TX10) (N := 20) hx hb hts (by decide +kernel) tyX10 tyX10_ok nmX10 hown hK hP hD hS b20 (wld_o ct ad G y19 hc20 hk20 (by decide)) rfl 3 (by decide) (hts (.fieldLink RX0 309 "VideoSuite$Writer" "run" "I") (by decide +kernel)) (fun _ h9 => h9) rfl (by decide +kernel) rfl rfl (Nat.le_of_ble_eq_true rfl) dX0_beginSlice_73 (fun H locs hP hD hS => ?_)
  obtain ⟨M21, eM21, hF⟩ := ltt_some hF
  rw [set_oI ct ad G y19 hc20 hk20 (by decide) (by rfl), ← eM21] at hP hD
  obtain rfl := Option.some.inj hF
  exact W.vret hx hb hr (fun t ht hW => ⟨⟨(), rfl, trivial, ⟨by rw [ht]; exact hP, va_K.moved hW.alike hK, hD⟩⟩, hS.F ht⟩) hS.2.2 dX0_beginSlice_76
theorem ggX0_bitsOf_X10_indexOfSe : GoodIn wsX0_bitsOf wsX10_indexOfSe := goodIn_r _ [9] (by decide +kernel) (by decide +kernel)
set_option maxRecDepth 20000 in
theorem gX0_bitsOf_X10_indexOfSe : GoodIn wsX0_bitsOf (va_wsS RX0 482 yX10_indexOfSe wsX10_indexOfSe) := goodIn_app (goodIn_of _ (by decide +kernel)) ggX0_bitsOf_X10_indexOfSe
set_option maxRecDepth 20000 in
theorem ggX0_bitsOf_X10_bitsOfUe : GoodIn wsX0_bitsOf wsX10_bitsOfUe := goodIn_r _ [12] (by decide +kernel) (by decide +kernel)
set_option maxRecDepth 20000 in
theorem gX0_bitsOf_X10_bitsOfUe : GoodIn wsX0_bitsOf (va_wsS RX0 485 yX10_bitsOfUe wsX10_bitsOfUe) := goodIn_app (goodIn_of _ (by decide +kernel)) ggX0_bitsOf_X10_bitsOfUe
set_option maxRecDepth 20000 in
theorem ggX0_bitsOf_X10_bitsOfTe : GoodIn wsX0_bitsOf wsX10_bitsOfTe := goodIn_r _ [15, 16, 11, 8, 12] (by decide +kernel) (by decide +kernel)
set_option maxRecDepth 20000 in
theorem gX0_bitsOf_X10_bitsOfTe : GoodIn wsX0_bitsOf (va_wsS RX0 488 yX10_bitsOfTe wsX10_bitsOfTe) := goodIn_app (goodIn_of _ (by decide +kernel)) ggX0_bitsOf_X10_bitsOfTe
theorem dX0_bitsOf_0 : decode cX0_bitsOf 0 = .ok (.aload_n 0, 1) := by decide +kernel
theorem dX0_bitsOf_1 : decode cX0_bitsOf 1 = .ok (.getfield 36, 3) := by decide +kernel
theorem dX0_bitsOf_4 : decode cX0_bitsOf 4 = .ok (.getfield 81, 3) := by decide +kernel
theorem dX0_bitsOf_7 : decode cX0_bitsOf 7 = .ok (.getfield 252, 3) := by decide +kernel
theorem dX0_bitsOf_10 : decode cX0_bitsOf 10 = .ok (.bipush 9, 2) := by decide +kernel
theorem dX0_bitsOf_12 : decode cX0_bitsOf 12 = .ok (.iload_n 1, 1) := by decide +kernel
theorem dX0_bitsOf_13 : decode cX0_bitsOf 13 = .ok (.iadd, 1) := by decide +kernel
theorem dX0_bitsOf_14 : decode cX0_bitsOf 14 = .ok (.iaload, 1) := by decide +kernel
theorem dX0_bitsOf_15 : decode cX0_bitsOf 15 = .ok (.istore 5, 2) := by decide +kernel
theorem dX0_bitsOf_17 : decode cX0_bitsOf 17 = .ok (.iload_n 3, 1) := by decide +kernel
theorem dX0_bitsOf_18 : decode cX0_bitsOf 18 = .ok (.aload_n 0, 1) := by decide +kernel
theorem dX0_bitsOf_19 : decode cX0_bitsOf 19 = .ok (.getfield 36, 3) := by decide +kernel
theorem dX0_bitsOf_22 : decode cX0_bitsOf 22 = .ok (.getfield 419, 3) := by decide +kernel
theorem dX0_bitsOf_25 : decode cX0_bitsOf 25 = .ok (.isub, 1) := by decide +kernel
theorem dX0_bitsOf_26 : decode cX0_bitsOf 26 = .ok (.invokestatic 482, 3) := by decide +kernel
theorem dX0_bitsOf_29 : decode cX0_bitsOf 29 = .ok (.invokestatic 485, 3) := by decide +kernel
theorem dX0_bitsOf_32 : decode cX0_bitsOf 32 = .ok (.iload 4, 2) := by decide +kernel
theorem dX0_bitsOf_34 : decode cX0_bitsOf 34 = .ok (.aload_n 0, 1) := by decide +kernel
theorem dX0_bitsOf_35 : decode cX0_bitsOf 35 = .ok (.getfield 36, 3) := by decide +kernel
theorem dX0_bitsOf_38 : decode cX0_bitsOf 38 = .ok (.getfield 422, 3) := by decide +kernel
theorem dX0_bitsOf_41 : decode cX0_bitsOf 41 = .ok (.isub, 1) := by decide +kernel
theorem dX0_bitsOf_42 : decode cX0_bitsOf 42 = .ok (.invokestatic 482, 3) := by decide +kernel
theorem dX0_bitsOf_45 : decode cX0_bitsOf 45 = .ok (.invokestatic 485, 3) := by decide +kernel
theorem dX0_bitsOf_48 : decode cX0_bitsOf 48 = .ok (.iadd, 1) := by decide +kernel
theorem dX0_bitsOf_49 : decode cX0_bitsOf 49 = .ok (.iload 5, 2) := by decide +kernel
theorem dX0_bitsOf_51 : decode cX0_bitsOf 51 = .ok (.iconst 1, 1) := by decide +kernel
theorem dX0_bitsOf_52 : decode cX0_bitsOf 52 = .ok (.if_icmp .le 14, 3) := by decide +kernel
theorem dX0_bitsOf_55 : decode cX0_bitsOf 55 = .ok (.iload 5, 2) := by decide +kernel
theorem dX0_bitsOf_57 : decode cX0_bitsOf 57 = .ok (.iconst 1, 1) := by decide +kernel
theorem dX0_bitsOf_58 : decode cX0_bitsOf 58 = .ok (.isub, 1) := by decide +kernel
theorem dX0_bitsOf_59 : decode cX0_bitsOf 59 = .ok (.iload_n 2, 1) := by decide +kernel
theorem dX0_bitsOf_60 : decode cX0_bitsOf 60 = .ok (.invokestatic 488, 3) := by decide +kernel
theorem dX0_bitsOf_63 : decode cX0_bitsOf 63 = .ok (.goto 4, 3) := by decide +kernel
theorem dX0_bitsOf_66 : decode cX0_bitsOf 66 = .ok (.iconst 0, 1) := by decide +kernel
theorem dX0_bitsOf_67 : decode cX0_bitsOf 67 = .ok (.iadd, 1) := by decide +kernel
theorem dX0_bitsOf_68 : decode cX0_bitsOf 68 = .ok (.ireturn, 1) := by decide +kernel
def FX0_bitsOf (G : GG) (M : DD) (a : Nat) (p0 : Int32) (p1 : Int32) (p2 : Int32) (p3 : Int32) : Option (DD × Int32) :=
  dr G 9 ((M.2 a 3)) fun b2 =>
  dr G 3 ((M.2 b2 1)) fun b3 =>
  ltt ((((9 : Int32)) + p0)) fun x4 =>
  dr G 13 ((M.2 b3 0)) fun b5 =>
  chk (¬ (x4 < 0 ∨ G.2.2 b5 ≤ x4.toNatClampNeg)) <|
  ltt (M.1 b5 x4.toNatClampNeg) fun x6 =>
  ltt (M.1 b2 18) fun x7 =>
  ltt ((p2 - x7)) fun x8 =>
  bnd (FX10_indexOfSe G M x8) fun y9 =>
  bnd (FX10_bitsOfUe G y9.1 y9.2) fun y10 =>
  dr G 9 ((y10.1.2 a 3)) fun b11 =>
  ltt (y10.1.1 b11 19) fun x12 =>
  ltt ((p3 - x12)) fun x13 =>
  bnd (FX10_indexOfSe G y10.1 x13) fun y14 =>
  bnd (FX10_bitsOfUe G y14.1 y14.2) fun y15 =>
  ltt ((y10.2 + y15.2)) fun x16 =>
  bnd (if x6 ≤ ((1 : Int32)) then (some ((0 : Int32), y15.1)) else
  (ltt ((x6 - ((1 : Int32)))) fun x20 =>
  bnd (FX10_bitsOfTe G y15.1 x20 p1) fun y21 =>
  some (y21.2, y21.1))) fun (y17 : Int32 × DD) =>
  ltt ((x16 + y17.1)) fun x18 =>
  some (y17.2, x18)
set_option maxHeartbeats 4000000 in
set_option maxRecDepth 100000 in
theorem kX0_bitsOf (l : Launch) (D : va_G) (ct : CT) (ad : Nat → Nat) (Z : Nat → Nat) (G : GG) (M : DD) (sz : Nat) (a : Nat) (p0 : Int32) (p1 : Int32) (p2 : Int32) (p3 : Int32) (y : DD × Int32) (hc : a < G.1) (hk : G.2.1 a = 0) (hF : FX0_bitsOf G M a p0 p1 p2 p3 = some y) : Met l yX0_bitsOf wsX0_bitsOf ({ frames := 2, cells := 0, slots := 0, locals := 42 }) (va_Pc [.ref (ad a), .int p0, .int p1, .int p2, .int p3] (kB D ct ad Z G M sz)) (va_Qi (fun (q : Int32) (_ : Unit) => q = y.2) (fun _ t => kE D ct ad G (wA ad G sz) y.1 t) (wA ad G sz)) 0 0 (wA ad G sz) := by
  refine Met.ofW (cc := cX0_bitsOf) (maxL := 6) (ret := (some .int)) (by decide) rfl ?_
  intro p e s m args below meth c s₁ B hml hv
  obtain ⟨rfl, hsz, hP, hK, hD0, hZ, hN⟩ := hv
  have hx := B.exec
  have hb := B.bytes
  have hr := B.returns
  have hts := atoms_spec (ws := wsX0_bitsOf) B.pre
  have hown : s.vm.findClass RX0 = some m.cls := findClass_of_methodNamed B.named
  have hlocks := B.notSynchronized
  subst hsz
  have hD := wD_self (sz := s.heap.size) hD0
  have hA9 : ∀ q, s.heap.size ≤ q → wA ad G s.heap.size q := fun q h => Or.inr h
  generalize hAe : wA ad G s.heap.size = A at hD hA9 hZ ⊢
  have hS : va_S A s.heap s.heap [] := va_S.rf
  have hl := lv_entry ([.ref (ad a), .int p0, .int p1, .int p2, .int p3]) (n := 6) (Nat.le_of_ble_eq_true rfl)
  rw [lg_entry_eq]
  generalize (lg_sl ([.ref (ad a), .int p0, .int p1, .int p2, .int p3]) ++ List.replicate (6 - (lg_sl ([.ref (ad a), .int p0, .int p1, .int p2, .int p3])).length) Slot.unset).toArray = ls at hl ⊢
  have hl : lv_has ls 6 [(0, .ref (ad a)), (1, .int p0), (2, .int p1), (3, .int p2), (4, .int p3)] := hl
  unfold FX0_bitsOf at hF
  refine lv_aload_n hx hb dX0_bitsOf_0 rfl (lv_at hl 0 rfl) ?_
  refine va_get (D := D) (ci := 0) (v := va_re ad (M.2 a 3)) (C := RX0) (T := TX0) (N := 21) hx hb hts (by decide +kernel) hown hK hP a (wld_o ct ad G M hc hk (by decide)) rfl 3 (by decide) (hts (.fieldLink RX0 36 "VideoSuite$Coder" "work" "LVideoSuite$Work;") (by decide +kernel)) (fun _ h9 => h9) rfl dX0_bitsOf_1 ?_
  obtain ⟨b2, ho2, hc2, hk2, hF⟩ := dr_some hF
  refine W_st (st' := [.ref (ad b2)]) (by rw [va_some ho2]) ?_
  refine va_get (D := D) (ci := 9) (v := va_re ad (M.2 b2 1)) (C := RX9) (T := TX9) (N := 20) hx hb hts (by decide +kernel) hown hK hP b2 (wld_o ct ad G M hc2 hk2 (by decide)) rfl 1 (by decide) (hts (.fieldLink RX0 81 "VideoSuite$Work" "head" "LVideoSuite$Header;") (by decide +kernel)) (fun _ h9 => h9) rfl dX0_bitsOf_4 ?_
  obtain ⟨b3, ho3, hc3, hk3, hF⟩ := dr_some hF
  refine W_st (st' := [.ref (ad b3)]) (by rw [va_some ho3]) ?_
  refine va_get (D := D) (ci := 3) (v := va_re ad (M.2 b3 0)) (C := RX3) (T := TX3) (N := 4) hx hb hts (by decide +kernel) hown hK hP b3 (wld_o ct ad G M hc3 hk3 (by decide)) rfl 0 (by decide) (hts (.fieldLink RX0 252 "VideoSuite$Header" "v" "[I") (by decide +kernel)) (fun _ h9 => h9) rfl dX0_bitsOf_7 ?_
  refine lv_bipush (v := (9 : Int32)) hx hb dX0_bitsOf_10 (by decide) ?_
  refine lv_iload_n hx hb dX0_bitsOf_12 rfl (lv_at hl 1 rfl) ?_
  refine lv_iadd hx hb dX0_bitsOf_13 ?_
  obtain ⟨x4, ex4, hF⟩ := ltt_some hF
  refine lv_topi (fun zx4 ezx4 => ?_)
  obtain rfl : x4 = zx4 := ex4.trans ezx4.symm
  obtain ⟨b5, ho5, hc5, hk5, hF⟩ := dr_some hF
  refine W_st (st' := [.int x4, .ref (ad b5)]) (by rw [va_some ho5]) ?_
  obtain ⟨hvc, hF⟩ := chk_some hF
  refine va_iald hx hb hK hP b5 1 (wld_i ct ad G M hc5 hk5) rfl hvc dX0_bitsOf_14 ?_
  obtain ⟨x6, ex6, hF⟩ := ltt_some hF
  refine lv_topi (fun zx6 ezx6 => ?_)
  obtain rfl : x6 = zx6 := ex6.trans ezx6.symm
  refine lv_istore (lv' := [(5, .int x6), (0, .ref (ad a)), (1, .int p0), (2, .int p1), (3, .int p2), (4, .int p3)]) hx hb dX0_bitsOf_15 hl (by decide) rfl (fun ls hl => ?_)
  refine lv_iload_n hx hb dX0_bitsOf_17 rfl (lv_at hl 4 rfl) ?_
  refine lv_aload_n hx hb dX0_bitsOf_18 rfl (lv_at hl 1 rfl) ?_
  refine va_get (D := D) (ci := 0) (v := va_re ad (M.2 a 3)) (C := RX0) (T := TX0) (N := 21) hx hb hts (by decide +kernel) hown hK hP a (wld_o ct ad G M hc hk (by decide)) rfl 3 (by decide) (hts (.fieldLink RX0 36 "VideoSuite$Coder" "work" "LVideoSuite$Work;") (by decide +kernel)) (fun _ h9 => h9) rfl dX0_bitsOf_19 ?_
  refine W_st (st' := [.ref (ad b2), .int p2]) (by rw [va_some ho2]) ?_
  refine va_get (D := D) (ci := 9) (v := .int (M.1 b2 18)) (C := RX9) (T := TX9) (N := 20) hx hb hts (by decide +kernel) hown hK hP b2 (wld_o ct ad G M hc2 hk2 (by decide)) rfl 18 (by decide) (hts (.fieldLink RX0 419 "VideoSuite$Work" "guessX" "I") (by decide +kernel)) (fun _ h9 => h9) rfl dX0_bitsOf_22 ?_
  obtain ⟨x7, ex7, hF⟩ := ltt_some hF
  refine lv_topi (fun zx7 ezx7 => ?_)
  obtain rfl : x7 = zx7 := ex7.trans ezx7.symm
  refine lv_isub hx hb dX0_bitsOf_25 ?_
  obtain ⟨x8, ex8, hF⟩ := ltt_some hF
  refine lv_topi (fun zx8 ezx8 => ?_)
  obtain rfl : x8 = zx8 := ex8.trans ezx8.symm
  obtain ⟨y9, hy9, hF⟩ := bnd_some hF
  have hf9 := wA_in hD hA9 hS
  refine va_calli (va_runS (As := [.int x8]) (rest := []) ⟨hx, hb, hml, hown, hts⟩ (kX10_indexOfSe l D ct ad Z G M s.heap.size x8 y9 hy9) (va_cwS 1 hts gX0_bitsOf_X10_indexOfSe rfl rfl rfl (by decide +kernel) ⟨Nat.le_of_ble_eq_true rfl, Nat.le_of_ble_eq_true rfl⟩) ⟨fun a U g mk q => by obtain ⟨q0, q1, qP, qK, qD, qZ, qN⟩ := q; exact ⟨q0, q1, qP, va_K.moved (u := U) (U := U.calling g mk a) (Vm.Alike.refl U.vm) qK, qD, sF.moved (u := U) (U := U.calling g mk a) (Vm.Alike.refl U.vm) qZ, nF.same rfl qN⟩, fun U hU hW => ⟨rfl, by rw [hU], by rw [hU]; exact hP, va_K.moved hW.alike hK, hD.weaken (fun _ _ _ _ => trivial), by rw [hU]; exact ((hZ.kept hS.2.1).narrow hf9).moved hW.alike, hN.warm hW⟩⟩ rfl rfl hl.1 rfl (lv_room (Nat.le_of_ble_eq_true rfl)) dX0_bitsOf_26 ⟨(Nat.zero_le _), (Nat.zero_le _)⟩) hS (fun q _ h => hf9 q h) hf9 (fun r u t H locs ht hvm hw hB hz1 hk1 hS => ?_)
  obtain ⟨hP, hK9, hD9⟩ := hB
  rw [ht] at hP
  try dsimp only at hw
  subst hw
  have hD := hD9.weaken (fun _ q _ h => hf9 q.1 h)
  obtain ⟨y10, hy10, hF⟩ := bnd_some hF
  have hf9 := wA_in hD hA9 hS
  refine va_calli (va_runS (As := [.int y9.2]) (rest := []) ⟨hx, hb, hml, hown, hts⟩ (kX10_bitsOfUe l D ct ad Z G y9.1 H.size y9.2 y10 hy10) (va_cwS 1 hts gX0_bitsOf_X10_bitsOfUe rfl rfl rfl (by decide +kernel) ⟨Nat.le_of_ble_eq_true rfl, Nat.le_of_ble_eq_true rfl⟩) ⟨fun a U g mk q => by obtain ⟨q0, q1, qP, qK, qD, qZ, qN⟩ := q; exact ⟨q0, q1, qP, va_K.moved (u := U) (U := U.calling g mk a) (Vm.Alike.refl U.vm) qK, qD, sF.moved (u := U) (U := U.calling g mk a) (Vm.Alike.refl U.vm) qZ, nF.same rfl qN⟩, fun U hU hW => ⟨rfl, by rw [hU], by rw [hU]; exact hP, va_K.moved hW.alike hK, hD.weaken (fun _ _ _ _ => trivial), by rw [hU]; exact ((hZ.kept hS.2.1).narrow hf9).moved hW.alike, hN.warm hW⟩⟩ rfl rfl hl.1 rfl (lv_room (Nat.le_of_ble_eq_true rfl)) dX0_bitsOf_29 ⟨(Nat.zero_le _), (Nat.zero_le _)⟩) hS (fun q _ h => hf9 q h) hf9 (fun r u t H locs ht hvm hw hB hz1 hk1 hS => ?_)
  obtain ⟨hP, hK9, hD9⟩ := hB
  rw [ht] at hP
  try dsimp only at hw
  subst hw
  have hD := hD9.weaken (fun _ q _ h => hf9 q.1 h)
  refine lv_iload hx hb dX0_bitsOf_32 (lv_at hl 5 rfl) ?_
  refine lv_aload_n hx hb dX0_bitsOf_34 rfl (lv_at hl 1 rfl) ?_
  refine va_get (D := D) (ci := 0) (v := va_re ad (y10.1.2 a 3)) (C := RX0) (T := TX0) (N := 21) hx hb hts (by decide +kernel) hown hK hP a (wld_o ct ad G y10.1 hc hk (by decide)) rfl 3 (by decide) (hts (.fieldLink RX0 36 "VideoSuite$Coder" "work" "LVideoSuite$Work;") (by decide +kernel)) (fun _ h9 => h9) rfl dX0_bitsOf_35 ?_
  obtain ⟨b11, ho11, hc11, hk11, hF⟩ := dr_some hF
  refine W_st (st' := [.ref (ad b11), .int p3, .int y10.2]) (by rw [va_some ho11]) ?_
  refine va_get (D := D) (ci := 9) (v := .int (y10.1.1 b11 19)) (C := RX9) (T := TX9) (N := 20) hx hb hts (by decide +kernel) hown hK hP b11 (wld_o ct ad G y10.1 hc11 hk11 (by decide)) rfl 19 (by decide) (hts (.fieldLink RX0 422 "VideoSuite$Work" "guessY" "I") (by decide +kernel)) (fun _ h9 => h9) rfl dX0_bitsOf_38 ?_
  obtain ⟨x12, ex12, hF⟩ := ltt_some hF
  refine lv_topi (fun zx12 ezx12 => ?_)
  obtain rfl : x12 = zx12 := ex12.trans ezx12.symm
  refine lv_isub hx hb dX0_bitsOf_41 ?_
  obtain ⟨x13, ex13, hF⟩ := ltt_some hF
  refine lv_topi (fun zx13 ezx13 => ?_)
  obtain rfl : x13 = zx13 := ex13.trans ezx13.symm
  obtain ⟨y14, hy14, hF⟩ := bnd_some hF
  have hf9 := wA_in hD hA9 hS
  refine va_calli (va_runS (As := [.int x13]) (rest := [.int y10.2]) ⟨hx, hb, hml, hown, hts⟩ (kX10_indexOfSe l D ct ad Z G y10.1 H.size x13 y14 hy14) (va_cwS 1 hts gX0_bitsOf_X10_indexOfSe rfl rfl rfl (by decide +kernel) ⟨Nat.le_of_ble_eq_true rfl, Nat.le_of_ble_eq_true rfl⟩) ⟨fun a U g mk q => by obtain ⟨q0, q1, qP, qK, qD, qZ, qN⟩ := q; exact ⟨q0, q1, qP, va_K.moved (u := U) (U := U.calling g mk a) (Vm.Alike.refl U.vm) qK, qD, sF.moved (u := U) (U := U.calling g mk a) (Vm.Alike.refl U.vm) qZ, nF.same rfl qN⟩, fun U hU hW => ⟨rfl, by rw [hU], by rw [hU]; exact hP, va_K.moved hW.alike hK, hD.weaken (fun _ _ _ _ => trivial), by rw [hU]; exact ((hZ.kept hS.2.1).narrow hf9).moved hW.alike, hN.warm hW⟩⟩ rfl rfl hl.1 rfl (lv_room (Nat.le_of_ble_eq_true rfl)) dX0_bitsOf_42 ⟨(Nat.zero_le _), (Nat.zero_le _)⟩) hS (fun q _ h => hf9 q h) hf9 (fun r u t H locs ht hvm hw hB hz1 hk1 hS => ?_)
  obtain ⟨hP, hK9, hD9⟩ := hB
  rw [ht] at hP
  try dsimp only at hw
  subst hw
  have hD := hD9.weaken (fun _ q _ h => hf9 q.1 h)
  obtain ⟨y15, hy15, hF⟩ := bnd_some hF
  have hf9 := wA_in hD hA9 hS
  refine va_calli (va_runS (As := [.int y14.2]) (rest := [.int y10.2]) ⟨hx, hb, hml, hown, hts⟩ (kX10_bitsOfUe l D ct ad Z G y14.1 H.size y14.2 y15 hy15) (va_cwS 1 hts gX0_bitsOf_X10_bitsOfUe rfl rfl rfl (by decide +kernel) ⟨Nat.le_of_ble_eq_true rfl, Nat.le_of_ble_eq_true rfl⟩) ⟨fun a U g mk q => by obtain ⟨q0, q1, qP, qK, qD, qZ, qN⟩ := q; exact ⟨q0, q1, qP, va_K.moved (u := U) (U := U.calling g mk a) (Vm.Alike.refl U.vm) qK, qD, sF.moved (u := U) (U := U.calling g mk a) (Vm.Alike.refl U.vm) qZ, nF.same rfl qN⟩, fun U hU hW => ⟨rfl, by rw [hU], by rw [hU]; exact hP, va_K.moved hW.alike hK, hD.weaken (fun _ _ _ _ => trivial), by rw [hU]; exact ((hZ.kept hS.2.1).narrow hf9).moved hW.alike, hN.warm hW⟩⟩ rfl rfl hl.1 rfl (lv_room (Nat.le_of_ble_eq_true rfl)) dX0_bitsOf_45 ⟨(Nat.zero_le _), (Nat.zero_le _)⟩) hS (fun q _ h => hf9 q h) hf9 (fun r u t H locs ht hvm hw hB hz1 hk1 hS => ?_)
  obtain ⟨hP, hK9, hD9⟩ := hB
  rw [ht] at hP
  try dsimp only at hw
  subst hw
  have hD := hD9.weaken (fun _ q _ h => hf9 q.1 h)
  refine lv_iadd hx hb dX0_bitsOf_48 ?_
  obtain ⟨x16, ex16, hF⟩ := ltt_some hF
  refine lv_topi (fun zx16 ezx16 => ?_)
  obtain rfl : x16 = zx16 := ex16.trans ezx16.symm
  refine lv_iload hx hb dX0_bitsOf_49 (lv_at hl 0 rfl) ?_
  refine lv_iconst (v := (1 : Int32)) hx hb dX0_bitsOf_51 (by decide) ?_
  obtain ⟨y17, hy17, hF⟩ := bnd_some hF
  have J17 : ∀ (H : Heap) (locs : List Loc) (ls : Array Slot), va_P D classes (wld ct ad G y17.2) H → va_D A (wld ct ad G y17.2) → va_S A s.heap H locs → lv_has ls 6 [(5, .int x6), (0, .ref (ad a)), (1, .int p0), (2, .int p1), (3, .int p2), (4, .int p3)] → W p l e (headSpec wsX0_bitsOf ({ frames := 2, cells := 0, slots := 0, locals := 42 })).room s m ([.ref (ad a), .int p0, .int p1, .int p2, .int p3] : List Value).toArray below meth c H locs 0 0 (MQ below (va_Qi (fun (q : Int32) (_ : Unit) => q = y.2) (fun _ t => kE D ct ad G A y.1 t) A) ([.ref (ad a), .int p0, .int p1, .int p2, .int p3] : List Value).toArray s 0 0 A) (F0 m 67 ls [.int y17.1, .int x16]) := by
    intro H locs ls hP hD hS hl
    refine lv_iadd hx hb dX0_bitsOf_67 ?_
    obtain ⟨x18, ex18, hF⟩ := ltt_some hF
    refine lv_topi (fun zx18 ezx18 => ?_)
    obtain rfl : x18 = zx18 := ex18.trans ezx18.symm
    obtain rfl := Option.some.inj hF
    exact W.iret (v := x18) hx hb hr (fun t ht hW => ⟨⟨_, (), rfl, rfl, ⟨by rw [ht]; exact hP, va_K.moved hW.alike hK, hD⟩⟩, hS.F ht⟩) hS.2.2 dX0_bitsOf_68
  clear hF
  have hF := hy17
  clear hy17
  refine lv_icmp_le (tgt := 66) hx hb dX0_bitsOf_52 (by decide) (fun c19 => ?_) (fun c19 => ?_)
  · rw [if_pos c19] at hF
    refine lv_iconst (v := (0 : Int32)) hx hb dX0_bitsOf_66 (by decide) ?_
    obtain rfl := Option.some.inj hF
    exact J17 _ _ _ hP hD hS (lv_sub hl [0, 1, 2, 3, 4, 5] rfl)
  · rw [if_neg c19] at hF
    refine lv_iload hx hb dX0_bitsOf_55 (lv_at hl 0 rfl) ?_
    refine lv_iconst (v := (1 : Int32)) hx hb dX0_bitsOf_57 (by decide) ?_
    refine lv_isub hx hb dX0_bitsOf_58 ?_
    obtain ⟨x20, ex20, hF⟩ := ltt_some hF
    refine lv_topi (fun zx20 ezx20 => ?_)
    obtain rfl : x20 = zx20 := ex20.trans ezx20.symm
    refine lv_iload_n hx hb dX0_bitsOf_59 rfl (lv_at hl 3 rfl) ?_
    obtain ⟨y21, hy21, hF⟩ := bnd_some hF
    have hf9 := wA_in hD hA9 hS
    refine va_calli (va_runS (As := [.int x20, .int p1]) (rest := [.int x16]) ⟨hx, hb, hml, hown, hts⟩ (kX10_bitsOfTe l D ct ad Z G y15.1 H.size x20 p1 y21 hy21) (va_cwS 2 hts gX0_bitsOf_X10_bitsOfTe rfl rfl rfl (by decide +kernel) ⟨Nat.le_of_ble_eq_true rfl, Nat.le_of_ble_eq_true rfl⟩) ⟨fun a U g mk q => by obtain ⟨q0, q1, qP, qK, qD, qZ, qN⟩ := q; exact ⟨q0, q1, qP, va_K.moved (u := U) (U := U.calling g mk a) (Vm.Alike.refl U.vm) qK, qD, sF.moved (u := U) (U := U.calling g mk a) (Vm.Alike.refl U.vm) qZ, nF.same rfl qN⟩, fun U hU hW => ⟨rfl, by rw [hU], by rw [hU]; exact hP, va_K.moved hW.alike hK, hD.weaken (fun _ _ _ _ => trivial), by rw [hU]; exact ((hZ.kept hS.2.1).narrow hf9).moved hW.alike, hN.warm hW⟩⟩ rfl rfl hl.1 rfl (lv_room (Nat.le_of_ble_eq_true rfl)) dX0_bitsOf_60 ⟨(Nat.zero_le _), (Nat.zero_le _)⟩) hS (fun q _ h => hf9 q h) hf9 (fun r u t H locs ht hvm hw hB hz1 hk1 hS => ?_)
    obtain ⟨hP, hK9, hD9⟩ := hB
    rw [ht] at hP
    try dsimp only at hw
    subst hw
    have hD := hD9.weaken (fun _ q _ h => hf9 q.1 h)
    refine lv_goto (tgt := 67) hx hb dX0_bitsOf_63 (by decide) ?_
    obtain rfl := Option.some.inj hF
    exact J17 _ _ _ hP hD hS (lv_sub hl [0, 1, 2, 3, 4, 5] rfl)
theorem ggX0_chooseColours_X9_mayBeColours : GoodIn wsX0_chooseColours wsX9_mayBeColours := goodIn_r _ [9] (by decide +kernel) (by decide +kernel)
set_option maxRecDepth 20000 in
theorem gX0_chooseColours_X9_mayBeColours : GoodIn wsX0_chooseColours (va_wsS RX0 339 yX9_mayBeColours wsX9_mayBeColours) := goodIn_app (goodIn_of _ (by decide +kernel)) ggX0_chooseColours_X9_mayBeColours
set_option maxRecDepth 20000 in
theorem ggX0_chooseColours_X6_predictColours_ : GoodIn wsX0_chooseColours wsX6_predictColours_ := goodIn_r _ [14, 15, 16, 17, 18, 19, 20, 21, 13, 22, 23, 24, 25, 26, 27, 28, 29, 30, 31, 32, 33, 34, 35, 36, 37, 38, 64, 65, 66, 67, 68, 69, 70, 71, 72, 73, 74, 75, 76, 77, 78, 79, 80, 81, 82, 83, 84, 85, 86, 87, 88, 89, 90, 91, 92, 93, 94, 95, 96, 97, 98, 99, 100, 101, 102, 103, 104, 105, 106, 107, 108, 109, 110, 111, 112, 113, 114, 115] (by decide +kernel) (by decide +kernel)
set_option maxRecDepth 20000 in
theorem gX0_chooseColours_X6_predictColours_ : GoodIn wsX0_chooseColours (wsV RX0 515 RX6 yX6_predictColours_ wsX6_predictColours_) := goodIn_app (goodIn_of _ (by decide +kernel)) ggX0_chooseColours_X6_predictColours_
set_option maxRecDepth 20000 in
theorem ggX0_chooseColours_X6_colourDifferences : GoodIn wsX0_chooseColours wsX6_colourDifferences := goodIn_r _ [42, 15, 18, 20, 21, 13, 22, 17, 64, 65, 66, 67, 68, 69, 70, 71, 72, 73, 74, 75, 76, 77, 78, 79, 80, 81, 82, 83, 102, 103, 104, 105, 106, 107, 108, 109, 110, 111, 112, 113, 114, 115, 84, 85, 86, 87, 88, 89, 90, 91, 92, 93, 94, 95, 96, 97, 98, 99, 100, 101] (by decide +kernel) (by decide +kernel)
set_option maxRecDepth 20000 in
theorem gX0_chooseColours_X6_colourDifferences : GoodIn wsX0_chooseColours (wsV RX0 518 RX6 yX6_colourDifferences wsX6_colourDifferences) := goodIn_app (goodIn_of _ (by decide +kernel)) ggX0_chooseColours_X6_colourDifferences
theorem dX0_chooseColours_0 : decode cX0_chooseColours 0 = .ok (.ldc_w 435, 3) := by decide +kernel
theorem dX0_chooseColours_3 : decode cX0_chooseColours 3 = .ok (.istore_n 3, 1) := by decide +kernel
theorem dX0_chooseColours_4 : decode cX0_chooseColours 4 = .ok (.iconst 0, 1) := by decide +kernel
theorem dX0_chooseColours_5 : decode cX0_chooseColours 5 = .ok (.istore 4, 2) := by decide +kernel
theorem dX0_chooseColours_7 : decode cX0_chooseColours 7 = .ok (.iload 4, 2) := by decide +kernel
theorem dX0_chooseColours_9 : decode cX0_chooseColours 9 = .ok (.iconst 4, 1) := by decide +kernel
theorem dX0_chooseColours_10 : decode cX0_chooseColours 10 = .ok (.if_icmp .ge 76, 3) := by decide +kernel
theorem dX0_chooseColours_13 : decode cX0_chooseColours 13 = .ok (.iload 4, 2) := by decide +kernel
theorem dX0_chooseColours_15 : decode cX0_chooseColours 15 = .ok (.iload_n 2, 1) := by decide +kernel
theorem dX0_chooseColours_16 : decode cX0_chooseColours 16 = .ok (.invokestatic 339, 3) := by decide +kernel
theorem dX0_chooseColours_19 : decode cX0_chooseColours 19 = .ok (.ifCond .eq 61, 3) := by decide +kernel
theorem dX0_chooseColours_22 : decode cX0_chooseColours 22 = .ok (.aload_n 0, 1) := by decide +kernel
theorem dX0_chooseColours_23 : decode cX0_chooseColours 23 = .ok (.getfield 43, 3) := by decide +kernel
theorem dX0_chooseColours_26 : decode cX0_chooseColours 26 = .ok (.aload_n 0, 1) := by decide +kernel
theorem dX0_chooseColours_27 : decode cX0_chooseColours 27 = .ok (.getfield 36, 3) := by decide +kernel
theorem dX0_chooseColours_30 : decode cX0_chooseColours 30 = .ok (.iload_n 1, 1) := by decide +kernel
theorem dX0_chooseColours_31 : decode cX0_chooseColours 31 = .ok (.iload 4, 2) := by decide +kernel
theorem dX0_chooseColours_33 : decode cX0_chooseColours 33 = .ok (.iload_n 2, 1) := by decide +kernel
theorem dX0_chooseColours_34 : decode cX0_chooseColours 34 = .ok (.invokevirtual 515, 3) := by decide +kernel
theorem dX0_chooseColours_37 : decode cX0_chooseColours 37 = .ok (.aload_n 0, 1) := by decide +kernel
theorem dX0_chooseColours_38 : decode cX0_chooseColours 38 = .ok (.getfield 43, 3) := by decide +kernel
theorem dX0_chooseColours_41 : decode cX0_chooseColours 41 = .ok (.aload_n 0, 1) := by decide +kernel
theorem dX0_chooseColours_42 : decode cX0_chooseColours 42 = .ok (.getfield 36, 3) := by decide +kernel
theorem dX0_chooseColours_45 : decode cX0_chooseColours 45 = .ok (.aload_n 0, 1) := by decide +kernel
theorem dX0_chooseColours_46 : decode cX0_chooseColours 46 = .ok (.getfield 69, 3) := by decide +kernel
theorem dX0_chooseColours_49 : decode cX0_chooseColours 49 = .ok (.iload_n 1, 1) := by decide +kernel
theorem dX0_chooseColours_50 : decode cX0_chooseColours 50 = .ok (.invokevirtual 518, 3) := by decide +kernel
theorem dX0_chooseColours_53 : decode cX0_chooseColours 53 = .ok (.istore 5, 2) := by decide +kernel
theorem dX0_chooseColours_55 : decode cX0_chooseColours 55 = .ok (.iload 5, 2) := by decide +kernel
theorem dX0_chooseColours_57 : decode cX0_chooseColours 57 = .ok (.iload_n 3, 1) := by decide +kernel
theorem dX0_chooseColours_58 : decode cX0_chooseColours 58 = .ok (.if_icmp .ge 22, 3) := by decide +kernel
theorem dX0_chooseColours_61 : decode cX0_chooseColours 61 = .ok (.iload 5, 2) := by decide +kernel
theorem dX0_chooseColours_63 : decode cX0_chooseColours 63 = .ok (.istore_n 3, 1) := by decide +kernel
theorem dX0_chooseColours_64 : decode cX0_chooseColours 64 = .ok (.aload_n 0, 1) := by decide +kernel
theorem dX0_chooseColours_65 : decode cX0_chooseColours 65 = .ok (.getfield 36, 3) := by decide +kernel
theorem dX0_chooseColours_68 : decode cX0_chooseColours 68 = .ok (.getfield 216, 3) := by decide +kernel
theorem dX0_chooseColours_71 : decode cX0_chooseColours 71 = .ok (.bipush 8, 2) := by decide +kernel
theorem dX0_chooseColours_73 : decode cX0_chooseColours 73 = .ok (.iload_n 1, 1) := by decide +kernel
theorem dX0_chooseColours_74 : decode cX0_chooseColours 74 = .ok (.imul, 1) := by decide +kernel
theorem dX0_chooseColours_75 : decode cX0_chooseColours 75 = .ok (.iconst 5, 1) := by decide +kernel
theorem dX0_chooseColours_76 : decode cX0_chooseColours 76 = .ok (.iadd, 1) := by decide +kernel
theorem dX0_chooseColours_77 : decode cX0_chooseColours 77 = .ok (.iload 4, 2) := by decide +kernel
theorem dX0_chooseColours_79 : decode cX0_chooseColours 79 = .ok (.iastore, 1) := by decide +kernel
theorem dX0_chooseColours_80 : decode cX0_chooseColours 80 = .ok (.iinc 4 1, 3) := by decide +kernel
theorem dX0_chooseColours_83 : decode cX0_chooseColours 83 = .ok (.goto (-76), 3) := by decide +kernel
theorem dX0_chooseColours_86 : decode cX0_chooseColours 86 = .ok (.return_, 1) := by decide +kernel
def FX0_chooseColours (G : GG) (M : DD) (a : Nat) (p0 : Int32) (p1 : Int32) : Option (DD) :=
  bnd (itr (fun (s2 : Int32 × Int32 × DD) => ((if ((4 : Int32)) ≤ s2.2.1 then (some (.inr (s2.1, s2.2.1, s2.2.2))) else
  (bnd (FX9_mayBeColours G s2.2.2 s2.2.1 p1) fun y6 =>
  bnd (if y6.2 = ((0 : Int32)) then (some (s2.1, y6.1)) else
  (dr G 6 ((y6.1.2 a 4)) fun b10 =>
  bnd (FX6_predictColours_ G y6.1 b10 ((y6.1.2 a 3)) p0 s2.2.1 p1) fun y11 =>
  dr G 6 ((y11.2 a 4)) fun b12 =>
  bnd (FX6_colourDifferences G y11 b12 ((y11.2 a 3)) ((y11.2 a 9)) p0) fun y13 =>
  bnd (if s2.1 ≤ y13.2 then (some (s2.1, y13.1)) else
  (dr G 9 ((y13.1.2 a 3)) fun b16 =>
  ltt ((((8 : Int32)) * p0)) fun x17 =>
  ltt ((x17 + ((5 : Int32)))) fun x18 =>
  dr G 13 ((y13.1.2 b16 6)) fun b19 =>
  chk (¬ (x18 < 0 ∨ G.2.2 b19 ≤ x18.toNatClampNeg)) <|
  ltt (uI y13.1 b19 x18.toNatClampNeg s2.2.1) fun M20 =>
  some (y13.2, M20))) fun (y14 : Int32 × DD) =>
  some (y14.1, y14.2))) fun (y7 : Int32 × DD) =>
  ltt (s2.2.1 + (1 : Int32)) fun x8 =>
  some (.inl (y7.1, x8, y7.2)))) : Option ((Int32 × Int32 × DD) ⊕ (Int32 × Int32 × DD)))) 1000000 ((2147483647 : Int32), (0 : Int32), M)) fun (y1 : Int32 × Int32 × DD) =>
  some y1.2.2
set_option maxHeartbeats 4000000 in
set_option maxRecDepth 100000 in
theorem kX0_chooseColours (l : Launch) (D : va_G) (ct : CT) (ad : Nat → Nat) (Z : Nat → Nat) (G : GG) (M : DD) (sz : Nat) (a : Nat) (p0 : Int32) (p1 : Int32) (y : DD) (hc : a < G.1) (hk : G.2.1 a = 0) (hF : FX0_chooseColours G M a p0 p1 = some y) : Met l yX0_chooseColours wsX0_chooseColours ({ frames := 3, cells := 0, slots := 0, locals := 79 }) (va_Pc [.ref (ad a), .int p0, .int p1] (kB D ct ad Z G M sz)) (va_Qv (fun (_ : Unit) => True) (fun _ t => kE D ct ad G (wA ad G sz) y t) (wA ad G sz)) 0 0 (wA ad G sz) := by
  refine Met.ofW (cc := cX0_chooseColours) (maxL := 6) (ret := none) (by decide) rfl ?_
  intro p e s m args below meth c s₁ B hml hv
  obtain ⟨rfl, hsz, hP, hK, hD0, hZ, hN⟩ := hv
  have hx := B.exec
  have hb := B.bytes
  have hr := B.returns
  have hts := atoms_spec (ws := wsX0_chooseColours) B.pre
  have hown : s.vm.findClass RX0 = some m.cls := findClass_of_methodNamed B.named
  have hlocks := B.notSynchronized
  subst hsz
  have hD := wD_self (sz := s.heap.size) hD0
  have hA9 : ∀ q, s.heap.size ≤ q → wA ad G s.heap.size q := fun q h => Or.inr h
  generalize hAe : wA ad G s.heap.size = A at hD hA9 hZ ⊢
  have hS : va_S A s.heap s.heap [] := va_S.rf
  have hl := lv_entry ([.ref (ad a), .int p0, .int p1]) (n := 6) (Nat.le_of_ble_eq_true rfl)
  rw [lg_entry_eq]
  generalize (lg_sl ([.ref (ad a), .int p0, .int p1]) ++ List.replicate (6 - (lg_sl ([.ref (ad a), .int p0, .int p1])).length) Slot.unset).toArray = ls at hl ⊢
  have hl : lv_has ls 6 [(0, .ref (ad a)), (1, .int p0), (2, .int p1)] := hl
  unfold FX0_chooseColours at hF
  refine lv_ldcw (v := (2147483647 : Int32)) hx hb hown (hts (.constant RX0 435 (2147483647 : Int32)) (by decide +kernel)) dX0_chooseColours_0 ?_
  refine lv_istore_n (lv' := [(3, .int (2147483647 : Int32)), (0, .ref (ad a)), (1, .int p0), (2, .int p1)]) hx hb dX0_chooseColours_3 rfl hl (by decide) rfl (fun ls hl => ?_)
  refine lv_iconst (v := (0 : Int32)) hx hb dX0_chooseColours_4 (by decide) ?_
  refine lv_istore (lv' := [(4, .int (0 : Int32)), (3, .int (2147483647 : Int32)), (0, .ref (ad a)), (1, .int p0), (2, .int p1)]) hx hb dX0_chooseColours_5 hl (by decide) rfl (fun ls hl => ?_)
  obtain ⟨y1, hy1, hF⟩ := bnd_some hF
  have K1 : ∀ (H : Heap) (locs : List Loc) (ls : Array Slot), va_P D classes (wld ct ad G y1.2.2) H → va_D A (wld ct ad G y1.2.2) → va_S A s.heap H locs → lv_has ls 6 [(4, .int y1.2.1), (3, .int y1.1), (0, .ref (ad a)), (1, .int p0), (2, .int p1)] → W p l e (headSpec wsX0_chooseColours ({ frames := 3, cells := 0, slots := 0, locals := 79 })).room s m ([.ref (ad a), .int p0, .int p1] : List Value).toArray below meth c H locs 0 0 (MQ below (va_Qv (fun (_ : Unit) => True) (fun _ t => kE D ct ad G A y t) A) ([.ref (ad a), .int p0, .int p1] : List Value).toArray s 0 0 A) (F0 m 86 ls []) := by
    intro H locs ls hP hD hS hl
    obtain rfl := Option.some.inj hF
    exact W.vret hx hb hr (fun t ht hW => ⟨⟨(), rfl, trivial, ⟨by rw [ht]; exact hP, va_K.moved hW.alike hK, hD⟩⟩, hS.F ht⟩) hS.2.2 dX0_chooseColours_86
  clear hF
  refine itr_rule (fun (s2 : Int32 × Int32 × DD) => ∀ (H : Heap) (locs : List Loc) (ls : Array Slot), va_P D classes (wld ct ad G s2.2.2) H → va_D A (wld ct ad G s2.2.2) → va_S A s.heap H locs → lv_has ls 6 [(4, .int s2.2.1), (3, .int s2.1), (0, .ref (ad a)), (1, .int p0), (2, .int p1)] → W p l e (headSpec wsX0_chooseColours ({ frames := 3, cells := 0, slots := 0, locals := 79 })).room s m ([.ref (ad a), .int p0, .int p1] : List Value).toArray below meth c H locs 0 0 (MQ below (va_Qv (fun (_ : Unit) => True) (fun _ t => kE D ct ad G A y t) A) ([.ref (ad a), .int p0, .int p1] : List Value).toArray s 0 0 A) (F0 m 7 ls [])) ?_ _ _ hy1 _ _ _ hP hD hS (lv_sub hl [0, 1, 2, 3, 4] rfl)
  rintro s2 ⟨z4, hF, hwz4⟩ H locs ls hP hD hS hl
  try dsimp only at hF
  refine lv_iload hx hb dX0_chooseColours_7 (lv_at hl 0 rfl) ?_
  refine lv_iconst (v := (4 : Int32)) hx hb dX0_chooseColours_9 (by decide) ?_
  refine lv_icmp_ge (tgt := 86) hx hb dX0_chooseColours_10 (by decide) (fun c5 => ?_) (fun c5 => ?_)
  · rw [if_pos c5] at hF
    obtain rfl := Option.some.inj hF
    subst hwz4
    exact K1 _ _ _ hP hD hS (lv_sub hl [0, 1, 2, 3, 4] rfl)
  · rw [if_neg c5] at hF
    refine lv_iload hx hb dX0_chooseColours_13 (lv_at hl 0 rfl) ?_
    refine lv_iload_n hx hb dX0_chooseColours_15 rfl (lv_at hl 4 rfl) ?_
    obtain ⟨y6, hy6, hF⟩ := bnd_some hF
    have hf9 := wA_in hD hA9 hS
    refine va_calli (va_runS (As := [.int s2.2.1, .int p1]) (rest := []) ⟨hx, hb, hml, hown, hts⟩ (kX9_mayBeColours l D ct ad Z G s2.2.2 H.size s2.2.1 p1 y6 hy6) (va_cwS 2 hts gX0_chooseColours_X9_mayBeColours rfl rfl rfl (by decide +kernel) ⟨Nat.le_of_ble_eq_true rfl, Nat.le_of_ble_eq_true rfl⟩) ⟨fun a U g mk q => by obtain ⟨q0, q1, qP, qK, qD, qZ, qN⟩ := q; exact ⟨q0, q1, qP, va_K.moved (u := U) (U := U.calling g mk a) (Vm.Alike.refl U.vm) qK, qD, sF.moved (u := U) (U := U.calling g mk a) (Vm.Alike.refl U.vm) qZ, nF.same rfl qN⟩, fun U hU hW => ⟨rfl, by rw [hU], by rw [hU]; exact hP, va_K.moved hW.alike hK, hD.weaken (fun _ _ _ _ => trivial), by rw [hU]; exact ((hZ.kept hS.2.1).narrow hf9).moved hW.alike, hN.warm hW⟩⟩ rfl rfl hl.1 rfl (lv_room (Nat.le_of_ble_eq_true rfl)) dX0_chooseColours_16 ⟨(Nat.zero_le _), (Nat.zero_le _)⟩) hS (fun q _ h => hf9 q h) hf9 (fun r u t H locs ht hvm hw hB hz1 hk1 hS => ?_)
    obtain ⟨hP, hK9, hD9⟩ := hB
    rw [ht] at hP
    try dsimp only at hw
    subst hw
    have hD := hD9.weaken (fun _ q _ h => hf9 q.1 h)
    obtain ⟨y7, hy7, hF⟩ := bnd_some hF
    have J7 : ∀ (H : Heap) (locs : List Loc) (ls : Array Slot), va_P D classes (wld ct ad G y7.2) H → va_D A (wld ct ad G y7.2) → va_S A s.heap H locs → lv_has ls 6 [(4, .int s2.2.1), (3, .int y7.1), (0, .ref (ad a)), (1, .int p0), (2, .int p1)] → W p l e (headSpec wsX0_chooseColours ({ frames := 3, cells := 0, slots := 0, locals := 79 })).room s m ([.ref (ad a), .int p0, .int p1] : List Value).toArray below meth c H locs 0 0 (MQ below (va_Qv (fun (_ : Unit) => True) (fun _ t => kE D ct ad G A y t) A) ([.ref (ad a), .int p0, .int p1] : List Value).toArray s 0 0 A) (F0 m 80 ls []) := by
      intro H locs ls hP hD hS hl
      obtain ⟨x8, ex8, hF⟩ := ltt_some hF
      refine lv_iinc (v := x8) (lv' := [(4, .int x8), (3, .int y7.1), (0, .ref (ad a)), (1, .int p0), (2, .int p1)]) hx hb dX0_chooseColours_80 hl (k := 0) rfl (by rw [ex8]; rfl) (by decide) rfl (fun ls hl => ?_)
      refine lv_goto (tgt := 7) hx hb dX0_chooseColours_83 (by decide) ?_
      obtain rfl := Option.some.inj hF
      exact hwz4 _ _ _ hP hD hS (lv_sub hl [0, 1, 2, 3, 4] rfl)
    clear hF
    have hF := hy7
    clear hy7
    refine lv_if_eq (tgt := 80) hx hb dX0_chooseColours_19 (by decide) (fun c9 => ?_) (fun c9 => ?_)
    · rw [if_pos c9] at hF
      obtain rfl := Option.some.inj hF
      exact J7 _ _ _ hP hD hS (lv_sub hl [0, 1, 2, 3, 4] rfl)
    · rw [if_neg c9] at hF
      refine lv_aload_n hx hb dX0_chooseColours_22 rfl (lv_at hl 2 rfl) ?_
      refine va_get (D := D) (ci := 0) (v := va_re ad (y6.1.2 a 4)) (C := RX0) (T := TX0) (N := 21) hx hb hts (by decide +kernel) hown hK hP a (wld_o ct ad G y6.1 hc hk (by decide)) rfl 4 (by decide) (hts (.fieldLink RX0 43 "VideoSuite$Coder" "samples" "LVideoSuite$Samples;") (by decide +kernel)) (fun _ h9 => h9) rfl dX0_chooseColours_23 ?_
      refine lv_aload_n hx hb dX0_chooseColours_26 rfl (lv_at hl 2 rfl) ?_
      refine va_get (D := D) (ci := 0) (v := va_re ad (y6.1.2 a 3)) (C := RX0) (T := TX0) (N := 21) hx hb hts (by decide +kernel) hown hK hP a (wld_o ct ad G y6.1 hc hk (by decide)) rfl 3 (by decide) (hts (.fieldLink RX0 36 "VideoSuite$Coder" "work" "LVideoSuite$Work;") (by decide +kernel)) (fun _ h9 => h9) rfl dX0_chooseColours_27 ?_
      refine lv_iload_n hx hb dX0_chooseColours_30 rfl (lv_at hl 3 rfl) ?_
      refine lv_iload hx hb dX0_chooseColours_31 (lv_at hl 0 rfl) ?_
      refine lv_iload_n hx hb dX0_chooseColours_33 rfl (lv_at hl 4 rfl) ?_
      obtain ⟨b10, ho10, hc10, hk10, hF⟩ := dr_some hF
      refine W_st (st' := [.int p1, .int s2.2.1, .int p0, va_re ad (y6.1.2 a 3), .ref (ad b10)]) (by rw [va_some ho10]) ?_
      obtain ⟨y11, hy11, hF⟩ := bnd_some hF
      have hf9 := wA_in hD hA9 hS
      refine va_callv (va_runV (As := [va_re ad (y6.1.2 a 3), .int p0, .int s2.2.1, .int p1]) (rest := []) ⟨hx, hb, hml, hown, hts⟩ (kX6_predictColours_ l D ct ad Z G y6.1 H.size b10 ((y6.1.2 a 3)) p0 s2.2.1 p1 y11 hc10 hk10 hy11) (cwV 4 hts gX0_chooseColours_X6_predictColours_ rfl rfl rfl (by decide +kernel) ⟨Nat.le_of_ble_eq_true rfl, Nat.le_of_ble_eq_true rfl⟩) ⟨fun a U g mk q => by obtain ⟨q0, q1, qP, qK, qD, qZ, qN⟩ := q; exact ⟨q0, q1, qP, va_K.moved (u := U) (U := U.calling g mk a) (Vm.Alike.refl U.vm) qK, qD, sF.moved (u := U) (U := U.calling g mk a) (Vm.Alike.refl U.vm) qZ, nF.same rfl qN⟩, va_recv hK hP (ci := 6) (q0 := b10) rfl (wld_o ct ad G y6.1 hc10 hk10 (by decide)), fun U hU hW => ⟨rfl, by rw [hU], by rw [hU]; exact hP, va_K.moved hW.alike hK, hD.weaken (fun _ _ _ _ => trivial), by rw [hU]; exact ((hZ.kept hS.2.1).narrow hf9).moved hW.alike, hN.warm hW⟩⟩ rfl rfl hl.1 rfl (lv_room (Nat.le_of_ble_eq_true rfl)) dX0_chooseColours_34 ⟨(Nat.zero_le _), (Nat.zero_le _)⟩) hS (fun q _ h => hf9 q h) hf9 (fun u t H locs ht hvm hw hB hz1 hk1 hS => ?_)
      obtain ⟨hP, hK9, hD9⟩ := hB
      rw [ht] at hP
      have hD := hD9.weaken (fun _ q _ h => hf9 q.1 h)
      refine lv_aload_n hx hb dX0_chooseColours_37 rfl (lv_at hl 2 rfl) ?_
      refine va_get (D := D) (ci := 0) (v := va_re ad (y11.2 a 4)) (C := RX0) (T := TX0) (N := 21) hx hb hts (by decide +kernel) hown hK hP a (wld_o ct ad G y11 hc hk (by decide)) rfl 4 (by decide) (hts (.fieldLink RX0 43 "VideoSuite$Coder" "samples" "LVideoSuite$Samples;") (by decide +kernel)) (fun _ h9 => h9) rfl dX0_chooseColours_38 ?_
      refine lv_aload_n hx hb dX0_chooseColours_41 rfl (lv_at hl 2 rfl) ?_
      refine va_get (D := D) (ci := 0) (v := va_re ad (y11.2 a 3)) (C := RX0) (T := TX0) (N := 21) hx hb hts (by decide +kernel) hown hK hP a (wld_o ct ad G y11 hc hk (by decide)) rfl 3 (by decide) (hts (.fieldLink RX0 36 "VideoSuite$Coder" "work" "LVideoSuite$Work;") (by decide +kernel)) (fun _ h9 => h9) rfl dX0_chooseColours_42 ?_
      refine lv_aload_n hx hb dX0_chooseColours_45 rfl (lv_at hl 2 rfl) ?_
      refine va_get (D := D) (ci := 0) (v := va_re ad (y11.2 a 9)) (C := RX0) (T := TX0) (N := 21) hx hb hts (by decide +kernel) hown hK hP a (wld_o ct ad G y11 hc hk (by decide)) rfl 9 (by decide) (hts (.fieldLink RX0 69 "VideoSuite$Coder" "source" "[[I") (by decide +kernel)) (fun _ h9 => h9) rfl dX0_chooseColours_46 ?_
      refine lv_iload_n hx hb dX0_chooseColours_49 rfl (lv_at hl 3 rfl) ?_
      obtain ⟨b12, ho12, hc12, hk12, hF⟩ := dr_some hF
      refine W_st (st' := [.int p0, va_re ad (y11.2 a 9), va_re ad (y11.2 a 3), .ref (ad b12)]) (by rw [va_some ho12]) ?_
      obtain ⟨y13, hy13, hF⟩ := bnd_some hF
      have hf9 := wA_in hD hA9 hS
      refine va_calli (va_runV (As := [va_re ad (y11.2 a 3), va_re ad (y11.2 a 9), .int p0]) (rest := []) ⟨hx, hb, hml, hown, hts⟩ (kX6_colourDifferences l D ct ad Z G y11 H.size b12 ((y11.2 a 3)) ((y11.2 a 9)) p0 y13 hc12 hk12 hy13) (cwV 3 hts gX0_chooseColours_X6_colourDifferences rfl rfl rfl (by decide +kernel) ⟨Nat.le_of_ble_eq_true rfl, Nat.le_of_ble_eq_true rfl⟩) ⟨fun a U g mk q => by obtain ⟨q0, q1, qP, qK, qD, qZ, qN⟩ := q; exact ⟨q0, q1, qP, va_K.moved (u := U) (U := U.calling g mk a) (Vm.Alike.refl U.vm) qK, qD, sF.moved (u := U) (U := U.calling g mk a) (Vm.Alike.refl U.vm) qZ, nF.same rfl qN⟩, va_recv hK hP (ci := 6) (q0 := b12) rfl (wld_o ct ad G y11 hc12 hk12 (by decide)), fun U hU hW => ⟨rfl, by rw [hU], by rw [hU]; exact hP, va_K.moved hW.alike hK, hD.weaken (fun _ _ _ _ => trivial), by rw [hU]; exact ((hZ.kept hS.2.1).narrow hf9).moved hW.alike, hN.warm hW⟩⟩ rfl rfl hl.1 rfl (lv_room (Nat.le_of_ble_eq_true rfl)) dX0_chooseColours_50 ⟨(Nat.zero_le _), (Nat.zero_le _)⟩) hS (fun q _ h => hf9 q h) hf9 (fun r u t H locs ht hvm hw hB hz1 hk1 hS => ?_)
      obtain ⟨hP, hK9, hD9⟩ := hB
      rw [ht] at hP
      try dsimp only at hw
      subst hw
      have hD := hD9.weaken (fun _ q _ h => hf9 q.1 h)
      refine lv_istore (lv' := [(5, .int y13.2), (4, .int s2.2.1), (3, .int s2.1), (0, .ref (ad a)), (1, .int p0), (2, .int p1)]) hx hb dX0_chooseColours_53 hl (by decide) rfl (fun ls hl => ?_)
      refine lv_iload hx hb dX0_chooseColours_55 (lv_at hl 0 rfl) ?_
      refine lv_iload_n hx hb dX0_chooseColours_57 rfl (lv_at hl 2 rfl) ?_
      obtain ⟨y14, hy14, hF⟩ := bnd_some hF
      have J14 : ∀ (H : Heap) (locs : List Loc) (ls : Array Slot), va_P D classes (wld ct ad G y14.2) H → va_D A (wld ct ad G y14.2) → va_S A s.heap H locs → lv_has ls 6 [(5, .int y13.2), (4, .int s2.2.1), (3, .int y14.1), (0, .ref (ad a)), (1, .int p0), (2, .int p1)] → W p l e (headSpec wsX0_chooseColours ({ frames := 3, cells := 0, slots := 0, locals := 79 })).room s m ([.ref (ad a), .int p0, .int p1] : List Value).toArray below meth c H locs 0 0 (MQ below (va_Qv (fun (_ : Unit) => True) (fun _ t => kE D ct ad G A y t) A) ([.ref (ad a), .int p0, .int p1] : List Value).toArray s 0 0 A) (F0 m 80 ls []) := by
        intro H locs ls hP hD hS hl
        obtain rfl := Option.some.inj hF
        exact J7 _ _ _ hP hD hS (lv_sub hl [1, 2, 3, 4, 5] rfl)
      clear hF
      have hF := hy14
      clear hy14
      refine lv_icmp_ge (tgt := 80) hx hb dX0_chooseColours_58 (by decide) (fun c15 => ?_) (fun c15 => ?_)
      · rw [if_pos c15] at hF
        obtain rfl := Option.some.inj hF
        exact J14 _ _ _ hP hD hS (lv_sub hl [0, 1, 2, 3, 4, 5] rfl)
      · rw [if_neg c15] at hF
        refine lv_iload hx hb dX0_chooseColours_61 (lv_at hl 0 rfl) ?_
        refine lv_istore_n (lv' := [(3, .int y13.2), (5, .int y13.2), (4, .int s2.2.1), (0, .ref (ad a)), (1, .int p0), (2, .int p1)]) hx hb dX0_chooseColours_63 rfl hl (by decide) rfl (fun ls hl => ?_)
        refine lv_aload_n hx hb dX0_chooseColours_64 rfl (lv_at hl 3 rfl) ?_
        refine va_get (D := D) (ci := 0) (v := va_re ad (y13.1.2 a 3)) (C := RX0) (T := TX0) (N := 21) hx hb hts (by decide +kernel) hown hK hP a (wld_o ct ad G y13.1 hc hk (by decide)) rfl 3 (by decide) (hts (.fieldLink RX0 36 "VideoSuite$Coder" "work" "LVideoSuite$Work;") (by decide +kernel)) (fun _ h9 => h9) rfl dX0_chooseColours_65 ?_
        obtain ⟨b16, ho16, hc16, hk16, hF⟩ := dr_some hF
        refine W_st (st' := [.ref (ad b16)]) (by rw [va_some ho16]) ?_
        refine va_get (D := D) (ci := 9) (v := va_re ad (y13.1.2 b16 6)) (C := RX9) (T := TX9) (N := 20) hx hb hts (by decide +kernel) hown hK hP b16 (wld_o ct ad G y13.1 hc16 hk16 (by decide)) rfl 6 (by decide) (hts (.fieldLink RX0 216 "VideoSuite$Work" "info" "[I") (by decide +kernel)) (fun _ h9 => h9) rfl dX0_chooseColours_68 ?_
        refine lv_bipush (v := (8 : Int32)) hx hb dX0_chooseColours_71 (by decide) ?_
        refine lv_iload_n hx hb dX0_chooseColours_73 rfl (lv_at hl 4 rfl) ?_
        refine lv_imul hx hb dX0_chooseColours_74 ?_
        obtain ⟨x17, ex17, hF⟩ := ltt_some hF
        refine lv_topi (fun zx17 ezx17 => ?_)
        obtain rfl : x17 = zx17 := ex17.trans ezx17.symm
        refine lv_iconst (v := (5 : Int32)) hx hb dX0_chooseColours_75 (by decide) ?_
        refine lv_iadd hx hb dX0_chooseColours_76 ?_
        obtain ⟨x18, ex18, hF⟩ := ltt_some hF
        refine lv_topi (fun zx18 ezx18 => ?_)
        obtain rfl : x18 = zx18 := ex18.trans ezx18.symm
        refine lv_iload hx hb dX0_chooseColours_77 (lv_at hl 2 rfl) ?_
        obtain ⟨b19, ho19, hc19, hk19, hF⟩ := dr_some hF
        refine W_st (st' := [.int s2.2.1, .int x18, .ref (ad b19)]) (by rw [va_some ho19]) ?_
        obtain ⟨hvc, hF⟩ := chk_some hF
        refine va_iast hx hb hK hP hD hS b19 1 (wld_i ct ad G y13.1 hc19 hk19) rfl hvc dX0_chooseColours_79 (fun H locs hP hD hS => ?_)
        obtain ⟨M20, eM20, hF⟩ := ltt_some hF
        rw [set_i ct ad G y13.1 hc19 hk19, ← eM20] at hP hD
        obtain rfl := Option.some.inj hF
        exact J14 _ _ _ hP hD hS (lv_sub hl [1, 2, 0, 3, 4, 5] rfl)
theorem ggX0_costOf_X6_predictRegion : GoodIn wsX0_costOf wsX6_predictRegion := goodIn_r _ [10, 11, 12, 13, 14, 15, 16, 17, 18, 19, 20, 21, 22, 23, 24, 25, 26, 9, 27, 28, 29, 30, 31, 32, 33, 34, 35, 36, 37, 38, 39, 40, 41, 42, 43, 44, 45, 46, 47, 48, 49, 50, 51, 52, 53, 54, 55, 56, 57, 58, 59, 60, 61, 62, 63, 64, 65, 66, 67, 68, 69, 70, 71, 72, 73, 74, 75, 76, 77, 78, 79, 80, 81, 82, 83, 84, 85, 86, 87, 88, 155, 156, 157, 158, 159, 160, 161, 162, 163, 164, 165, 166, 167, 168, 169, 170, 171, 172, 173, 174, 175, 176, 177, 178, 179, 180, 181, 182, 183, 184, 185, 186, 187, 188, 189, 190, 191, 192, 141, 142, 143, 144, 145, 146, 147, 148, 149, 150, 151, 152, 153, 154, 193, 194, 195, 196] (by decide +kernel) (by decide +kernel)
set_option maxRecDepth 20000 in
theorem gX0_costOf_X6_predictRegion : GoodIn wsX0_costOf (wsV RX0 494 RX6 yX6_predictRegion wsX6_predictRegion) := goodIn_app (goodIn_of _ (by decide +kernel)) ggX0_costOf_X6_predictRegion
set_option maxRecDepth 20000 in
theorem ggX0_costOf_X6_differences : GoodIn wsX0_costOf wsX6_differences := goodIn_r _ [92, 11, 85, 17, 18, 19, 20, 21, 22, 23, 93, 94, 9, 95, 12, 155, 156, 157, 158, 159, 160, 161, 162, 163, 164, 165, 166, 167, 168, 169, 170, 171, 172, 173, 174, 141, 142, 143, 144, 145, 146, 147, 148, 149, 150, 151, 152, 153, 154, 175, 176, 177, 178, 179, 180, 181, 182, 183, 184, 185, 186, 187, 188, 189, 190, 191, 192] (by decide +kernel) (by decide +kernel)
set_option maxRecDepth 20000 in
theorem gX0_costOf_X6_differences : GoodIn wsX0_costOf (wsV RX0 452 RX6 yX6_differences wsX6_differences) := goodIn_app (goodIn_of _ (by decide +kernel)) ggX0_costOf_X6_differences
set_option maxRecDepth 20000 in
theorem ggX0_costOf_X0_priceOfBit : GoodIn wsX0_costOf wsX0_priceOfBit := goodIn_r _ [100, 4, 101, 102, 120, 121, 122, 123, 124, 125, 126, 127, 128, 129, 130, 131, 132, 133, 134, 135, 136, 137, 138, 139, 140, 155, 156, 157, 158, 159, 160, 161, 162, 163, 164, 165, 166, 167, 168, 169, 170, 171, 172, 173, 174, 193, 194, 195, 196] (by decide +kernel) (by decide +kernel)
set_option maxRecDepth 20000 in
theorem gX0_costOf_X0_priceOfBit : GoodIn wsX0_costOf (wsV RX0 456 RX0 yX0_priceOfBit wsX0_priceOfBit) := goodIn_app (goodIn_of _ (by decide +kernel)) ggX0_costOf_X0_priceOfBit
set_option maxRecDepth 20000 in
theorem ggX0_costOf_X0_bitsOf : GoodIn wsX0_costOf wsX0_bitsOf := goodIn_r _ [106, 4, 101, 102, 107, 108, 109, 110, 111, 112, 113, 114, 115, 116, 117, 118, 119, 120, 121, 122, 123, 124, 125, 126, 127, 128, 129, 130, 131, 132, 133, 134, 135, 136, 137, 138, 139, 140, 155, 156, 157, 158, 159, 160, 161, 162, 163, 164, 165, 166, 167, 168, 169, 170, 171, 172, 173, 174, 193, 194, 195, 196] (by decide +kernel) (by decide +kernel)
set_option maxRecDepth 20000 in
theorem gX0_costOf_X0_bitsOf : GoodIn wsX0_costOf (wsV RX0 478 RX0 yX0_bitsOf wsX0_bitsOf) := goodIn_app (goodIn_of _ (by decide +kernel)) ggX0_costOf_X0_bitsOf
theorem dX0_costOf_0 : decode cX0_costOf 0 = .ok (.iload 4, 2) := by decide +kernel
theorem dX0_costOf_2 : decode cX0_costOf 2 = .ok (.sipush (-2048), 3) := by decide +kernel
theorem dX0_costOf_5 : decode cX0_costOf 5 = .ok (.if_icmp .lt 27, 3) := by decide +kernel
theorem dX0_costOf_8 : decode cX0_costOf 8 = .ok (.iload 4, 2) := by decide +kernel
theorem dX0_costOf_10 : decode cX0_costOf 10 = .ok (.sipush 2047, 3) := by decide +kernel
theorem dX0_costOf_13 : decode cX0_costOf 13 = .ok (.if_icmp .gt 19, 3) := by decide +kernel
theorem dX0_costOf_16 : decode cX0_costOf 16 = .ok (.iload 5, 2) := by decide +kernel
theorem dX0_costOf_18 : decode cX0_costOf 18 = .ok (.sipush (-2048), 3) := by decide +kernel
theorem dX0_costOf_21 : decode cX0_costOf 21 = .ok (.if_icmp .lt 11, 3) := by decide +kernel
theorem dX0_costOf_24 : decode cX0_costOf 24 = .ok (.iload 5, 2) := by decide +kernel
theorem dX0_costOf_26 : decode cX0_costOf 26 = .ok (.sipush 2047, 3) := by decide +kernel
theorem dX0_costOf_29 : decode cX0_costOf 29 = .ok (.if_icmp .le 7, 3) := by decide +kernel
theorem dX0_costOf_32 : decode cX0_costOf 32 = .ok (.ldc_w 435, 3) := by decide +kernel
theorem dX0_costOf_35 : decode cX0_costOf 35 = .ok (.ireturn, 1) := by decide +kernel
theorem dX0_costOf_36 : decode cX0_costOf 36 = .ok (.aload_n 0, 1) := by decide +kernel
theorem dX0_costOf_37 : decode cX0_costOf 37 = .ok (.getfield 43, 3) := by decide +kernel
theorem dX0_costOf_40 : decode cX0_costOf 40 = .ok (.getfield 491, 3) := by decide +kernel
theorem dX0_costOf_43 : decode cX0_costOf 43 = .ok (.astore 6, 2) := by decide +kernel
theorem dX0_costOf_45 : decode cX0_costOf 45 = .ok (.aload 6, 2) := by decide +kernel
theorem dX0_costOf_47 : decode cX0_costOf 47 = .ok (.iconst 3, 1) := by decide +kernel
theorem dX0_costOf_48 : decode cX0_costOf 48 = .ok (.iconst 3, 1) := by decide +kernel
theorem dX0_costOf_49 : decode cX0_costOf 49 = .ok (.iload_n 2, 1) := by decide +kernel
theorem dX0_costOf_50 : decode cX0_costOf 50 = .ok (.imul, 1) := by decide +kernel
theorem dX0_costOf_51 : decode cX0_costOf 51 = .ok (.isub, 1) := by decide +kernel
theorem dX0_costOf_52 : decode cX0_costOf 52 = .ok (.iconst (-1), 1) := by decide +kernel
theorem dX0_costOf_53 : decode cX0_costOf 53 = .ok (.iastore, 1) := by decide +kernel
theorem dX0_costOf_54 : decode cX0_costOf 54 = .ok (.aload 6, 2) := by decide +kernel
theorem dX0_costOf_56 : decode cX0_costOf 56 = .ok (.iconst 3, 1) := by decide +kernel
theorem dX0_costOf_57 : decode cX0_costOf 57 = .ok (.iload_n 2, 1) := by decide +kernel
theorem dX0_costOf_58 : decode cX0_costOf 58 = .ok (.imul, 1) := by decide +kernel
theorem dX0_costOf_59 : decode cX0_costOf 59 = .ok (.iload_n 3, 1) := by decide +kernel
theorem dX0_costOf_60 : decode cX0_costOf 60 = .ok (.iastore, 1) := by decide +kernel
theorem dX0_costOf_61 : decode cX0_costOf 61 = .ok (.aload 6, 2) := by decide +kernel
theorem dX0_costOf_63 : decode cX0_costOf 63 = .ok (.iconst 3, 1) := by decide +kernel
theorem dX0_costOf_64 : decode cX0_costOf 64 = .ok (.iload_n 2, 1) := by decide +kernel
theorem dX0_costOf_65 : decode cX0_costOf 65 = .ok (.imul, 1) := by decide +kernel
theorem dX0_costOf_66 : decode cX0_costOf 66 = .ok (.iconst 1, 1) := by decide +kernel
theorem dX0_costOf_67 : decode cX0_costOf 67 = .ok (.iadd, 1) := by decide +kernel
theorem dX0_costOf_68 : decode cX0_costOf 68 = .ok (.iload 4, 2) := by decide +kernel
theorem dX0_costOf_70 : decode cX0_costOf 70 = .ok (.iastore, 1) := by decide +kernel
theorem dX0_costOf_71 : decode cX0_costOf 71 = .ok (.aload 6, 2) := by decide +kernel
theorem dX0_costOf_73 : decode cX0_costOf 73 = .ok (.iconst 3, 1) := by decide +kernel
theorem dX0_costOf_74 : decode cX0_costOf 74 = .ok (.iload_n 2, 1) := by decide +kernel
theorem dX0_costOf_75 : decode cX0_costOf 75 = .ok (.imul, 1) := by decide +kernel
theorem dX0_costOf_76 : decode cX0_costOf 76 = .ok (.iconst 2, 1) := by decide +kernel
theorem dX0_costOf_77 : decode cX0_costOf 77 = .ok (.iadd, 1) := by decide +kernel
theorem dX0_costOf_78 : decode cX0_costOf 78 = .ok (.iload 5, 2) := by decide +kernel
theorem dX0_costOf_80 : decode cX0_costOf 80 = .ok (.iastore, 1) := by decide +kernel
theorem dX0_costOf_81 : decode cX0_costOf 81 = .ok (.aload_n 0, 1) := by decide +kernel
theorem dX0_costOf_82 : decode cX0_costOf 82 = .ok (.getfield 43, 3) := by decide +kernel
theorem dX0_costOf_85 : decode cX0_costOf 85 = .ok (.aload_n 0, 1) := by decide +kernel
theorem dX0_costOf_86 : decode cX0_costOf 86 = .ok (.getfield 36, 3) := by decide +kernel
theorem dX0_costOf_89 : decode cX0_costOf 89 = .ok (.iload_n 1, 1) := by decide +kernel
theorem dX0_costOf_90 : decode cX0_costOf 90 = .ok (.iconst 0, 1) := by decide +kernel
theorem dX0_costOf_91 : decode cX0_costOf 91 = .ok (.bipush 16, 2) := by decide +kernel
theorem dX0_costOf_93 : decode cX0_costOf 93 = .ok (.iconst 0, 1) := by decide +kernel
theorem dX0_costOf_94 : decode cX0_costOf 94 = .ok (.invokevirtual 494, 3) := by decide +kernel
theorem dX0_costOf_97 : decode cX0_costOf 97 = .ok (.aload_n 0, 1) := by decide +kernel
theorem dX0_costOf_98 : decode cX0_costOf 98 = .ok (.getfield 43, 3) := by decide +kernel
theorem dX0_costOf_101 : decode cX0_costOf 101 = .ok (.aload_n 0, 1) := by decide +kernel
theorem dX0_costOf_102 : decode cX0_costOf 102 = .ok (.getfield 36, 3) := by decide +kernel
theorem dX0_costOf_105 : decode cX0_costOf 105 = .ok (.aload_n 0, 1) := by decide +kernel
theorem dX0_costOf_106 : decode cX0_costOf 106 = .ok (.getfield 69, 3) := by decide +kernel
theorem dX0_costOf_109 : decode cX0_costOf 109 = .ok (.iconst 0, 1) := by decide +kernel
theorem dX0_costOf_110 : decode cX0_costOf 110 = .ok (.aaload, 1) := by decide +kernel
theorem dX0_costOf_111 : decode cX0_costOf 111 = .ok (.iload_n 1, 1) := by decide +kernel
theorem dX0_costOf_112 : decode cX0_costOf 112 = .ok (.iconst 0, 1) := by decide +kernel
theorem dX0_costOf_113 : decode cX0_costOf 113 = .ok (.bipush 16, 2) := by decide +kernel
theorem dX0_costOf_115 : decode cX0_costOf 115 = .ok (.invokevirtual 452, 3) := by decide +kernel
theorem dX0_costOf_118 : decode cX0_costOf 118 = .ok (.aload_n 0, 1) := by decide +kernel
theorem dX0_costOf_119 : decode cX0_costOf 119 = .ok (.invokevirtual 456, 3) := by decide +kernel
theorem dX0_costOf_122 : decode cX0_costOf 122 = .ok (.aload_n 0, 1) := by decide +kernel
theorem dX0_costOf_123 : decode cX0_costOf 123 = .ok (.iload_n 2, 1) := by decide +kernel
theorem dX0_costOf_124 : decode cX0_costOf 124 = .ok (.iload_n 3, 1) := by decide +kernel
theorem dX0_costOf_125 : decode cX0_costOf 125 = .ok (.iload 4, 2) := by decide +kernel
theorem dX0_costOf_127 : decode cX0_costOf 127 = .ok (.iload 5, 2) := by decide +kernel
theorem dX0_costOf_129 : decode cX0_costOf 129 = .ok (.invokevirtual 478, 3) := by decide +kernel
theorem dX0_costOf_132 : decode cX0_costOf 132 = .ok (.imul, 1) := by decide +kernel
theorem dX0_costOf_133 : decode cX0_costOf 133 = .ok (.iadd, 1) := by decide +kernel
theorem dX0_costOf_134 : decode cX0_costOf 134 = .ok (.ireturn, 1) := by decide +kernel
def FX0_costOf (G : GG) (M : DD) (a : Nat) (p0 : Int32) (p1 : Int32) (p2 : Int32) (p3 : Int32) (p4 : Int32) : Option (DD × Int32) :=
  if p3 < ((-2048 : Int32)) then (some (M, (2147483647 : Int32))) else
  (if ((2047 : Int32)) < p3 then (some (M, (2147483647 : Int32))) else
  (if p4 < ((-2048 : Int32)) then (some (M, (2147483647 : Int32))) else
  (if p4 ≤ ((2047 : Int32)) then (dr G 6 ((M.2 a 4)) fun b5 =>
  ltt ((((3 : Int32)) * p1)) fun x6 =>
  ltt ((((3 : Int32)) - x6)) fun x7 =>
  dr G 13 ((M.2 b5 5)) fun b8 =>
  chk (¬ (x7 < 0 ∨ G.2.2 b8 ≤ x7.toNatClampNeg)) <|
  ltt (uI M b8 x7.toNatClampNeg ((-1 : Int32))) fun M9 =>
  ltt ((((3 : Int32)) * p1)) fun x10 =>
  chk (¬ (x10 < 0 ∨ G.2.2 b8 ≤ x10.toNatClampNeg)) <|
  ltt (uI M9 b8 x10.toNatClampNeg p2) fun M11 =>
  ltt ((((3 : Int32)) * p1)) fun x12 =>
  ltt ((x12 + ((1 : Int32)))) fun x13 =>
  chk (¬ (x13 < 0 ∨ G.2.2 b8 ≤ x13.toNatClampNeg)) <|
  ltt (uI M11 b8 x13.toNatClampNeg p3) fun M14 =>
  ltt ((((3 : Int32)) * p1)) fun x15 =>
  ltt ((x15 + ((2 : Int32)))) fun x16 =>
  chk (¬ (x16 < 0 ∨ G.2.2 b8 ≤ x16.toNatClampNeg)) <|
  ltt (uI M14 b8 x16.toNatClampNeg p4) fun M17 =>
  dr G 6 ((M17.2 a 4)) fun b18 =>
  bnd (FX6_predictRegion G M17 b18 ((M17.2 a 3)) p0 ((0 : Int32)) ((16 : Int32)) ((0 : Int32))) fun y19 =>
  dr G 15 ((y19.2 a 9)) fun b20 =>
  chk (¬ (((0 : Int32)) < 0 ∨ G.2.2 b20 ≤ ((0 : Int32)).toNatClampNeg)) <|
  dr G 6 ((y19.2 a 4)) fun b21 =>
  bnd (FX6_differences G y19 b21 ((y19.2 a 3)) ((y19.2 b20 ((0 : Int32)).toNatClampNeg)) p0 ((0 : Int32)) ((16 : Int32))) fun y22 =>
  bnd (FX0_priceOfBit G y22.1 a) fun y23 =>
  bnd (FX0_bitsOf G y23.1 a p1 p2 p3 p4) fun y24 =>
  ltt ((y23.2 * y24.2)) fun x25 =>
  ltt ((y22.2 + x25)) fun x26 =>
  some (y24.1, x26)) else
  (some (M, (2147483647 : Int32))))))
set_option maxHeartbeats 4000000 in
set_option maxRecDepth 100000 in
theorem kX0_costOf (l : Launch) (D : va_G) (ct : CT) (ad : Nat → Nat) (Z : Nat → Nat) (G : GG) (M : DD) (sz : Nat) (a : Nat) (p0 : Int32) (p1 : Int32) (p2 : Int32) (p3 : Int32) (p4 : Int32) (y : DD × Int32) (hc : a < G.1) (hk : G.2.1 a = 0) (hF : FX0_costOf G M a p0 p1 p2 p3 p4 = some y) : Met l yX0_costOf wsX0_costOf ({ frames := 4, cells := 0, slots := 0, locals := 113 }) (va_Pc [.ref (ad a), .int p0, .int p1, .int p2, .int p3, .int p4] (kB D ct ad Z G M sz)) (va_Qi (fun (q : Int32) (_ : Unit) => q = y.2) (fun _ t => kE D ct ad G (wA ad G sz) y.1 t) (wA ad G sz)) 0 0 (wA ad G sz) := by
  refine Met.ofW (cc := cX0_costOf) (maxL := 7) (ret := (some .int)) (by decide) rfl ?_
  intro p e s m args below meth c s₁ B hml hv
  obtain ⟨rfl, hsz, hP, hK, hD0, hZ, hN⟩ := hv
  have hx := B.exec
  have hb := B.bytes
  have hr := B.returns
  have hts := atoms_spec (ws := wsX0_costOf) B.pre
  have hown : s.vm.findClass RX0 = some m.cls := findClass_of_methodNamed B.named
  have hlocks := B.notSynchronized
  subst hsz
  have hD := wD_self (sz := s.heap.size) hD0
  have hA9 : ∀ q, s.heap.size ≤ q → wA ad G s.heap.size q := fun q h => Or.inr h
  generalize hAe : wA ad G s.heap.size = A at hD hA9 hZ ⊢
  have hS : va_S A s.heap s.heap [] := va_S.rf
  have hl := lv_entry ([.ref (ad a), .int p0, .int p1, .int p2, .int p3, .int p4]) (n := 7) (Nat.le_of_ble_eq_true rfl)
  rw [lg_entry_eq]
  generalize (lg_sl ([.ref (ad a), .int p0, .int p1, .int p2, .int p3, .int p4]) ++ List.replicate (7 - (lg_sl ([.ref (ad a), .int p0, .int p1, .int p2, .int p3, .int p4])).length) Slot.unset).toArray = ls at hl ⊢
  have hl : lv_has ls 7 [(0, .ref (ad a)), (1, .int p0), (2, .int p1), (3, .int p2), (4, .int p3), (5, .int p4)] := hl
  unfold FX0_costOf at hF
  refine lv_iload hx hb dX0_costOf_0 (lv_at hl 4 rfl) ?_
  refine lv_sipush (v := (-2048 : Int32)) hx hb dX0_costOf_2 (by decide) ?_
  refine lv_icmp_lt (tgt := 32) hx hb dX0_costOf_5 (by decide) (fun c1 => ?_) (fun c1 => ?_)
  · rw [if_pos c1] at hF
    refine lv_ldcw (v := (2147483647 : Int32)) hx hb hown (hts (.constant RX0 435 (2147483647 : Int32)) (by decide +kernel)) dX0_costOf_32 ?_
    obtain rfl := Option.some.inj hF
    exact W.iret (v := (2147483647 : Int32)) hx hb hr (fun t ht hW => ⟨⟨_, (), rfl, rfl, ⟨by rw [ht]; exact hP, va_K.moved hW.alike hK, hD⟩⟩, hS.F ht⟩) hS.2.2 dX0_costOf_35
  · rw [if_neg c1] at hF
    refine lv_iload hx hb dX0_costOf_8 (lv_at hl 4 rfl) ?_
    refine lv_sipush (v := (2047 : Int32)) hx hb dX0_costOf_10 (by decide) ?_
    refine lv_icmp_gt (tgt := 32) hx hb dX0_costOf_13 (by decide) (fun c2 => ?_) (fun c2 => ?_)
    · rw [if_pos c2] at hF
      refine lv_ldcw (v := (2147483647 : Int32)) hx hb hown (hts (.constant RX0 435 (2147483647 : Int32)) (by decide +kernel)) dX0_costOf_32 ?_
      obtain rfl := Option.some.inj hF
      exact W.iret (v := (2147483647 : Int32)) hx hb hr (fun t ht hW => ⟨⟨_, (), rfl, rfl, ⟨by rw [ht]; exact hP, va_K.moved hW.alike hK, hD⟩⟩, hS.F ht⟩) hS.2.2 dX0_costOf_35
    · rw [if_neg c2] at hF
      refine lv_iload hx hb dX0_costOf_16 (lv_at hl 5 rfl) ?_
      refine lv_sipush (v := (-2048 : Int32)) hx hb dX0_costOf_18 (by decide) ?_
      refine lv_icmp_lt (tgt := 32) hx hb dX0_costOf_21 (by decide) (fun c3 => ?_) (fun c3 => ?_)
      · rw [if_pos c3] at hF
        refine lv_ldcw (v := (2147483647 : Int32)) hx hb hown (hts (.constant RX0 435 (2147483647 : Int32)) (by decide +kernel)) dX0_costOf_32 ?_
        obtain rfl := Option.some.inj hF
        exact W.iret (v := (2147483647 : Int32)) hx hb hr (fun t ht hW => ⟨⟨_, (), rfl, rfl, ⟨by rw [ht]; exact hP, va_K.moved hW.alike hK, hD⟩⟩, hS.F ht⟩) hS.2.2 dX0_costOf_35
      · rw [if_neg c3] at hF
        refine lv_iload hx hb dX0_costOf_24 (lv_at hl 5 rfl) ?_
        refine lv_sipush (v := (2047 : Int32)) hx hb dX0_costOf_26 (by decide) ?_
        refine lv_icmp_le (tgt := 36) hx hb dX0_costOf_29 (by decide) (fun c4 => ?_) (fun c4 => ?_)
        · rw [if_pos c4] at hF
          refine lv_aload_n hx hb dX0_costOf_36 rfl (lv_at hl 0 rfl) ?_
          refine va_get (D := D) (ci := 0) (v := va_re ad (M.2 a 4)) (C := RX0) (T := TX0) (N := 21) hx hb hts (by decide +kernel) hown hK hP a (wld_o ct ad G M hc hk (by decide)) rfl 4 (by decide) (hts (.fieldLink RX0 43 "VideoSuite$Coder" "samples" "LVideoSuite$Samples;") (by decide +kernel)) (fun _ h9 => h9) rfl dX0_costOf_37 ?_
          obtain ⟨b5, ho5, hc5, hk5, hF⟩ := dr_some hF
          refine W_st (st' := [.ref (ad b5)]) (by rw [va_some ho5]) ?_
          refine va_get (D := D) (ci := 6) (v := va_re ad (M.2 b5 5)) (C := RX6) (T := TX6) (N := 14) hx hb hts (by decide +kernel) hown hK hP b5 (wld_o ct ad G M hc5 hk5 (by decide)) rfl 5 (by decide) (hts (.fieldLink RX0 491 "VideoSuite$Samples" "motion" "[I") (by decide +kernel)) (fun _ h9 => h9) rfl dX0_costOf_40 ?_
          refine lv_astoreq (lv' := [(6, va_re ad (M.2 b5 5)), (0, .ref (ad a)), (1, .int p0), (2, .int p1), (3, .int p2), (4, .int p3), (5, .int p4)]) hx hb dX0_costOf_43 hl (by decide) rfl (fun ls hl => ?_)
          refine lv_aloadq hx hb dX0_costOf_45 (lv_at hl 0 rfl) ?_
          refine lv_iconst (v := (3 : Int32)) hx hb dX0_costOf_47 (by decide) ?_
          refine lv_iconst (v := (3 : Int32)) hx hb dX0_costOf_48 (by decide) ?_
          refine lv_iload_n hx hb dX0_costOf_49 rfl (lv_at hl 3 rfl) ?_
          refine lv_imul hx hb dX0_costOf_50 ?_
          obtain ⟨x6, ex6, hF⟩ := ltt_some hF
          refine lv_topi (fun zx6 ezx6 => ?_)
          obtain rfl : x6 = zx6 := ex6.trans ezx6.symm
          refine lv_isub hx hb dX0_costOf_51 ?_
          obtain ⟨x7, ex7, hF⟩ := ltt_some hF
          refine lv_topi (fun zx7 ezx7 => ?_)
          obtain rfl : x7 = zx7 := ex7.trans ezx7.symm
          refine lv_iconst (v := (-1 : Int32)) hx hb dX0_costOf_52 (by decide) ?_
          obtain ⟨b8, ho8, hc8, hk8, hF⟩ := dr_some hF
          refine W_st (st' := [.int (-1 : Int32), .int x7, .ref (ad b8)]) (by rw [va_some ho8]) ?_
          obtain ⟨hvc, hF⟩ := chk_some hF
          refine va_iast hx hb hK hP hD hS b8 1 (wld_i ct ad G M hc8 hk8) rfl hvc dX0_costOf_53 (fun H locs hP hD hS => ?_)
          obtain ⟨M9, eM9, hF⟩ := ltt_some hF
          rw [set_i ct ad G M hc8 hk8, ← eM9] at hP hD
          refine lv_aloadq hx hb dX0_costOf_54 (lv_at hl 0 rfl) ?_
          refine lv_iconst (v := (3 : Int32)) hx hb dX0_costOf_56 (by decide) ?_
          refine lv_iload_n hx hb dX0_costOf_57 rfl (lv_at hl 3 rfl) ?_
          refine lv_imul hx hb dX0_costOf_58 ?_
          obtain ⟨x10, ex10, hF⟩ := ltt_some hF
          refine lv_topi (fun zx10 ezx10 => ?_)
          obtain rfl : x10 = zx10 := ex10.trans ezx10.symm
          refine lv_iload_n hx hb dX0_costOf_59 rfl (lv_at hl 4 rfl) ?_
          refine W_st (st' := [.int p2, .int x10, .ref (ad b8)]) (by rw [va_some ho8]) ?_
          obtain ⟨hvc, hF⟩ := chk_some hF
          refine va_iast hx hb hK hP hD hS b8 1 (wld_i ct ad G M9 hc8 hk8) rfl hvc dX0_costOf_60 (fun H locs hP hD hS => ?_)
          obtain ⟨M11, eM11, hF⟩ := ltt_some hF
          rw [set_i ct ad G M9 hc8 hk8, ← eM11] at hP hD
          refine lv_aloadq hx hb dX0_costOf_61 (lv_at hl 0 rfl) ?_
          refine lv_iconst (v := (3 : Int32)) hx hb dX0_costOf_63 (by decide) ?_
          refine lv_iload_n hx hb dX0_costOf_64 rfl (lv_at hl 3 rfl) ?_
          refine lv_imul hx hb dX0_costOf_65 ?_
          obtain ⟨x12, ex12, hF⟩ := ltt_some hF
          refine lv_topi (fun zx12 ezx12 => ?_)
          obtain rfl : x12 = zx12 := ex12.trans ezx12.symm
          refine lv_iconst (v := (1 : Int32)) hx hb dX0_costOf_66 (by decide) ?_
          refine lv_iadd hx hb dX0_costOf_67 ?_
          obtain ⟨x13, ex13, hF⟩ := ltt_some hF
          refine lv_topi (fun zx13 ezx13 => ?_)
          obtain rfl : x13 = zx13 := ex13.trans ezx13.symm
          refine lv_iload hx hb dX0_costOf_68 (lv_at hl 5 rfl) ?_
          refine W_st (st' := [.int p3, .int x13, .ref (ad b8)]) (by rw [va_some ho8]) ?_
          obtain ⟨hvc, hF⟩ := chk_some hF
          refine va_iast hx hb hK hP hD hS b8 1 (wld_i ct ad G M11 hc8 hk8) rfl hvc dX0_costOf_70 (fun H locs hP hD hS => ?_)
          obtain ⟨M14, eM14, hF⟩ := ltt_some hF
          rw [set_i ct ad G M11 hc8 hk8, ← eM14] at hP hD
          refine lv_aloadq hx hb dX0_costOf_71 (lv_at hl 0 rfl) ?_
          refine lv_iconst (v := (3 : Int32)) hx hb dX0_costOf_73 (by decide) ?_
          refine lv_iload_n hx hb dX0_costOf_74 rfl (lv_at hl 3 rfl) ?_
          refine lv_imul hx hb dX0_costOf_75 ?_
          obtain ⟨x15, ex15, hF⟩ := ltt_some hF
          refine lv_topi (fun zx15 ezx15 => ?_)
          obtain rfl : x15 = zx15 := ex15.trans ezx15.symm
          refine lv_iconst (v := (2 : Int32)) hx hb dX0_costOf_76 (by decide) ?_
          refine lv_iadd hx hb dX0_costOf_77 ?_
          obtain ⟨x16, ex16, hF⟩ := ltt_some hF
          refine lv_topi (fun zx16 ezx16 => ?_)
          obtain rfl : x16 = zx16 := ex16.trans ezx16.symm
          refine lv_iload hx hb dX0_costOf_78 (lv_at hl 6 rfl) ?_
          refine W_st (st' := [.int p4, .int x16, .ref (ad b8)]) (by rw [va_some ho8]) ?_
          obtain ⟨hvc, hF⟩ := chk_some hF
          refine va_iast hx hb hK hP hD hS b8 1 (wld_i ct ad G M14 hc8 hk8) rfl hvc dX0_costOf_80 (fun H locs hP hD hS => ?_)
          obtain ⟨M17, eM17, hF⟩ := ltt_some hF
          rw [set_i ct ad G M14 hc8 hk8, ← eM17] at hP hD
          refine lv_aload_n hx hb dX0_costOf_81 rfl (lv_at hl 1 rfl) ?_
          refine va_get (D := D) (ci := 0) (v := va_re ad (M17.2 a 4)) (C := RX0) (T := TX0) (N := 21) hx hb hts (by decide +kernel) hown hK hP a (wld_o ct ad G M17 hc hk (by decide)) rfl 4 (by decide) (hts (.fieldLink RX0 43 "VideoSuite$Coder" "samples" "LVideoSuite$Samples;") (by decide +kernel)) (fun _ h9 => h9) rfl dX0_costOf_82 ?_
          refine lv_aload_n hx hb dX0_costOf_85 rfl (lv_at hl 1 rfl) ?_
          refine va_get (D := D) (ci := 0) (v := va_re ad (M17.2 a 3)) (C := RX0) (T := TX0) (N := 21) hx hb hts (by decide +kernel) hown hK hP a (wld_o ct ad G M17 hc hk (by decide)) rfl 3 (by decide) (hts (.fieldLink RX0 36 "VideoSuite$Coder" "work" "LVideoSuite$Work;") (by decide +kernel)) (fun _ h9 => h9) rfl dX0_costOf_86 ?_
          refine lv_iload_n hx hb dX0_costOf_89 rfl (lv_at hl 2 rfl) ?_
          refine lv_iconst (v := (0 : Int32)) hx hb dX0_costOf_90 (by decide) ?_
          refine lv_bipush (v := (16 : Int32)) hx hb dX0_costOf_91 (by decide) ?_
          refine lv_iconst (v := (0 : Int32)) hx hb dX0_costOf_93 (by decide) ?_
          obtain ⟨b18, ho18, hc18, hk18, hF⟩ := dr_some hF
          refine W_st (st' := [.int (0 : Int32), .int (16 : Int32), .int (0 : Int32), .int p0, va_re ad (M17.2 a 3), .ref (ad b18)]) (by rw [va_some ho18]) ?_
          obtain ⟨y19, hy19, hF⟩ := bnd_some hF
          have hf9 := wA_in hD hA9 hS
          refine va_callv (va_runV (As := [va_re ad (M17.2 a 3), .int p0, .int (0 : Int32), .int (16 : Int32), .int (0 : Int32)]) (rest := []) ⟨hx, hb, hml, hown, hts⟩ (kX6_predictRegion l D ct ad Z G M17 H.size b18 ((M17.2 a 3)) p0 ((0 : Int32)) ((16 : Int32)) ((0 : Int32)) y19 hc18 hk18 hy19) (cwV 5 hts gX0_costOf_X6_predictRegion rfl rfl rfl (by decide +kernel) ⟨Nat.le_of_ble_eq_true rfl, Nat.le_of_ble_eq_true rfl⟩) ⟨fun a U g mk q => by obtain ⟨q0, q1, qP, qK, qD, qZ, qN⟩ := q; exact ⟨q0, q1, qP, va_K.moved (u := U) (U := U.calling g mk a) (Vm.Alike.refl U.vm) qK, qD, sF.moved (u := U) (U := U.calling g mk a) (Vm.Alike.refl U.vm) qZ, nF.same rfl qN⟩, va_recv hK hP (ci := 6) (q0 := b18) rfl (wld_o ct ad G M17 hc18 hk18 (by decide)), fun U hU hW => ⟨rfl, by rw [hU], by rw [hU]; exact hP, va_K.moved hW.alike hK, hD.weaken (fun _ _ _ _ => trivial), by rw [hU]; exact ((hZ.kept hS.2.1).narrow hf9).moved hW.alike, hN.warm hW⟩⟩ rfl rfl hl.1 rfl (lv_room (Nat.le_of_ble_eq_true rfl)) dX0_costOf_94 ⟨(Nat.zero_le _), (Nat.zero_le _)⟩) hS (fun q _ h => hf9 q h) hf9 (fun u t H locs ht hvm hw hB hz1 hk1 hS => ?_)
          obtain ⟨hP, hK9, hD9⟩ := hB
          rw [ht] at hP
          have hD := hD9.weaken (fun _ q _ h => hf9 q.1 h)
          refine lv_aload_n hx hb dX0_costOf_97 rfl (lv_at hl 1 rfl) ?_
          refine va_get (D := D) (ci := 0) (v := va_re ad (y19.2 a 4)) (C := RX0) (T := TX0) (N := 21) hx hb hts (by decide +kernel) hown hK hP a (wld_o ct ad G y19 hc hk (by decide)) rfl 4 (by decide) (hts (.fieldLink RX0 43 "VideoSuite$Coder" "samples" "LVideoSuite$Samples;") (by decide +kernel)) (fun _ h9 => h9) rfl dX0_costOf_98 ?_
          refine lv_aload_n hx hb dX0_costOf_101 rfl (lv_at hl 1 rfl) ?_
          refine va_get (D := D) (ci := 0) (v := va_re ad (y19.2 a 3)) (C := RX0) (T := TX0) (N := 21) hx hb hts (by decide +kernel) hown hK hP a (wld_o ct ad G y19 hc hk (by decide)) rfl 3 (by decide) (hts (.fieldLink RX0 36 "VideoSuite$Coder" "work" "LVideoSuite$Work;") (by decide +kernel)) (fun _ h9 => h9) rfl dX0_costOf_102 ?_
          refine lv_aload_n hx hb dX0_costOf_105 rfl (lv_at hl 1 rfl) ?_
          refine va_get (D := D) (ci := 0) (v := va_re ad (y19.2 a 9)) (C := RX0) (T := TX0) (N := 21) hx hb hts (by decide +kernel) hown hK hP a (wld_o ct ad G y19 hc hk (by decide)) rfl 9 (by decide) (hts (.fieldLink RX0 69 "VideoSuite$Coder" "source" "[[I") (by decide +kernel)) (fun _ h9 => h9) rfl dX0_costOf_106 ?_
          refine lv_iconst (v := (0 : Int32)) hx hb dX0_costOf_109 (by decide) ?_
          obtain ⟨b20, ho20, hc20, hk20, hF⟩ := dr_some hF
          refine W_st (st' := [.int (0 : Int32), .ref (ad b20), va_re ad (y19.2 a 3), va_re ad (y19.2 a 4)]) (by rw [va_some ho20]) ?_
          obtain ⟨hvc, hF⟩ := chk_some hF
          refine ld_g hx hb hK hP hc20 hk20 hvc dX0_costOf_110 ?_
          refine lv_iload_n hx hb dX0_costOf_111 rfl (lv_at hl 2 rfl) ?_
          refine lv_iconst (v := (0 : Int32)) hx hb dX0_costOf_112 (by decide) ?_
          refine lv_bipush (v := (16 : Int32)) hx hb dX0_costOf_113 (by decide) ?_
          obtain ⟨b21, ho21, hc21, hk21, hF⟩ := dr_some hF
          refine W_st (st' := [.int (16 : Int32), .int (0 : Int32), .int p0, va_re ad (y19.2 b20 ((0 : Int32)).toNatClampNeg), va_re ad (y19.2 a 3), .ref (ad b21)]) (by rw [va_some ho21]) ?_
          obtain ⟨y22, hy22, hF⟩ := bnd_some hF
          have hf9 := wA_in hD hA9 hS
          refine va_calli (va_runV (As := [va_re ad (y19.2 a 3), va_re ad (y19.2 b20 ((0 : Int32)).toNatClampNeg), .int p0, .int (0 : Int32), .int (16 : Int32)]) (rest := []) ⟨hx, hb, hml, hown, hts⟩ (kX6_differences l D ct ad Z G y19 H.size b21 ((y19.2 a 3)) ((y19.2 b20 ((0 : Int32)).toNatClampNeg)) p0 ((0 : Int32)) ((16 : Int32)) y22 hc21 hk21 hy22) (cwV 5 hts gX0_costOf_X6_differences rfl rfl rfl (by decide +kernel) ⟨Nat.le_of_ble_eq_true rfl, Nat.le_of_ble_eq_true rfl⟩) ⟨fun a U g mk q => by obtain ⟨q0, q1, qP, qK, qD, qZ, qN⟩ := q; exact ⟨q0, q1, qP, va_K.moved (u := U) (U := U.calling g mk a) (Vm.Alike.refl U.vm) qK, qD, sF.moved (u := U) (U := U.calling g mk a) (Vm.Alike.refl U.vm) qZ, nF.same rfl qN⟩, va_recv hK hP (ci := 6) (q0 := b21) rfl (wld_o ct ad G y19 hc21 hk21 (by decide)), fun U hU hW => ⟨rfl, by rw [hU], by rw [hU]; exact hP, va_K.moved hW.alike hK, hD.weaken (fun _ _ _ _ => trivial), by rw [hU]; exact ((hZ.kept hS.2.1).narrow hf9).moved hW.alike, hN.warm hW⟩⟩ rfl rfl hl.1 rfl (lv_room (Nat.le_of_ble_eq_true rfl)) dX0_costOf_115 ⟨(Nat.zero_le _), (Nat.zero_le _)⟩) hS (fun q _ h => hf9 q h) hf9 (fun r u t H locs ht hvm hw hB hz1 hk1 hS => ?_)
          obtain ⟨hP, hK9, hD9⟩ := hB
          rw [ht] at hP
          try dsimp only at hw
          subst hw
          have hD := hD9.weaken (fun _ q _ h => hf9 q.1 h)
          refine lv_aload_n hx hb dX0_costOf_118 rfl (lv_at hl 1 rfl) ?_
          obtain ⟨y23, hy23, hF⟩ := bnd_some hF
          have hf9 := wA_in hD hA9 hS
          refine va_calli (va_runV (As := []) (rest := [.int y22.2]) ⟨hx, hb, hml, hown, hts⟩ (kX0_priceOfBit l D ct ad Z G y22.1 H.size a y23 hc hk hy23) (cwV 0 hts gX0_costOf_X0_priceOfBit rfl rfl rfl (by decide +kernel) ⟨Nat.le_of_ble_eq_true rfl, Nat.le_of_ble_eq_true rfl⟩) ⟨fun a U g mk q => by obtain ⟨q0, q1, qP, qK, qD, qZ, qN⟩ := q; exact ⟨q0, q1, qP, va_K.moved (u := U) (U := U.calling g mk a) (Vm.Alike.refl U.vm) qK, qD, sF.moved (u := U) (U := U.calling g mk a) (Vm.Alike.refl U.vm) qZ, nF.same rfl qN⟩, va_recv hK hP (ci := 0) (q0 := a) rfl (wld_o ct ad G y22.1 hc hk (by decide)), fun U hU hW => ⟨rfl, by rw [hU], by rw [hU]; exact hP, va_K.moved hW.alike hK, hD.weaken (fun _ _ _ _ => trivial), by rw [hU]; exact ((hZ.kept hS.2.1).narrow hf9).moved hW.alike, hN.warm hW⟩⟩ rfl rfl hl.1 rfl (lv_room (Nat.le_of_ble_eq_true rfl)) dX0_costOf_119 ⟨(Nat.zero_le _), (Nat.zero_le _)⟩) hS (fun q _ h => hf9 q h) hf9 (fun r u t H locs ht hvm hw hB hz1 hk1 hS => ?_)
          obtain ⟨hP, hK9, hD9⟩ := hB
          rw [ht] at hP
          try dsimp only at hw
          subst hw
          have hD := hD9.weaken (fun _ q _ h => hf9 q.1 h)
          refine lv_aload_n hx hb dX0_costOf_122 rfl (lv_at hl 1 rfl) ?_
          refine lv_iload_n hx hb dX0_costOf_123 rfl (lv_at hl 3 rfl) ?_
          refine lv_iload_n hx hb dX0_costOf_124 rfl (lv_at hl 4 rfl) ?_
          refine lv_iload hx hb dX0_costOf_125 (lv_at hl 5 rfl) ?_
          refine lv_iload hx hb dX0_costOf_127 (lv_at hl 6 rfl) ?_
          obtain ⟨y24, hy24, hF⟩ := bnd_some hF
          have hf9 := wA_in hD hA9 hS
          refine va_calli (va_runV (As := [.int p1, .int p2, .int p3, .int p4]) (rest := [.int y23.2, .int y22.2]) ⟨hx, hb, hml, hown, hts⟩ (kX0_bitsOf l D ct ad Z G y23.1 H.size a p1 p2 p3 p4 y24 hc hk hy24) (cwV 4 hts gX0_costOf_X0_bitsOf rfl rfl rfl (by decide +kernel) ⟨Nat.le_of_ble_eq_true rfl, Nat.le_of_ble_eq_true rfl⟩) ⟨fun a U g mk q => by obtain ⟨q0, q1, qP, qK, qD, qZ, qN⟩ := q; exact ⟨q0, q1, qP, va_K.moved (u := U) (U := U.calling g mk a) (Vm.Alike.refl U.vm) qK, qD, sF.moved (u := U) (U := U.calling g mk a) (Vm.Alike.refl U.vm) qZ, nF.same rfl qN⟩, va_recv hK hP (ci := 0) (q0 := a) rfl (wld_o ct ad G y23.1 hc hk (by decide)), fun U hU hW => ⟨rfl, by rw [hU], by rw [hU]; exact hP, va_K.moved hW.alike hK, hD.weaken (fun _ _ _ _ => trivial), by rw [hU]; exact ((hZ.kept hS.2.1).narrow hf9).moved hW.alike, hN.warm hW⟩⟩ rfl rfl hl.1 rfl (lv_room (Nat.le_of_ble_eq_true rfl)) dX0_costOf_129 ⟨(Nat.zero_le _), (Nat.zero_le _)⟩) hS (fun q _ h => hf9 q h) hf9 (fun r u t H locs ht hvm hw hB hz1 hk1 hS => ?_)
          obtain ⟨hP, hK9, hD9⟩ := hB
          rw [ht] at hP
          try dsimp only at hw
          subst hw
          have hD := hD9.weaken (fun _ q _ h => hf9 q.1 h)
          refine lv_imul hx hb dX0_costOf_132 ?_
          obtain ⟨x25, ex25, hF⟩ := ltt_some hF
          refine lv_topi (fun zx25 ezx25 => ?_)
          obtain rfl : x25 = zx25 := ex25.trans ezx25.symm
          refine lv_iadd hx hb dX0_costOf_133 ?_
          obtain ⟨x26, ex26, hF⟩ := ltt_some hF
          refine lv_topi (fun zx26 ezx26 => ?_)
          obtain rfl : x26 = zx26 := ex26.trans ezx26.symm
          obtain rfl := Option.some.inj hF
          exact W.iret (v := x26) hx hb hr (fun t ht hW => ⟨⟨_, (), rfl, rfl, ⟨by rw [ht]; exact hP, va_K.moved hW.alike hK, hD⟩⟩, hS.F ht⟩) hS.2.2 dX0_costOf_134
        · rw [if_neg c4] at hF
          refine lv_ldcw (v := (2147483647 : Int32)) hx hb hown (hts (.constant RX0 435 (2147483647 : Int32)) (by decide +kernel)) dX0_costOf_32 ?_
          obtain rfl := Option.some.inj hF
          exact W.iret (v := (2147483647 : Int32)) hx hb hr (fun t ht hW => ⟨⟨_, (), rfl, rfl, ⟨by rw [ht]; exact hP, va_K.moved hW.alike hK, hD⟩⟩, hS.F ht⟩) hS.2.2 dX0_costOf_35
theorem ggX0_costOfBoth_X6_predictRegion : GoodIn wsX0_costOfBoth wsX6_predictRegion := goodIn_r _ [15, 16, 17, 18, 19, 20, 21, 22, 23, 24, 25, 26, 27, 28, 29, 30, 31, 14, 32, 33, 34, 35, 36, 37, 38, 39, 40, 41, 42, 43, 44, 45, 46, 47, 48, 49, 50, 51, 52, 53, 54, 55, 56, 57, 58, 59, 60, 61, 62, 63, 64, 65, 66, 67, 68, 69, 70, 71, 72, 73, 74, 75, 76, 77, 78, 79, 80, 81, 82, 83, 84, 85, 86, 87, 88, 89, 90, 91, 92, 93, 143, 144, 145, 146, 147, 148, 149, 150, 151, 152, 153, 154, 155, 156, 157, 158, 159, 160, 161, 162, 163, 164, 165, 166, 167, 168, 169, 170, 171, 172, 173, 174, 175, 176, 177, 178, 179, 180, 129, 130, 131, 132, 133, 134, 135, 136, 137, 138, 139, 140, 141, 142, 181, 182, 183, 184] (by decide +kernel) (by decide +kernel)
set_option maxRecDepth 20000 in
theorem gX0_costOfBoth_X6_predictRegion : GoodIn wsX0_costOfBoth (wsV RX0 494 RX6 yX6_predictRegion wsX6_predictRegion) := goodIn_app (goodIn_of _ (by decide +kernel)) ggX0_costOfBoth_X6_predictRegion
set_option maxRecDepth 20000 in
theorem ggX0_costOfBoth_X6_differences : GoodIn wsX0_costOfBoth wsX6_differences := goodIn_r _ [97, 16, 90, 22, 23, 24, 25, 26, 27, 28, 98, 99, 14, 100, 17, 143, 144, 145, 146, 147, 148, 149, 150, 151, 152, 153, 154, 155, 156, 157, 158, 159, 160, 161, 162, 129, 130, 131, 132, 133, 134, 135, 136, 137, 138, 139, 140, 141, 142, 163, 164, 165, 166, 167, 168, 169, 170, 171, 172, 173, 174, 175, 176, 177, 178, 179, 180] (by decide +kernel) (by decide +kernel)
set_option maxRecDepth 20000 in
theorem gX0_costOfBoth_X6_differences : GoodIn wsX0_costOfBoth (wsV RX0 452 RX6 yX6_differences wsX6_differences) := goodIn_app (goodIn_of _ (by decide +kernel)) ggX0_costOfBoth_X6_differences
set_option maxRecDepth 20000 in
theorem ggX0_costOfBoth_X0_priceOfBit : GoodIn wsX0_costOfBoth wsX0_priceOfBit := goodIn_r _ [105, 9, 106, 107, 108, 109, 110, 111, 112, 113, 114, 115, 116, 117, 118, 119, 120, 121, 122, 123, 124, 125, 126, 127, 128, 143, 144, 145, 146, 147, 148, 149, 150, 151, 152, 153, 154, 155, 156, 157, 158, 159, 160, 161, 162, 181, 182, 183, 184] (by decide +kernel) (by decide +kernel)
set_option maxRecDepth 20000 in
theorem gX0_costOfBoth_X0_priceOfBit : GoodIn wsX0_costOfBoth (wsV RX0 456 RX0 yX0_priceOfBit wsX0_priceOfBit) := goodIn_app (goodIn_of _ (by decide +kernel)) ggX0_costOfBoth_X0_priceOfBit
theorem dX0_costOfBoth_0 : decode cX0_costOfBoth 0 = .ok (.aload_n 0, 1) := by decide +kernel
theorem dX0_costOfBoth_1 : decode cX0_costOfBoth 1 = .ok (.getfield 75, 3) := by decide +kernel
theorem dX0_costOfBoth_4 : decode cX0_costOfBoth 4 = .ok (.iconst 0, 1) := by decide +kernel
theorem dX0_costOfBoth_5 : decode cX0_costOfBoth 5 = .ok (.iaload, 1) := by decide +kernel
theorem dX0_costOfBoth_6 : decode cX0_costOfBoth 6 = .ok (.ldc_w 435, 3) := by decide +kernel
theorem dX0_costOfBoth_9 : decode cX0_costOfBoth 9 = .ok (.if_icmp .eq 15, 3) := by decide +kernel
theorem dX0_costOfBoth_12 : decode cX0_costOfBoth 12 = .ok (.aload_n 0, 1) := by decide +kernel
theorem dX0_costOfBoth_13 : decode cX0_costOfBoth 13 = .ok (.getfield 75, 3) := by decide +kernel
theorem dX0_costOfBoth_16 : decode cX0_costOfBoth 16 = .ok (.iconst 5, 1) := by decide +kernel
theorem dX0_costOfBoth_17 : decode cX0_costOfBoth 17 = .ok (.iaload, 1) := by decide +kernel
theorem dX0_costOfBoth_18 : decode cX0_costOfBoth 18 = .ok (.ldc_w 435, 3) := by decide +kernel
theorem dX0_costOfBoth_21 : decode cX0_costOfBoth 21 = .ok (.if_icmp .ne 7, 3) := by decide +kernel
theorem dX0_costOfBoth_24 : decode cX0_costOfBoth 24 = .ok (.ldc_w 435, 3) := by decide +kernel
theorem dX0_costOfBoth_27 : decode cX0_costOfBoth 27 = .ok (.ireturn, 1) := by decide +kernel
theorem dX0_costOfBoth_28 : decode cX0_costOfBoth 28 = .ok (.iconst 0, 1) := by decide +kernel
theorem dX0_costOfBoth_29 : decode cX0_costOfBoth 29 = .ok (.istore_n 2, 1) := by decide +kernel
theorem dX0_costOfBoth_30 : decode cX0_costOfBoth 30 = .ok (.iload_n 2, 1) := by decide +kernel
theorem dX0_costOfBoth_31 : decode cX0_costOfBoth 31 = .ok (.iconst 2, 1) := by decide +kernel
theorem dX0_costOfBoth_32 : decode cX0_costOfBoth 32 = .ok (.if_icmp .ge 32, 3) := by decide +kernel
theorem dX0_costOfBoth_35 : decode cX0_costOfBoth 35 = .ok (.aload_n 0, 1) := by decide +kernel
theorem dX0_costOfBoth_36 : decode cX0_costOfBoth 36 = .ok (.getfield 75, 3) := by decide +kernel
theorem dX0_costOfBoth_39 : decode cX0_costOfBoth 39 = .ok (.iconst 5, 1) := by decide +kernel
theorem dX0_costOfBoth_40 : decode cX0_costOfBoth 40 = .ok (.iload_n 2, 1) := by decide +kernel
theorem dX0_costOfBoth_41 : decode cX0_costOfBoth 41 = .ok (.imul, 1) := by decide +kernel
theorem dX0_costOfBoth_42 : decode cX0_costOfBoth 42 = .ok (.iconst 1, 1) := by decide +kernel
theorem dX0_costOfBoth_43 : decode cX0_costOfBoth 43 = .ok (.iadd, 1) := by decide +kernel
theorem dX0_costOfBoth_44 : decode cX0_costOfBoth 44 = .ok (.aload_n 0, 1) := by decide +kernel
theorem dX0_costOfBoth_45 : decode cX0_costOfBoth 45 = .ok (.getfield 43, 3) := by decide +kernel
theorem dX0_costOfBoth_48 : decode cX0_costOfBoth 48 = .ok (.getfield 491, 3) := by decide +kernel
theorem dX0_costOfBoth_51 : decode cX0_costOfBoth 51 = .ok (.iconst 3, 1) := by decide +kernel
theorem dX0_costOfBoth_52 : decode cX0_costOfBoth 52 = .ok (.iload_n 2, 1) := by decide +kernel
theorem dX0_costOfBoth_53 : decode cX0_costOfBoth 53 = .ok (.imul, 1) := by decide +kernel
theorem dX0_costOfBoth_54 : decode cX0_costOfBoth 54 = .ok (.iconst 3, 1) := by decide +kernel
theorem dX0_costOfBoth_55 : decode cX0_costOfBoth 55 = .ok (.invokestatic 94, 3) := by decide +kernel
theorem dX0_costOfBoth_58 : decode cX0_costOfBoth 58 = .ok (.iinc 2 1, 3) := by decide +kernel
theorem dX0_costOfBoth_61 : decode cX0_costOfBoth 61 = .ok (.goto (-31), 3) := by decide +kernel
theorem dX0_costOfBoth_64 : decode cX0_costOfBoth 64 = .ok (.aload_n 0, 1) := by decide +kernel
theorem dX0_costOfBoth_65 : decode cX0_costOfBoth 65 = .ok (.getfield 43, 3) := by decide +kernel
theorem dX0_costOfBoth_68 : decode cX0_costOfBoth 68 = .ok (.aload_n 0, 1) := by decide +kernel
theorem dX0_costOfBoth_69 : decode cX0_costOfBoth 69 = .ok (.getfield 36, 3) := by decide +kernel
theorem dX0_costOfBoth_72 : decode cX0_costOfBoth 72 = .ok (.iload_n 1, 1) := by decide +kernel
theorem dX0_costOfBoth_73 : decode cX0_costOfBoth 73 = .ok (.iconst 0, 1) := by decide +kernel
theorem dX0_costOfBoth_74 : decode cX0_costOfBoth 74 = .ok (.bipush 16, 2) := by decide +kernel
theorem dX0_costOfBoth_76 : decode cX0_costOfBoth 76 = .ok (.iconst 0, 1) := by decide +kernel
theorem dX0_costOfBoth_77 : decode cX0_costOfBoth 77 = .ok (.invokevirtual 494, 3) := by decide +kernel
theorem dX0_costOfBoth_80 : decode cX0_costOfBoth 80 = .ok (.aload_n 0, 1) := by decide +kernel
theorem dX0_costOfBoth_81 : decode cX0_costOfBoth 81 = .ok (.getfield 43, 3) := by decide +kernel
theorem dX0_costOfBoth_84 : decode cX0_costOfBoth 84 = .ok (.aload_n 0, 1) := by decide +kernel
theorem dX0_costOfBoth_85 : decode cX0_costOfBoth 85 = .ok (.getfield 36, 3) := by decide +kernel
theorem dX0_costOfBoth_88 : decode cX0_costOfBoth 88 = .ok (.aload_n 0, 1) := by decide +kernel
theorem dX0_costOfBoth_89 : decode cX0_costOfBoth 89 = .ok (.getfield 69, 3) := by decide +kernel
theorem dX0_costOfBoth_92 : decode cX0_costOfBoth 92 = .ok (.iconst 0, 1) := by decide +kernel
theorem dX0_costOfBoth_93 : decode cX0_costOfBoth 93 = .ok (.aaload, 1) := by decide +kernel
theorem dX0_costOfBoth_94 : decode cX0_costOfBoth 94 = .ok (.iload_n 1, 1) := by decide +kernel
theorem dX0_costOfBoth_95 : decode cX0_costOfBoth 95 = .ok (.iconst 0, 1) := by decide +kernel
theorem dX0_costOfBoth_96 : decode cX0_costOfBoth 96 = .ok (.bipush 16, 2) := by decide +kernel
theorem dX0_costOfBoth_98 : decode cX0_costOfBoth 98 = .ok (.invokevirtual 452, 3) := by decide +kernel
theorem dX0_costOfBoth_101 : decode cX0_costOfBoth 101 = .ok (.aload_n 0, 1) := by decide +kernel
theorem dX0_costOfBoth_102 : decode cX0_costOfBoth 102 = .ok (.invokevirtual 456, 3) := by decide +kernel
theorem dX0_costOfBoth_105 : decode cX0_costOfBoth 105 = .ok (.aload_n 0, 1) := by decide +kernel
theorem dX0_costOfBoth_106 : decode cX0_costOfBoth 106 = .ok (.getfield 75, 3) := by decide +kernel
theorem dX0_costOfBoth_109 : decode cX0_costOfBoth 109 = .ok (.iconst 4, 1) := by decide +kernel
theorem dX0_costOfBoth_110 : decode cX0_costOfBoth 110 = .ok (.iaload, 1) := by decide +kernel
theorem dX0_costOfBoth_111 : decode cX0_costOfBoth 111 = .ok (.aload_n 0, 1) := by decide +kernel
theorem dX0_costOfBoth_112 : decode cX0_costOfBoth 112 = .ok (.getfield 75, 3) := by decide +kernel
theorem dX0_costOfBoth_115 : decode cX0_costOfBoth 115 = .ok (.bipush 9, 2) := by decide +kernel
theorem dX0_costOfBoth_117 : decode cX0_costOfBoth 117 = .ok (.iaload, 1) := by decide +kernel
theorem dX0_costOfBoth_118 : decode cX0_costOfBoth 118 = .ok (.iadd, 1) := by decide +kernel
theorem dX0_costOfBoth_119 : decode cX0_costOfBoth 119 = .ok (.imul, 1) := by decide +kernel
theorem dX0_costOfBoth_120 : decode cX0_costOfBoth 120 = .ok (.iadd, 1) := by decide +kernel
theorem dX0_costOfBoth_121 : decode cX0_costOfBoth 121 = .ok (.ireturn, 1) := by decide +kernel
def FX0_costOfBoth (G : GG) (M : DD) (a : Nat) (p0 : Int32) : Option (DD × Int32) :=
  dr G 13 ((M.2 a 20)) fun b2 =>
  chk (¬ (((0 : Int32)) < 0 ∨ G.2.2 b2 ≤ ((0 : Int32)).toNatClampNeg)) <|
  ltt (M.1 b2 ((0 : Int32)).toNatClampNeg) fun x3 =>
  if x3 = ((2147483647 : Int32)) then (some (M, (2147483647 : Int32))) else
  (chk (¬ (((5 : Int32)) < 0 ∨ G.2.2 b2 ≤ ((5 : Int32)).toNatClampNeg)) <|
  ltt (M.1 b2 ((5 : Int32)).toNatClampNeg) fun x5 =>
  if x5 = ((2147483647 : Int32)) then (some (M, (2147483647 : Int32))) else
  (bnd (itr (fun (s8 : Int32 × DD) => ((if ((2 : Int32)) ≤ s8.1 then (some (.inr (s8.1, s8.2))) else
  (ltt ((((5 : Int32)) * s8.1)) fun x24 =>
  ltt ((x24 + ((1 : Int32)))) fun x25 =>
  dr G 6 ((s8.2.2 a 4)) fun b26 =>
  ltt ((((3 : Int32)) * s8.1)) fun x27 =>
  dr G 13 ((s8.2.2 a 20)) fun b28 =>
  dr G 13 ((s8.2.2 b26 5)) fun b29 =>
  chk (¬ x25 < 0 ∧ ¬ x27 < 0 ∧ ¬ ((3 : Int32)) < 0 ∧ x25.toNatClampNeg + ((3 : Int32)).toNatClampNeg ≤ G.2.2 b28 ∧ x27.toNatClampNeg + ((3 : Int32)).toNatClampNeg ≤ G.2.2 b29) <|
  ltt (rI s8.2 b29 (va_cpy (s8.2.1 b28) (s8.2.1 b29) x25.toNatClampNeg x27.toNatClampNeg ((3 : Int32)).toNatClampNeg)) fun M30 =>
  ltt (s8.1 + (1 : Int32)) fun x31 =>
  some (.inl (x31, M30)))) : Option ((Int32 × DD) ⊕ (Int32 × DD)))) 1000000 ((0 : Int32), M)) fun (y7 : Int32 × DD) =>
  dr G 6 ((y7.2.2 a 4)) fun b10 =>
  bnd (FX6_predictRegion G y7.2 b10 ((y7.2.2 a 3)) p0 ((0 : Int32)) ((16 : Int32)) ((0 : Int32))) fun y11 =>
  dr G 15 ((y11.2 a 9)) fun b12 =>
  chk (¬ (((0 : Int32)) < 0 ∨ G.2.2 b12 ≤ ((0 : Int32)).toNatClampNeg)) <|
  dr G 6 ((y11.2 a 4)) fun b13 =>
  bnd (FX6_differences G y11 b13 ((y11.2 a 3)) ((y11.2 b12 ((0 : Int32)).toNatClampNeg)) p0 ((0 : Int32)) ((16 : Int32))) fun y14 =>
  bnd (FX0_priceOfBit G y14.1 a) fun y15 =>
  dr G 13 ((y15.1.2 a 20)) fun b16 =>
  chk (¬ (((4 : Int32)) < 0 ∨ G.2.2 b16 ≤ ((4 : Int32)).toNatClampNeg)) <|
  ltt (y15.1.1 b16 ((4 : Int32)).toNatClampNeg) fun x17 =>
  chk (¬ (((9 : Int32)) < 0 ∨ G.2.2 b16 ≤ ((9 : Int32)).toNatClampNeg)) <|
  ltt (y15.1.1 b16 ((9 : Int32)).toNatClampNeg) fun x18 =>
  ltt ((x17 + x18)) fun x19 =>
  ltt ((y15.2 * x19)) fun x20 =>
  ltt ((y14.2 + x20)) fun x21 =>
  some (y15.1, x21)))
set_option maxHeartbeats 4000000 in
set_option maxRecDepth 100000 in
theorem kX0_costOfBoth (l : Launch) (D : va_G) (ct : CT) (ad : Nat → Nat) (Z : Nat → Nat) (G : GG) (M : DD) (sz : Nat) (a : Nat) (p0 : Int32) (y : DD × Int32) (hc : a < G.1) (hk : G.2.1 a = 0) (hF : FX0_costOfBoth G M a p0 = some y) : Met l yX0_costOfBoth wsX0_costOfBoth ({ frames := 4, cells := 0, slots := 0, locals := 113 }) (va_Pc [.ref (ad a), .int p0] (kB D ct ad Z G M sz)) (va_Qi (fun (q : Int32) (_ : Unit) => q = y.2) (fun _ t => kE D ct ad G (wA ad G sz) y.1 t) (wA ad G sz)) 0 0 (wA ad G sz) := by
  refine Met.ofW (cc := cX0_costOfBoth) (maxL := 3) (ret := (some .int)) (by decide) rfl ?_
  intro p e s m args below meth c s₁ B hml hv
  obtain ⟨rfl, hsz, hP, hK, hD0, hZ, hN⟩ := hv
  have hx := B.exec
  have hb := B.bytes
  have hr := B.returns
  have hts := atoms_spec (ws := wsX0_costOfBoth) B.pre
  have hown : s.vm.findClass RX0 = some m.cls := findClass_of_methodNamed B.named
  have hlocks := B.notSynchronized
  subst hsz
  have hD := wD_self (sz := s.heap.size) hD0
  have hA9 : ∀ q, s.heap.size ≤ q → wA ad G s.heap.size q := fun q h => Or.inr h
  generalize hAe : wA ad G s.heap.size = A at hD hA9 hZ ⊢
  have hS : va_S A s.heap s.heap [] := va_S.rf
  have hl := lv_entry ([.ref (ad a), .int p0]) (n := 3) (Nat.le_of_ble_eq_true rfl)
  rw [lg_entry_eq]
  generalize (lg_sl ([.ref (ad a), .int p0]) ++ List.replicate (3 - (lg_sl ([.ref (ad a), .int p0])).length) Slot.unset).toArray = ls at hl ⊢
  have hl : lv_has ls 3 [(0, .ref (ad a)), (1, .int p0)] := hl
  unfold FX0_costOfBoth at hF
  refine lv_aload_n hx hb dX0_costOfBoth_0 rfl (lv_at hl 0 rfl) ?_
  refine va_get (D := D) (ci := 0) (v := va_re ad (M.2 a 20)) (C := RX0) (T := TX0) (N := 21) hx hb hts (by decide +kernel) hown hK hP a (wld_o ct ad G M hc hk (by decide)) rfl 20 (by decide) (hts (.fieldLink RX0 75 "VideoSuite$Coder" "choice" "[I") (by decide +kernel)) (fun _ h9 => h9) rfl dX0_costOfBoth_1 ?_
  refine lv_iconst (v := (0 : Int32)) hx hb dX0_costOfBoth_4 (by decide) ?_
  obtain ⟨b2, ho2, hc2, hk2, hF⟩ := dr_some hF
  refine W_st (st' := [.int (0 : Int32), .ref (ad b2)]) (by rw [va_some ho2]) ?_
  obtain ⟨hvc, hF⟩ := chk_some hF
  refine va_iald hx hb hK hP b2 1 (wld_i ct ad G M hc2 hk2) rfl hvc dX0_costOfBoth_5 ?_
  obtain ⟨x3, ex3, hF⟩ := ltt_some hF
  refine lv_topi (fun zx3 ezx3 => ?_)
  obtain rfl : x3 = zx3 := ex3.trans ezx3.symm
  refine lv_ldcw (v := (2147483647 : Int32)) hx hb hown (hts (.constant RX0 435 (2147483647 : Int32)) (by decide +kernel)) dX0_costOfBoth_6 ?_
  refine lv_icmp_eq (tgt := 24) hx hb dX0_costOfBoth_9 (by decide) (fun c4 => ?_) (fun c4 => ?_)
  · rw [if_pos c4] at hF
    refine lv_ldcw (v := (2147483647 : Int32)) hx hb hown (hts (.constant RX0 435 (2147483647 : Int32)) (by decide +kernel)) dX0_costOfBoth_24 ?_
    obtain rfl := Option.some.inj hF
    exact W.iret (v := (2147483647 : Int32)) hx hb hr (fun t ht hW => ⟨⟨_, (), rfl, rfl, ⟨by rw [ht]; exact hP, va_K.moved hW.alike hK, hD⟩⟩, hS.F ht⟩) hS.2.2 dX0_costOfBoth_27
  · rw [if_neg c4] at hF
    refine lv_aload_n hx hb dX0_costOfBoth_12 rfl (lv_at hl 0 rfl) ?_
    refine va_get (D := D) (ci := 0) (v := va_re ad (M.2 a 20)) (C := RX0) (T := TX0) (N := 21) hx hb hts (by decide +kernel) hown hK hP a (wld_o ct ad G M hc hk (by decide)) rfl 20 (by decide) (hts (.fieldLink RX0 75 "VideoSuite$Coder" "choice" "[I") (by decide +kernel)) (fun _ h9 => h9) rfl dX0_costOfBoth_13 ?_
    refine lv_iconst (v := (5 : Int32)) hx hb dX0_costOfBoth_16 (by decide) ?_
    refine W_st (st' := [.int (5 : Int32), .ref (ad b2)]) (by rw [va_some ho2]) ?_
    obtain ⟨hvc, hF⟩ := chk_some hF
    refine va_iald hx hb hK hP b2 1 (wld_i ct ad G M hc2 hk2) rfl hvc dX0_costOfBoth_17 ?_
    obtain ⟨x5, ex5, hF⟩ := ltt_some hF
    refine lv_topi (fun zx5 ezx5 => ?_)
    obtain rfl : x5 = zx5 := ex5.trans ezx5.symm
    refine lv_ldcw (v := (2147483647 : Int32)) hx hb hown (hts (.constant RX0 435 (2147483647 : Int32)) (by decide +kernel)) dX0_costOfBoth_18 ?_
    refine lv_icmp_ne (tgt := 28) hx hb dX0_costOfBoth_21 (by decide) (fun c6 => ?_) (fun c6 => ?_)
    · rw [if_neg c6] at hF
      refine lv_iconst (v := (0 : Int32)) hx hb dX0_costOfBoth_28 (by decide) ?_
      refine lv_istore_n (lv' := [(2, .int (0 : Int32)), (0, .ref (ad a)), (1, .int p0)]) hx hb dX0_costOfBoth_29 rfl hl (by decide) rfl (fun ls hl => ?_)
      obtain ⟨y7, hy7, hF⟩ := bnd_some hF
      have K7 : ∀ (H : Heap) (locs : List Loc) (ls : Array Slot), va_P D classes (wld ct ad G y7.2) H → va_D A (wld ct ad G y7.2) → va_S A s.heap H locs → lv_has ls 3 [(2, .int y7.1), (0, .ref (ad a)), (1, .int p0)] → W p l e (headSpec wsX0_costOfBoth ({ frames := 4, cells := 0, slots := 0, locals := 113 })).room s m ([.ref (ad a), .int p0] : List Value).toArray below meth c H locs 0 0 (MQ below (va_Qi (fun (q : Int32) (_ : Unit) => q = y.2) (fun _ t => kE D ct ad G A y.1 t) A) ([.ref (ad a), .int p0] : List Value).toArray s 0 0 A) (F0 m 64 ls []) := by
        intro H locs ls hP hD hS hl
        refine lv_aload_n hx hb dX0_costOfBoth_64 rfl (lv_at hl 1 rfl) ?_
        refine va_get (D := D) (ci := 0) (v := va_re ad (y7.2.2 a 4)) (C := RX0) (T := TX0) (N := 21) hx hb hts (by decide +kernel) hown hK hP a (wld_o ct ad G y7.2 hc hk (by decide)) rfl 4 (by decide) (hts (.fieldLink RX0 43 "VideoSuite$Coder" "samples" "LVideoSuite$Samples;") (by decide +kernel)) (fun _ h9 => h9) rfl dX0_costOfBoth_65 ?_
        refine lv_aload_n hx hb dX0_costOfBoth_68 rfl (lv_at hl 1 rfl) ?_
        refine va_get (D := D) (ci := 0) (v := va_re ad (y7.2.2 a 3)) (C := RX0) (T := TX0) (N := 21) hx hb hts (by decide +kernel) hown hK hP a (wld_o ct ad G y7.2 hc hk (by decide)) rfl 3 (by decide) (hts (.fieldLink RX0 36 "VideoSuite$Coder" "work" "LVideoSuite$Work;") (by decide +kernel)) (fun _ h9 => h9) rfl dX0_costOfBoth_69 ?_
        refine lv_iload_n hx hb dX0_costOfBoth_72 rfl (lv_at hl 2 rfl) ?_
        refine lv_iconst (v := (0 : Int32)) hx hb dX0_costOfBoth_73 (by decide) ?_
        refine lv_bipush (v := (16 : Int32)) hx hb dX0_costOfBoth_74 (by decide) ?_
        refine lv_iconst (v := (0 : Int32)) hx hb dX0_costOfBoth_76 (by decide) ?_
        obtain ⟨b10, ho10, hc10, hk10, hF⟩ := dr_some hF
        refine W_st (st' := [.int (0 : Int32), .int (16 : Int32), .int (0 : Int32), .int p0, va_re ad (y7.2.2 a 3), .ref (ad b10)]) (by rw [va_some ho10]) ?_
        obtain ⟨y11, hy11, hF⟩ := bnd_some hF
        have hf9 := wA_in hD hA9 hS
        refine va_callv (va_runV (As := [va_re ad (y7.2.2 a 3), .int p0, .int (0 : Int32), .int (16 : Int32), .int (0 : Int32)]) (rest := []) ⟨hx, hb, hml, hown, hts⟩ (kX6_predictRegion l D ct ad Z G y7.2 H.size b10 ((y7.2.2 a 3)) p0 ((0 : Int32)) ((16 : Int32)) ((0 : Int32)) y11 hc10 hk10 hy11) (cwV 5 hts gX0_costOfBoth_X6_predictRegion rfl rfl rfl (by decide +kernel) ⟨Nat.le_of_ble_eq_true rfl, Nat.le_of_ble_eq_true rfl⟩) ⟨fun a U g mk q => by obtain ⟨q0, q1, qP, qK, qD, qZ, qN⟩ := q; exact ⟨q0, q1, qP, va_K.moved (u := U) (U := U.calling g mk a) (Vm.Alike.refl U.vm) qK, qD, sF.moved (u := U) (U := U.calling g mk a) (Vm.Alike.refl U.vm) qZ, nF.same rfl qN⟩, va_recv hK hP (ci := 6) (q0 := b10) rfl (wld_o ct ad G y7.2 hc10 hk10 (by decide)), fun U hU hW => ⟨rfl, by rw [hU], by rw [hU]; exact hP, va_K.moved hW.alike hK, hD.weaken (fun _ _ _ _ => trivial), by rw [hU]; exact ((hZ.kept hS.2.1).narrow hf9).moved hW.alike, hN.warm hW⟩⟩ rfl rfl hl.1 rfl (lv_room (Nat.le_of_ble_eq_true rfl)) dX0_costOfBoth_77 ⟨(Nat.zero_le _), (Nat.zero_le _)⟩) hS (fun q _ h => hf9 q h) hf9 (fun u t H locs ht hvm hw hB hz1 hk1 hS => ?_)
        obtain ⟨hP, hK9, hD9⟩ := hB
        rw [ht] at hP
        have hD := hD9.weaken (fun _ q _ h => hf9 q.1 h)
        refine lv_aload_n hx hb dX0_costOfBoth_80 rfl (lv_at hl 1 rfl) ?_
        refine va_get (D := D) (ci := 0) (v := va_re ad (y11.2 a 4)) (C := RX0) (T := TX0) (N := 21) hx hb hts (by decide +kernel) hown hK hP a (wld_o ct ad G y11 hc hk (by decide)) rfl 4 (by decide) (hts (.fieldLink RX0 43 "VideoSuite$Coder" "samples" "LVideoSuite$Samples;") (by decide +kernel)) (fun _ h9 => h9) rfl dX0_costOfBoth_81 ?_
        refine lv_aload_n hx hb dX0_costOfBoth_84 rfl (lv_at hl 1 rfl) ?_
        refine va_get (D := D) (ci := 0) (v := va_re ad (y11.2 a 3)) (C := RX0) (T := TX0) (N := 21) hx hb hts (by decide +kernel) hown hK hP a (wld_o ct ad G y11 hc hk (by decide)) rfl 3 (by decide) (hts (.fieldLink RX0 36 "VideoSuite$Coder" "work" "LVideoSuite$Work;") (by decide +kernel)) (fun _ h9 => h9) rfl dX0_costOfBoth_85 ?_
        refine lv_aload_n hx hb dX0_costOfBoth_88 rfl (lv_at hl 1 rfl) ?_
        refine va_get (D := D) (ci := 0) (v := va_re ad (y11.2 a 9)) (C := RX0) (T := TX0) (N := 21) hx hb hts (by decide +kernel) hown hK hP a (wld_o ct ad G y11 hc hk (by decide)) rfl 9 (by decide) (hts (.fieldLink RX0 69 "VideoSuite$Coder" "source" "[[I") (by decide +kernel)) (fun _ h9 => h9) rfl dX0_costOfBoth_89 ?_
        refine lv_iconst (v := (0 : Int32)) hx hb dX0_costOfBoth_92 (by decide) ?_
        obtain ⟨b12, ho12, hc12, hk12, hF⟩ := dr_some hF
        refine W_st (st' := [.int (0 : Int32), .ref (ad b12), va_re ad (y11.2 a 3), va_re ad (y11.2 a 4)]) (by rw [va_some ho12]) ?_
        obtain ⟨hvc, hF⟩ := chk_some hF
        refine ld_g hx hb hK hP hc12 hk12 hvc dX0_costOfBoth_93 ?_
        refine lv_iload_n hx hb dX0_costOfBoth_94 rfl (lv_at hl 2 rfl) ?_
        refine lv_iconst (v := (0 : Int32)) hx hb dX0_costOfBoth_95 (by decide) ?_
        refine lv_bipush (v := (16 : Int32)) hx hb dX0_costOfBoth_96 (by decide) ?_
        obtain ⟨b13, ho13, hc13, hk13, hF⟩ := dr_some hF
        refine W_st (st' := [.int (16 : Int32), .int (0 : Int32), .int p0, va_re ad (y11.2 b12 ((0 : Int32)).toNatClampNeg), va_re ad (y11.2 a 3), .ref (ad b13)]) (by rw [va_some ho13]) ?_
        obtain ⟨y14, hy14, hF⟩ := bnd_some hF
        have hf9 := wA_in hD hA9 hS
        refine va_calli (va_runV (As := [va_re ad (y11.2 a 3), va_re ad (y11.2 b12 ((0 : Int32)).toNatClampNeg), .int p0, .int (0 : Int32), .int (16 : Int32)]) (rest := []) ⟨hx, hb, hml, hown, hts⟩ (kX6_differences l D ct ad Z G y11 H.size b13 ((y11.2 a 3)) ((y11.2 b12 ((0 : Int32)).toNatClampNeg)) p0 ((0 : Int32)) ((16 : Int32)) y14 hc13 hk13 hy14) (cwV 5 hts gX0_costOfBoth_X6_differences rfl rfl rfl (by decide +kernel) ⟨Nat.le_of_ble_eq_true rfl, Nat.le_of_ble_eq_true rfl⟩) ⟨fun a U g mk q => by obtain ⟨q0, q1, qP, qK, qD, qZ, qN⟩ := q; exact ⟨q0, q1, qP, va_K.moved (u := U) (U := U.calling g mk a) (Vm.Alike.refl U.vm) qK, qD, sF.moved (u := U) (U := U.calling g mk a) (Vm.Alike.refl U.vm) qZ, nF.same rfl qN⟩, va_recv hK hP (ci := 6) (q0 := b13) rfl (wld_o ct ad G y11 hc13 hk13 (by decide)), fun U hU hW => ⟨rfl, by rw [hU], by rw [hU]; exact hP, va_K.moved hW.alike hK, hD.weaken (fun _ _ _ _ => trivial), by rw [hU]; exact ((hZ.kept hS.2.1).narrow hf9).moved hW.alike, hN.warm hW⟩⟩ rfl rfl hl.1 rfl (lv_room (Nat.le_of_ble_eq_true rfl)) dX0_costOfBoth_98 ⟨(Nat.zero_le _), (Nat.zero_le _)⟩) hS (fun q _ h => hf9 q h) hf9 (fun r u t H locs ht hvm hw hB hz1 hk1 hS => ?_)
        obtain ⟨hP, hK9, hD9⟩ := hB
        rw [ht] at hP
        try dsimp only at hw
        subst hw
        have hD := hD9.weaken (fun _ q _ h => hf9 q.1 h)
        refine lv_aload_n hx hb dX0_costOfBoth_101 rfl (lv_at hl 1 rfl) ?_
        obtain ⟨y15, hy15, hF⟩ := bnd_some hF
        have hf9 := wA_in hD hA9 hS
        refine va_calli (va_runV (As := []) (rest := [.int y14.2]) ⟨hx, hb, hml, hown, hts⟩ (kX0_priceOfBit l D ct ad Z G y14.1 H.size a y15 hc hk hy15) (cwV 0 hts gX0_costOfBoth_X0_priceOfBit rfl rfl rfl (by decide +kernel) ⟨Nat.le_of_ble_eq_true rfl, Nat.le_of_ble_eq_true rfl⟩) ⟨fun a U g mk q => by obtain ⟨q0, q1, qP, qK, qD, qZ, qN⟩ := q; exact ⟨q0, q1, qP, va_K.moved (u := U) (U := U.calling g mk a) (Vm.Alike.refl U.vm) qK, qD, sF.moved (u := U) (U := U.calling g mk a) (Vm.Alike.refl U.vm) qZ, nF.same rfl qN⟩, va_recv hK hP (ci := 0) (q0 := a) rfl (wld_o ct ad G y14.1 hc hk (by decide)), fun U hU hW => ⟨rfl, by rw [hU], by rw [hU]; exact hP, va_K.moved hW.alike hK, hD.weaken (fun _ _ _ _ => trivial), by rw [hU]; exact ((hZ.kept hS.2.1).narrow hf9).moved hW.alike, hN.warm hW⟩⟩ rfl rfl hl.1 rfl (lv_room (Nat.le_of_ble_eq_true rfl)) dX0_costOfBoth_102 ⟨(Nat.zero_le _), (Nat.zero_le _)⟩) hS (fun q _ h => hf9 q h) hf9 (fun r u t H locs ht hvm hw hB hz1 hk1 hS => ?_)
        obtain ⟨hP, hK9, hD9⟩ := hB
        rw [ht] at hP
        try dsimp only at hw
        subst hw
        have hD := hD9.weaken (fun _ q _ h => hf9 q.1 h)
        refine lv_aload_n hx hb dX0_costOfBoth_105 rfl (lv_at hl 1 rfl) ?_
        refine va_get (D := D) (ci := 0) (v := va_re ad (y15.1.2 a 20)) (C := RX0) (T := TX0) (N := 21) hx hb hts (by decide +kernel) hown hK hP a (wld_o ct ad G y15.1 hc hk (by decide)) rfl 20 (by decide) (hts (.fieldLink RX0 75 "VideoSuite$Coder" "choice" "[I") (by decide +kernel)) (fun _ h9 => h9) rfl dX0_costOfBoth_106 ?_
        refine lv_iconst (v := (4 : Int32)) hx hb dX0_costOfBoth_109 (by decide) ?_
        obtain ⟨b16, ho16, hc16, hk16, hF⟩ := dr_some hF
        refine W_st (st' := [.int (4 : Int32), .ref (ad b16), .int y15.2, .int y14.2]) (by rw [va_some ho16]) ?_
        obtain ⟨hvc, hF⟩ := chk_some hF
        refine va_iald hx hb hK hP b16 1 (wld_i ct ad G y15.1 hc16 hk16) rfl hvc dX0_costOfBoth_110 ?_
        obtain ⟨x17, ex17, hF⟩ := ltt_some hF
        refine lv_topi (fun zx17 ezx17 => ?_)
        obtain rfl : x17 = zx17 := ex17.trans ezx17.symm
        refine lv_aload_n hx hb dX0_costOfBoth_111 rfl (lv_at hl 1 rfl) ?_
        refine va_get (D := D) (ci := 0) (v := va_re ad (y15.1.2 a 20)) (C := RX0) (T := TX0) (N := 21) hx hb hts (by decide +kernel) hown hK hP a (wld_o ct ad G y15.1 hc hk (by decide)) rfl 20 (by decide) (hts (.fieldLink RX0 75 "VideoSuite$Coder" "choice" "[I") (by decide +kernel)) (fun _ h9 => h9) rfl dX0_costOfBoth_112 ?_
        refine lv_bipush (v := (9 : Int32)) hx hb dX0_costOfBoth_115 (by decide) ?_
        refine W_st (st' := [.int (9 : Int32), .ref (ad b16), .int x17, .int y15.2, .int y14.2]) (by rw [va_some ho16]) ?_
        obtain ⟨hvc, hF⟩ := chk_some hF
        refine va_iald hx hb hK hP b16 1 (wld_i ct ad G y15.1 hc16 hk16) rfl hvc dX0_costOfBoth_117 ?_
        obtain ⟨x18, ex18, hF⟩ := ltt_some hF
        refine lv_topi (fun zx18 ezx18 => ?_)
        obtain rfl : x18 = zx18 := ex18.trans ezx18.symm
        refine lv_iadd hx hb dX0_costOfBoth_118 ?_
        obtain ⟨x19, ex19, hF⟩ := ltt_some hF
        refine lv_topi (fun zx19 ezx19 => ?_)
        obtain rfl : x19 = zx19 := ex19.trans ezx19.symm
        refine lv_imul hx hb dX0_costOfBoth_119 ?_
        obtain ⟨x20, ex20, hF⟩ := ltt_some hF
        refine lv_topi (fun zx20 ezx20 => ?_)
        obtain rfl : x20 = zx20 := ex20.trans ezx20.symm
        refine lv_iadd hx hb dX0_costOfBoth_120 ?_
        obtain ⟨x21, ex21, hF⟩ := ltt_some hF
        refine lv_topi (fun zx21 ezx21 => ?_)
        obtain rfl : x21 = zx21 := ex21.trans ezx21.symm
        obtain rfl := Option.some.inj hF
        exact W.iret (v := x21) hx hb hr (fun t ht hW => ⟨⟨_, (), rfl, rfl, ⟨by rw [ht]; exact hP, va_K.moved hW.alike hK, hD⟩⟩, hS.F ht⟩) hS.2.2 dX0_costOfBoth_121
      clear hF
      refine itr_rule (fun (s8 : Int32 × DD) => ∀ (H : Heap) (locs : List Loc) (ls : Array Slot), va_P D classes (wld ct ad G s8.2) H → va_D A (wld ct ad G s8.2) → va_S A s.heap H locs → lv_has ls 3 [(2, .int s8.1), (0, .ref (ad a)), (1, .int p0)] → W p l e (headSpec wsX0_costOfBoth ({ frames := 4, cells := 0, slots := 0, locals := 113 })).room s m ([.ref (ad a), .int p0] : List Value).toArray below meth c H locs 0 0 (MQ below (va_Qi (fun (q : Int32) (_ : Unit) => q = y.2) (fun _ t => kE D ct ad G A y.1 t) A) ([.ref (ad a), .int p0] : List Value).toArray s 0 0 A) (F0 m 30 ls [])) ?_ _ _ hy7 _ _ _ hP hD hS (lv_sub hl [0, 1, 2] rfl)
      rintro s8 ⟨z22, hF, hwz22⟩ H locs ls hP hD hS hl
      try dsimp only at hF
      refine lv_iload_n hx hb dX0_costOfBoth_30 rfl (lv_at hl 0 rfl) ?_
      refine lv_iconst (v := (2 : Int32)) hx hb dX0_costOfBoth_31 (by decide) ?_
      refine lv_icmp_ge (tgt := 64) hx hb dX0_costOfBoth_32 (by decide) (fun c23 => ?_) (fun c23 => ?_)
      · rw [if_pos c23] at hF
        obtain rfl := Option.some.inj hF
        subst hwz22
        exact K7 _ _ _ hP hD hS (lv_sub hl [0, 1, 2] rfl)
      · rw [if_neg c23] at hF
        refine lv_aload_n hx hb dX0_costOfBoth_35 rfl (lv_at hl 1 rfl) ?_
        refine va_get (D := D) (ci := 0) (v := va_re ad (s8.2.2 a 20)) (C := RX0) (T := TX0) (N := 21) hx hb hts (by decide +kernel) hown hK hP a (wld_o ct ad G s8.2 hc hk (by decide)) rfl 20 (by decide) (hts (.fieldLink RX0 75 "VideoSuite$Coder" "choice" "[I") (by decide +kernel)) (fun _ h9 => h9) rfl dX0_costOfBoth_36 ?_
        refine lv_iconst (v := (5 : Int32)) hx hb dX0_costOfBoth_39 (by decide) ?_
        refine lv_iload_n hx hb dX0_costOfBoth_40 rfl (lv_at hl 0 rfl) ?_
        refine lv_imul hx hb dX0_costOfBoth_41 ?_
        obtain ⟨x24, ex24, hF⟩ := ltt_some hF
        refine lv_topi (fun zx24 ezx24 => ?_)
        obtain rfl : x24 = zx24 := ex24.trans ezx24.symm
        refine lv_iconst (v := (1 : Int32)) hx hb dX0_costOfBoth_42 (by decide) ?_
        refine lv_iadd hx hb dX0_costOfBoth_43 ?_
        obtain ⟨x25, ex25, hF⟩ := ltt_some hF
        refine lv_topi (fun zx25 ezx25 => ?_)
        obtain rfl : x25 = zx25 := ex25.trans ezx25.symm
        refine lv_aload_n hx hb dX0_costOfBoth_44 rfl (lv_at hl 1 rfl) ?_
        refine va_get (D := D) (ci := 0) (v := va_re ad (s8.2.2 a 4)) (C := RX0) (T := TX0) (N := 21) hx hb hts (by decide +kernel) hown hK hP a (wld_o ct ad G s8.2 hc hk (by decide)) rfl 4 (by decide) (hts (.fieldLink RX0 43 "VideoSuite$Coder" "samples" "LVideoSuite$Samples;") (by decide +kernel)) (fun _ h9 => h9) rfl dX0_costOfBoth_45 ?_
        obtain ⟨b26, ho26, hc26, hk26, hF⟩ := dr_some hF
        refine W_st (st' := [.ref (ad b26), .int x25, va_re ad (s8.2.2 a 20)]) (by rw [va_some ho26]) ?_
        refine va_get (D := D) (ci := 6) (v := va_re ad (s8.2.2 b26 5)) (C := RX6) (T := TX6) (N := 14) hx hb hts (by decide +kernel) hown hK hP b26 (wld_o ct ad G s8.2 hc26 hk26 (by decide)) rfl 5 (by decide) (hts (.fieldLink RX0 491 "VideoSuite$Samples" "motion" "[I") (by decide +kernel)) (fun _ h9 => h9) rfl dX0_costOfBoth_48 ?_
        refine lv_iconst (v := (3 : Int32)) hx hb dX0_costOfBoth_51 (by decide) ?_
        refine lv_iload_n hx hb dX0_costOfBoth_52 rfl (lv_at hl 0 rfl) ?_
        refine lv_imul hx hb dX0_costOfBoth_53 ?_
        obtain ⟨x27, ex27, hF⟩ := ltt_some hF
        refine lv_topi (fun zx27 ezx27 => ?_)
        obtain rfl : x27 = zx27 := ex27.trans ezx27.symm
        refine lv_iconst (v := (3 : Int32)) hx hb dX0_costOfBoth_54 (by decide) ?_
        obtain ⟨b28, ho28, hc28, hk28, hF⟩ := dr_some hF
        refine W_st (st' := [.int (3 : Int32), .int x27, va_re ad (s8.2.2 b26 5), .int x25, .ref (ad b28)]) (by rw [va_some ho28]) ?_
        obtain ⟨b29, ho29, hc29, hk29, hF⟩ := dr_some hF
        refine W_st (st' := [.int (3 : Int32), .int x27, .ref (ad b29), .int x25, .ref (ad b28)]) (by rw [va_some ho29]) ?_
        obtain ⟨hv9, hF⟩ := chk_some hF
        refine va_copyi (ty := .int) hx hb (hml.trans hl.1.symm) hown (hts (.methodLink RX0 94 arraycopyName) (by decide +kernel)) (hts (.native arraycopyName) (by decide +kernel)) (hts (.static arraycopyName) (by decide +kernel)) (hts (.initialized "java/lang/System") (by decide +kernel)) hK hP hD hS b28 b29 1 1 (wld_i ct ad G s8.2 hc28 hk28) (wld_i ct ad G s8.2 hc29 hk29) rfl rfl rfl hv9.1 hv9.2.1 hv9.2.2.1 hv9.2.2.2.1 hv9.2.2.2.2 (fun _ _ => rfl) (Nat.le_of_ble_eq_true rfl) (by decide +kernel) dX0_costOfBoth_55 (fun H locs hP hD hS => ?_)
        obtain ⟨M30, eM30, hF⟩ := ltt_some hF
        rw [set_ri ct ad G s8.2 hc29 hk29, ← eM30] at hP hD
        obtain ⟨x31, ex31, hF⟩ := ltt_some hF
        refine lv_iinc (v := x31) (lv' := [(2, .int x31), (0, .ref (ad a)), (1, .int p0)]) hx hb dX0_costOfBoth_58 hl (k := 0) rfl (by rw [ex31]; rfl) (by decide) rfl (fun ls hl => ?_)
        refine lv_goto (tgt := 30) hx hb dX0_costOfBoth_61 (by decide) ?_
        obtain rfl := Option.some.inj hF
        exact hwz22 _ _ _ hP hD hS (lv_sub hl [0, 1, 2] rfl)
    · rw [if_pos c6] at hF
      refine lv_ldcw (v := (2147483647 : Int32)) hx hb hown (hts (.constant RX0 435 (2147483647 : Int32)) (by decide +kernel)) dX0_costOfBoth_24 ?_
      obtain rfl := Option.some.inj hF
      exact W.iret (v := (2147483647 : Int32)) hx hb hr (fun t ht hW => ⟨⟨_, (), rfl, rfl, ⟨by rw [ht]; exact hP, va_K.moved hW.alike hK, hD⟩⟩, hS.F ht⟩) hS.2.2 dX0_costOfBoth_27
theorem ggX0_drawMode_X0_draw : GoodIn wsX0_drawMode wsX0_draw := goodIn_r _ [18, 19, 20, 21, 22, 23, 24, 25, 26, 27, 28, 29, 30, 31, 32, 33, 34, 35, 36, 37, 38, 39, 40, 41, 42] (by decide +kernel) (by decide +kernel)
set_option maxRecDepth 20000 in
theorem gX0_drawMode_X0_draw : GoodIn wsX0_drawMode (wsV RX0 334 RX0 yX0_draw wsX0_draw) := goodIn_app (goodIn_of _ (by decide +kernel)) ggX0_drawMode_X0_draw
theorem ggX0_drawMode_X0_mayBe : GoodIn wsX0_drawMode wsX0_mayBe := goodIn_r _ [4, 5, 6, 7, 8, 9, 10, 11, 12, 13, 14] (by decide +kernel) (by decide +kernel)
set_option maxRecDepth 20000 in
theorem gX0_drawMode_X0_mayBe : GoodIn wsX0_drawMode (va_wsS RX0 349 yX0_mayBe wsX0_mayBe) := goodIn_app (goodIn_of _ (by decide +kernel)) ggX0_drawMode_X0_mayBe
set_option maxRecDepth 20000 in
theorem dX0_drawMode_0 : decode cX0_drawMode 0 = .ok (.iconst 0, 1) := by decide +kernel
theorem dX0_drawMode_1 : decode cX0_drawMode 1 = .ok (.istore 4, 2) := by decide +kernel
theorem dX0_drawMode_3 : decode cX0_drawMode 3 = .ok (.iconst 0, 1) := by decide +kernel
theorem dX0_drawMode_4 : decode cX0_drawMode 4 = .ok (.istore 5, 2) := by decide +kernel
theorem dX0_drawMode_6 : decode cX0_drawMode 6 = .ok (.iload 5, 2) := by decide +kernel
theorem dX0_drawMode_8 : decode cX0_drawMode 8 = .ok (.iload_n 2, 1) := by decide +kernel
theorem dX0_drawMode_9 : decode cX0_drawMode 9 = .ok (.if_icmp .ge 29, 3) := by decide +kernel
theorem dX0_drawMode_12 : decode cX0_drawMode 12 = .ok (.iload 4, 2) := by decide +kernel
theorem dX0_drawMode_14 : decode cX0_drawMode 14 = .ok (.iload_n 1, 1) := by decide +kernel
theorem dX0_drawMode_15 : decode cX0_drawMode 15 = .ok (.iload 5, 2) := by decide +kernel
theorem dX0_drawMode_17 : decode cX0_drawMode 17 = .ok (.iload_n 3, 1) := by decide +kernel
theorem dX0_drawMode_18 : decode cX0_drawMode 18 = .ok (.invokestatic 349, 3) := by decide +kernel
theorem dX0_drawMode_21 : decode cX0_drawMode 21 = .ok (.ifCond .eq 7, 3) := by decide +kernel
theorem dX0_drawMode_24 : decode cX0_drawMode 24 = .ok (.iconst 1, 1) := by decide +kernel
theorem dX0_drawMode_25 : decode cX0_drawMode 25 = .ok (.goto 4, 3) := by decide +kernel
theorem dX0_drawMode_28 : decode cX0_drawMode 28 = .ok (.iconst 0, 1) := by decide +kernel
theorem dX0_drawMode_29 : decode cX0_drawMode 29 = .ok (.iadd, 1) := by decide +kernel
theorem dX0_drawMode_30 : decode cX0_drawMode 30 = .ok (.istore 4, 2) := by decide +kernel
theorem dX0_drawMode_32 : decode cX0_drawMode 32 = .ok (.iinc 5 1, 3) := by decide +kernel
theorem dX0_drawMode_35 : decode cX0_drawMode 35 = .ok (.goto (-29), 3) := by decide +kernel
theorem dX0_drawMode_38 : decode cX0_drawMode 38 = .ok (.aload_n 0, 1) := by decide +kernel
theorem dX0_drawMode_39 : decode cX0_drawMode 39 = .ok (.iload 4, 2) := by decide +kernel
theorem dX0_drawMode_41 : decode cX0_drawMode 41 = .ok (.invokevirtual 334, 3) := by decide +kernel
theorem dX0_drawMode_44 : decode cX0_drawMode 44 = .ok (.istore 5, 2) := by decide +kernel
theorem dX0_drawMode_46 : decode cX0_drawMode 46 = .ok (.iconst 0, 1) := by decide +kernel
theorem dX0_drawMode_47 : decode cX0_drawMode 47 = .ok (.istore 6, 2) := by decide +kernel
theorem dX0_drawMode_49 : decode cX0_drawMode 49 = .ok (.iload 6, 2) := by decide +kernel
theorem dX0_drawMode_51 : decode cX0_drawMode 51 = .ok (.iload_n 2, 1) := by decide +kernel
theorem dX0_drawMode_52 : decode cX0_drawMode 52 = .ok (.if_icmp .ge 37, 3) := by decide +kernel
theorem dX0_drawMode_55 : decode cX0_drawMode 55 = .ok (.iload 5, 2) := by decide +kernel
theorem dX0_drawMode_57 : decode cX0_drawMode 57 = .ok (.iload_n 1, 1) := by decide +kernel
theorem dX0_drawMode_58 : decode cX0_drawMode 58 = .ok (.iload 6, 2) := by decide +kernel
theorem dX0_drawMode_60 : decode cX0_drawMode 60 = .ok (.iload_n 3, 1) := by decide +kernel
theorem dX0_drawMode_61 : decode cX0_drawMode 61 = .ok (.invokestatic 349, 3) := by decide +kernel
theorem dX0_drawMode_64 : decode cX0_drawMode 64 = .ok (.ifCond .eq 7, 3) := by decide +kernel
theorem dX0_drawMode_67 : decode cX0_drawMode 67 = .ok (.iconst 1, 1) := by decide +kernel
theorem dX0_drawMode_68 : decode cX0_drawMode 68 = .ok (.goto 4, 3) := by decide +kernel
theorem dX0_drawMode_71 : decode cX0_drawMode 71 = .ok (.iconst 0, 1) := by decide +kernel
theorem dX0_drawMode_72 : decode cX0_drawMode 72 = .ok (.isub, 1) := by decide +kernel
theorem dX0_drawMode_73 : decode cX0_drawMode 73 = .ok (.istore 5, 2) := by decide +kernel
theorem dX0_drawMode_75 : decode cX0_drawMode 75 = .ok (.iload 5, 2) := by decide +kernel
theorem dX0_drawMode_77 : decode cX0_drawMode 77 = .ok (.ifCond .ge 6, 3) := by decide +kernel
theorem dX0_drawMode_80 : decode cX0_drawMode 80 = .ok (.iload 6, 2) := by decide +kernel
theorem dX0_drawMode_82 : decode cX0_drawMode 82 = .ok (.ireturn, 1) := by decide +kernel
theorem dX0_drawMode_83 : decode cX0_drawMode 83 = .ok (.iinc 6 1, 3) := by decide +kernel
theorem dX0_drawMode_86 : decode cX0_drawMode 86 = .ok (.goto (-37), 3) := by decide +kernel
theorem dX0_drawMode_89 : decode cX0_drawMode 89 = .ok (.iconst 0, 1) := by decide +kernel
theorem dX0_drawMode_90 : decode cX0_drawMode 90 = .ok (.ireturn, 1) := by decide +kernel
def FX0_drawMode (G : GG) (M : DD) (a : Nat) (p0 : Int32) (p1 : Int32) (p2 : Int32) : Option (DD × Int32) :=
  bnd (itr (fun (s2 : Int32 × Int32 × DD) => ((if p1 ≤ s2.2.1 then (some (.inr (s2.1, s2.2.1, s2.2.2))) else
  (bnd (FX0_mayBe G s2.2.2 p0 s2.2.1 p2) fun y18 =>
  bnd (if y18.2 = ((0 : Int32)) then (some ((0 : Int32))) else
  (some ((1 : Int32)))) fun (y19 : Int32) =>
  ltt ((s2.1 + y19)) fun x20 =>
  ltt (s2.2.1 + (1 : Int32)) fun x21 =>
  some (.inl (x20, x21, y18.1)))) : Option ((Int32 × Int32 × DD) ⊕ (Int32 × Int32 × DD)))) 1000000 ((0 : Int32), (0 : Int32), M)) fun (y1 : Int32 × Int32 × DD) =>
  bnd (FX0_draw G y1.2.2 a y1.1) fun y4 =>
  bnd (itr (fun (s6 : Int32 × Int32 × DD) => ((if p1 ≤ s6.2.1 then (some (.inr (.inl (s6.1, s6.2.1, s6.2.2)))) else
  (bnd (FX0_mayBe G s6.2.2 p0 s6.2.1 p2) fun y10 =>
  bnd (if y10.2 = ((0 : Int32)) then (some ((0 : Int32))) else
  (some ((1 : Int32)))) fun (y11 : Int32) =>
  ltt ((s6.1 - y11)) fun x12 =>
  if ((0 : Int32)) ≤ x12 then (ltt (s6.2.1 + (1 : Int32)) fun x14 =>
  some (.inl (x12, x14, y10.1))) else
  (some (.inr (.inr (y10.1, s6.2.1)))))) : Option ((Int32 × Int32 × DD) ⊕ ((Int32 × Int32 × DD) ⊕ (DD × Int32))))) 1000000 (y4.2, (0 : Int32), y4.1)) fun (y5 : (Int32 × Int32 × DD) ⊕ (DD × Int32)) =>
  sel y5 (fun (z5k : Int32 × Int32 × DD) =>
  some (z5k.2.2, (0 : Int32))) fun r9 => some r9
set_option maxHeartbeats 4000000 in
set_option maxRecDepth 100000 in
theorem kX0_drawMode (l : Launch) (D : va_G) (ct : CT) (ad : Nat → Nat) (Z : Nat → Nat) (G : GG) (M : DD) (sz : Nat) (a : Nat) (p0 : Int32) (p1 : Int32) (p2 : Int32) (y : DD × Int32) (hc : a < G.1) (hk : G.2.1 a = 0) (hF : FX0_drawMode G M a p0 p1 p2 = some y) : Met l yX0_drawMode wsX0_drawMode ({ frames := 2, cells := 0, slots := 0, locals := 44 }) (va_Pc [.ref (ad a), .int p0, .int p1, .int p2] (kB D ct ad Z G M sz)) (va_Qi (fun (q : Int32) (_ : Unit) => q = y.2) (fun _ t => kE D ct ad G (wA ad G sz) y.1 t) (wA ad G sz)) 0 0 (wA ad G sz) := by
  refine Met.ofW (cc := cX0_drawMode) (maxL := 7) (ret := (some .int)) (by decide) rfl ?_
  intro p e s m args below meth c s₁ B hml hv
  obtain ⟨rfl, hsz, hP, hK, hD0, hZ, hN⟩ := hv
  have hx := B.exec
  have hb := B.bytes
  have hr := B.returns
  have hts := atoms_spec (ws := wsX0_drawMode) B.pre
  have hown : s.vm.findClass RX0 = some m.cls := findClass_of_methodNamed B.named
  have hlocks := B.notSynchronized
  subst hsz
  have hD := wD_self (sz := s.heap.size) hD0
  have hA9 : ∀ q, s.heap.size ≤ q → wA ad G s.heap.size q := fun q h => Or.inr h
  generalize hAe : wA ad G s.heap.size = A at hD hA9 hZ ⊢
  have hS : va_S A s.heap s.heap [] := va_S.rf
  have hl := lv_entry ([.ref (ad a), .int p0, .int p1, .int p2]) (n := 7) (Nat.le_of_ble_eq_true rfl)
  rw [lg_entry_eq]
  generalize (lg_sl ([.ref (ad a), .int p0, .int p1, .int p2]) ++ List.replicate (7 - (lg_sl ([.ref (ad a), .int p0, .int p1, .int p2])).length) Slot.unset).toArray = ls at hl ⊢
  have hl : lv_has ls 7 [(0, .ref (ad a)), (1, .int p0), (2, .int p1), (3, .int p2)] := hl
  unfold FX0_drawMode at hF
  refine lv_iconst (v := (0 : Int32)) hx hb dX0_drawMode_0 (by decide) ?_
  refine lv_istore (lv' := [(4, .int (0 : Int32)), (0, .ref (ad a)), (1, .int p0), (2, .int p1), (3, .int p2)]) hx hb dX0_drawMode_1 hl (by decide) rfl (fun ls hl => ?_)
  refine lv_iconst (v := (0 : Int32)) hx hb dX0_drawMode_3 (by decide) ?_
  refine lv_istore (lv' := [(5, .int (0 : Int32)), (4, .int (0 : Int32)), (0, .ref (ad a)), (1, .int p0), (2, .int p1), (3, .int p2)]) hx hb dX0_drawMode_4 hl (by decide) rfl (fun ls hl => ?_)
  obtain ⟨y1, hy1, hF⟩ := bnd_some hF
  have K1 : ∀ (H : Heap) (locs : List Loc) (ls : Array Slot), va_P D classes (wld ct ad G y1.2.2) H → va_D A (wld ct ad G y1.2.2) → va_S A s.heap H locs → lv_has ls 7 [(5, .int y1.2.1), (4, .int y1.1), (0, .ref (ad a)), (1, .int p0), (2, .int p1), (3, .int p2)] → W p l e (headSpec wsX0_drawMode ({ frames := 2, cells := 0, slots := 0, locals := 44 })).room s m ([.ref (ad a), .int p0, .int p1, .int p2] : List Value).toArray below meth c H locs 0 0 (MQ below (va_Qi (fun (q : Int32) (_ : Unit) => q = y.2) (fun _ t => kE D ct ad G A y.1 t) A) ([.ref (ad a), .int p0, .int p1, .int p2] : List Value).toArray s 0 0 A) (F0 m 38 ls []) := by
    intro H locs ls hP hD hS hl
    refine lv_aload_n hx hb dX0_drawMode_38 rfl (lv_at hl 2 rfl) ?_
    refine lv_iload hx hb dX0_drawMode_39 (lv_at hl 1 rfl) ?_
    obtain ⟨y4, hy4, hF⟩ := bnd_some hF
    have hf9 := wA_in hD hA9 hS
    refine va_calli (va_runV (As := [.int y1.1]) (rest := []) ⟨hx, hb, hml, hown, hts⟩ (kX0_draw l D ct ad Z G y1.2.2 H.size a y1.1 y4 hc hk hy4) (cwV 1 hts gX0_drawMode_X0_draw rfl rfl rfl (by decide +kernel) ⟨Nat.le_of_ble_eq_true rfl, Nat.le_of_ble_eq_true rfl⟩) ⟨fun a U g mk q => by obtain ⟨q0, q1, qP, qK, qD, qZ, qN⟩ := q; exact ⟨q0, q1, qP, va_K.moved (u := U) (U := U.calling g mk a) (Vm.Alike.refl U.vm) qK, qD, sF.moved (u := U) (U := U.calling g mk a) (Vm.Alike.refl U.vm) qZ, nF.same rfl qN⟩, va_recv hK hP (ci := 0) (q0 := a) rfl (wld_o ct ad G y1.2.2 hc hk (by decide)), fun U hU hW => ⟨rfl, by rw [hU], by rw [hU]; exact hP, va_K.moved hW.alike hK, hD.weaken (fun _ _ _ _ => trivial), by rw [hU]; exact ((hZ.kept hS.2.1).narrow hf9).moved hW.alike, hN.warm hW⟩⟩ rfl rfl hl.1 rfl (lv_room (Nat.le_of_ble_eq_true rfl)) dX0_drawMode_41 ⟨(Nat.zero_le _), (Nat.zero_le _)⟩) hS (fun q _ h => hf9 q h) hf9 (fun r u t H locs ht hvm hw hB hz1 hk1 hS => ?_)
    obtain ⟨hP, hK9, hD9⟩ := hB
    rw [ht] at hP
    try dsimp only at hw
    subst hw
    have hD := hD9.weaken (fun _ q _ h => hf9 q.1 h)
    refine lv_istore (lv' := [(5, .int y4.2), (4, .int y1.1), (0, .ref (ad a)), (1, .int p0), (2, .int p1), (3, .int p2)]) hx hb dX0_drawMode_44 hl (by decide) rfl (fun ls hl => ?_)
    refine lv_iconst (v := (0 : Int32)) hx hb dX0_drawMode_46 (by decide) ?_
    refine lv_istore (lv' := [(6, .int (0 : Int32)), (5, .int y4.2), (4, .int y1.1), (0, .ref (ad a)), (1, .int p0), (2, .int p1), (3, .int p2)]) hx hb dX0_drawMode_47 hl (by decide) rfl (fun ls hl => ?_)
    obtain ⟨y5, hy5, hF⟩ := bnd_some hF
    have K5 : ∀ z5k : Int32 × Int32 × DD, y5 = .inl z5k → ∀ (H : Heap) (locs : List Loc) (ls : Array Slot), va_P D classes (wld ct ad G z5k.2.2) H → va_D A (wld ct ad G z5k.2.2) → va_S A s.heap H locs → lv_has ls 7 [(6, .int z5k.2.1), (5, .int z5k.1), (4, .int y1.1), (0, .ref (ad a)), (1, .int p0), (2, .int p1), (3, .int p2)] → W p l e (headSpec wsX0_drawMode ({ frames := 2, cells := 0, slots := 0, locals := 44 })).room s m ([.ref (ad a), .int p0, .int p1, .int p2] : List Value).toArray below meth c H locs 0 0 (MQ below (va_Qi (fun (q : Int32) (_ : Unit) => q = y.2) (fun _ t => kE D ct ad G A y.1 t) A) ([.ref (ad a), .int p0, .int p1, .int p2] : List Value).toArray s 0 0 A) (F0 m 89 ls []) := by
      intro z5k hz5 H locs ls hP hD hS hl
      have hF := sel_inl (hz5 ▸ hF)
      refine lv_iconst (v := (0 : Int32)) hx hb dX0_drawMode_89 (by decide) ?_
      obtain rfl := Option.some.inj hF
      exact W.iret (v := (0 : Int32)) hx hb hr (fun t ht hW => ⟨⟨_, (), rfl, rfl, ⟨by rw [ht]; exact hP, va_K.moved hW.alike hK, hD⟩⟩, hS.F ht⟩) hS.2.2 dX0_drawMode_90
    have hR5 := hF
    clear hF
    refine itr_rule (fun (s6 : Int32 × Int32 × DD) => ∀ (H : Heap) (locs : List Loc) (ls : Array Slot), va_P D classes (wld ct ad G s6.2.2) H → va_D A (wld ct ad G s6.2.2) → va_S A s.heap H locs → lv_has ls 7 [(6, .int s6.2.1), (5, .int s6.1), (4, .int y1.1), (0, .ref (ad a)), (1, .int p0), (2, .int p1), (3, .int p2)] → W p l e (headSpec wsX0_drawMode ({ frames := 2, cells := 0, slots := 0, locals := 44 })).room s m ([.ref (ad a), .int p0, .int p1, .int p2] : List Value).toArray below meth c H locs 0 0 (MQ below (va_Qi (fun (q : Int32) (_ : Unit) => q = y.2) (fun _ t => kE D ct ad G A y.1 t) A) ([.ref (ad a), .int p0, .int p1, .int p2] : List Value).toArray s 0 0 A) (F0 m 49 ls [])) ?_ _ _ hy5 _ _ _ hP hD hS (lv_sub hl [0, 1, 2, 3, 4, 5, 6] rfl)
    rintro s6 ⟨z8, hF, hwz8⟩ H locs ls hP hD hS hl
    try dsimp only at hF
    refine lv_iload hx hb dX0_drawMode_49 (lv_at hl 0 rfl) ?_
    refine lv_iload_n hx hb dX0_drawMode_51 rfl (lv_at hl 5 rfl) ?_
    refine lv_icmp_ge (tgt := 89) hx hb dX0_drawMode_52 (by decide) (fun c9 => ?_) (fun c9 => ?_)
    · rw [if_pos c9] at hF
      obtain rfl := Option.some.inj hF
      exact K5 _ hwz8.symm _ _ _ hP hD hS (lv_sub hl [0, 1, 2, 3, 4, 5, 6] rfl)
    · rw [if_neg c9] at hF
      refine lv_iload hx hb dX0_drawMode_55 (lv_at hl 1 rfl) ?_
      refine lv_iload_n hx hb dX0_drawMode_57 rfl (lv_at hl 4 rfl) ?_
      refine lv_iload hx hb dX0_drawMode_58 (lv_at hl 0 rfl) ?_
      refine lv_iload_n hx hb dX0_drawMode_60 rfl (lv_at hl 6 rfl) ?_
      obtain ⟨y10, hy10, hF⟩ := bnd_some hF
      have hf9 := wA_in hD hA9 hS
      refine va_calli (va_runS (As := [.int p0, .int s6.2.1, .int p2]) (rest := [.int s6.1]) ⟨hx, hb, hml, hown, hts⟩ (kX0_mayBe l D ct ad Z G s6.2.2 H.size p0 s6.2.1 p2 y10 hy10) (va_cwS 3 hts gX0_drawMode_X0_mayBe rfl rfl rfl (by decide +kernel) ⟨Nat.le_of_ble_eq_true rfl, Nat.le_of_ble_eq_true rfl⟩) ⟨fun a U g mk q => by obtain ⟨q0, q1, qP, qK, qD, qZ, qN⟩ := q; exact ⟨q0, q1, qP, va_K.moved (u := U) (U := U.calling g mk a) (Vm.Alike.refl U.vm) qK, qD, sF.moved (u := U) (U := U.calling g mk a) (Vm.Alike.refl U.vm) qZ, nF.same rfl qN⟩, fun U hU hW => ⟨rfl, by rw [hU], by rw [hU]; exact hP, va_K.moved hW.alike hK, hD.weaken (fun _ _ _ _ => trivial), by rw [hU]; exact ((hZ.kept hS.2.1).narrow hf9).moved hW.alike, hN.warm hW⟩⟩ rfl rfl hl.1 rfl (lv_room (Nat.le_of_ble_eq_true rfl)) dX0_drawMode_61 ⟨(Nat.zero_le _), (Nat.zero_le _)⟩) hS (fun q _ h => hf9 q h) hf9 (fun r u t H locs ht hvm hw hB hz1 hk1 hS => ?_)
      obtain ⟨hP, hK9, hD9⟩ := hB
      rw [ht] at hP
      try dsimp only at hw
      subst hw
      have hD := hD9.weaken (fun _ q _ h => hf9 q.1 h)
      obtain ⟨y11, hy11, hF⟩ := bnd_some hF
      have J11 : ∀ (H : Heap) (locs : List Loc) (ls : Array Slot), va_P D classes (wld ct ad G y10.1) H → va_D A (wld ct ad G y10.1) → va_S A s.heap H locs → lv_has ls 7 [(6, .int s6.2.1), (5, .int s6.1), (4, .int y1.1), (0, .ref (ad a)), (1, .int p0), (2, .int p1), (3, .int p2)] → W p l e (headSpec wsX0_drawMode ({ frames := 2, cells := 0, slots := 0, locals := 44 })).room s m ([.ref (ad a), .int p0, .int p1, .int p2] : List Value).toArray below meth c H locs 0 0 (MQ below (va_Qi (fun (q : Int32) (_ : Unit) => q = y.2) (fun _ t => kE D ct ad G A y.1 t) A) ([.ref (ad a), .int p0, .int p1, .int p2] : List Value).toArray s 0 0 A) (F0 m 72 ls [.int y11, .int s6.1]) := by
        intro H locs ls hP hD hS hl
        refine lv_isub hx hb dX0_drawMode_72 ?_
        obtain ⟨x12, ex12, hF⟩ := ltt_some hF
        refine lv_topi (fun zx12 ezx12 => ?_)
        obtain rfl : x12 = zx12 := ex12.trans ezx12.symm
        refine lv_istore (lv' := [(5, .int x12), (6, .int s6.2.1), (4, .int y1.1), (0, .ref (ad a)), (1, .int p0), (2, .int p1), (3, .int p2)]) hx hb dX0_drawMode_73 hl (by decide) rfl (fun ls hl => ?_)
        refine lv_iload hx hb dX0_drawMode_75 (lv_at hl 0 rfl) ?_
        refine lv_if_ge (tgt := 83) hx hb dX0_drawMode_77 (by decide) (fun c13 => ?_) (fun c13 => ?_)
        · rw [if_pos c13] at hF
          obtain ⟨x14, ex14, hF⟩ := ltt_some hF
          refine lv_iinc (v := x14) (lv' := [(6, .int x14), (5, .int x12), (4, .int y1.1), (0, .ref (ad a)), (1, .int p0), (2, .int p1), (3, .int p2)]) hx hb dX0_drawMode_83 hl (k := 1) rfl (by rw [ex14]; rfl) (by decide) rfl (fun ls hl => ?_)
          refine lv_goto (tgt := 49) hx hb dX0_drawMode_86 (by decide) ?_
          obtain rfl := Option.some.inj hF
          exact hwz8 _ _ _ hP hD hS (lv_sub hl [0, 1, 2, 3, 4, 5, 6] rfl)
        · rw [if_neg c13] at hF
          refine lv_iload hx hb dX0_drawMode_80 (lv_at hl 1 rfl) ?_
          obtain rfl := Option.some.inj hF
          have hF := sel_inr (hwz8 ▸ hR5)
          obtain rfl := Option.some.inj hF
          exact W.iret (v := s6.2.1) hx hb hr (fun t ht hW => ⟨⟨_, (), rfl, rfl, ⟨by rw [ht]; exact hP, va_K.moved hW.alike hK, hD⟩⟩, hS.F ht⟩) hS.2.2 dX0_drawMode_82
      clear hF
      have hF := hy11
      clear hy11
      refine lv_if_eq (tgt := 71) hx hb dX0_drawMode_64 (by decide) (fun c15 => ?_) (fun c15 => ?_)
      · rw [if_pos c15] at hF
        refine lv_iconst (v := (0 : Int32)) hx hb dX0_drawMode_71 (by decide) ?_
        obtain rfl := Option.some.inj hF
        exact J11 _ _ _ hP hD hS (lv_sub hl [0, 1, 2, 3, 4, 5, 6] rfl)
      · rw [if_neg c15] at hF
        refine lv_iconst (v := (1 : Int32)) hx hb dX0_drawMode_67 (by decide) ?_
        refine lv_goto (tgt := 72) hx hb dX0_drawMode_68 (by decide) ?_
        obtain rfl := Option.some.inj hF
        exact J11 _ _ _ hP hD hS (lv_sub hl [0, 1, 2, 3, 4, 5, 6] rfl)
  clear hF
  refine itr_rule (fun (s2 : Int32 × Int32 × DD) => ∀ (H : Heap) (locs : List Loc) (ls : Array Slot), va_P D classes (wld ct ad G s2.2.2) H → va_D A (wld ct ad G s2.2.2) → va_S A s.heap H locs → lv_has ls 7 [(5, .int s2.2.1), (4, .int s2.1), (0, .ref (ad a)), (1, .int p0), (2, .int p1), (3, .int p2)] → W p l e (headSpec wsX0_drawMode ({ frames := 2, cells := 0, slots := 0, locals := 44 })).room s m ([.ref (ad a), .int p0, .int p1, .int p2] : List Value).toArray below meth c H locs 0 0 (MQ below (va_Qi (fun (q : Int32) (_ : Unit) => q = y.2) (fun _ t => kE D ct ad G A y.1 t) A) ([.ref (ad a), .int p0, .int p1, .int p2] : List Value).toArray s 0 0 A) (F0 m 6 ls [])) ?_ _ _ hy1 _ _ _ hP hD hS (lv_sub hl [0, 1, 2, 3, 4, 5] rfl)
  rintro s2 ⟨z16, hF, hwz16⟩ H locs ls hP hD hS hl
  try dsimp only at hF
  refine lv_iload hx hb dX0_drawMode_6 (lv_at hl 0 rfl) ?_
  refine lv_iload_n hx hb dX0_drawMode_8 rfl (lv_at hl 4 rfl) ?_
  refine lv_icmp_ge (tgt := 38) hx hb dX0_drawMode_9 (by decide) (fun c17 => ?_) (fun c17 => ?_)
  · rw [if_pos c17] at hF
    obtain rfl := Option.some.inj hF
    subst hwz16
    exact K1 _ _ _ hP hD hS (lv_sub hl [0, 1, 2, 3, 4, 5] rfl)
  · rw [if_neg c17] at hF
    refine lv_iload hx hb dX0_drawMode_12 (lv_at hl 1 rfl) ?_
    refine lv_iload_n hx hb dX0_drawMode_14 rfl (lv_at hl 3 rfl) ?_
    refine lv_iload hx hb dX0_drawMode_15 (lv_at hl 0 rfl) ?_
    refine lv_iload_n hx hb dX0_drawMode_17 rfl (lv_at hl 5 rfl) ?_
    obtain ⟨y18, hy18, hF⟩ := bnd_some hF
    have hf9 := wA_in hD hA9 hS
    refine va_calli (va_runS (As := [.int p0, .int s2.2.1, .int p2]) (rest := [.int s2.1]) ⟨hx, hb, hml, hown, hts⟩ (kX0_mayBe l D ct ad Z G s2.2.2 H.size p0 s2.2.1 p2 y18 hy18) (va_cwS 3 hts gX0_drawMode_X0_mayBe rfl rfl rfl (by decide +kernel) ⟨Nat.le_of_ble_eq_true rfl, Nat.le_of_ble_eq_true rfl⟩) ⟨fun a U g mk q => by obtain ⟨q0, q1, qP, qK, qD, qZ, qN⟩ := q; exact ⟨q0, q1, qP, va_K.moved (u := U) (U := U.calling g mk a) (Vm.Alike.refl U.vm) qK, qD, sF.moved (u := U) (U := U.calling g mk a) (Vm.Alike.refl U.vm) qZ, nF.same rfl qN⟩, fun U hU hW => ⟨rfl, by rw [hU], by rw [hU]; exact hP, va_K.moved hW.alike hK, hD.weaken (fun _ _ _ _ => trivial), by rw [hU]; exact ((hZ.kept hS.2.1).narrow hf9).moved hW.alike, hN.warm hW⟩⟩ rfl rfl hl.1 rfl (lv_room (Nat.le_of_ble_eq_true rfl)) dX0_drawMode_18 ⟨(Nat.zero_le _), (Nat.zero_le _)⟩) hS (fun q _ h => hf9 q h) hf9 (fun r u t H locs ht hvm hw hB hz1 hk1 hS => ?_)
    obtain ⟨hP, hK9, hD9⟩ := hB
    rw [ht] at hP
    try dsimp only at hw
    subst hw
    have hD := hD9.weaken (fun _ q _ h => hf9 q.1 h)
    obtain ⟨y19, hy19, hF⟩ := bnd_some hF
    have J19 : ∀ (H : Heap) (locs : List Loc) (ls : Array Slot), va_P D classes (wld ct ad G y18.1) H → va_D A (wld ct ad G y18.1) → va_S A s.heap H locs → lv_has ls 7 [(5, .int s2.2.1), (4, .int s2.1), (0, .ref (ad a)), (1, .int p0), (2, .int p1), (3, .int p2)] → W p l e (headSpec wsX0_drawMode ({ frames := 2, cells := 0, slots := 0, locals := 44 })).room s m ([.ref (ad a), .int p0, .int p1, .int p2] : List Value).toArray below meth c H locs 0 0 (MQ below (va_Qi (fun (q : Int32) (_ : Unit) => q = y.2) (fun _ t => kE D ct ad G A y.1 t) A) ([.ref (ad a), .int p0, .int p1, .int p2] : List Value).toArray s 0 0 A) (F0 m 29 ls [.int y19, .int s2.1]) := by
      intro H locs ls hP hD hS hl
      refine lv_iadd hx hb dX0_drawMode_29 ?_
      obtain ⟨x20, ex20, hF⟩ := ltt_some hF
      refine lv_topi (fun zx20 ezx20 => ?_)
      obtain rfl : x20 = zx20 := ex20.trans ezx20.symm
      refine lv_istore (lv' := [(4, .int x20), (5, .int s2.2.1), (0, .ref (ad a)), (1, .int p0), (2, .int p1), (3, .int p2)]) hx hb dX0_drawMode_30 hl (by decide) rfl (fun ls hl => ?_)
      obtain ⟨x21, ex21, hF⟩ := ltt_some hF
      refine lv_iinc (v := x21) (lv' := [(5, .int x21), (4, .int x20), (0, .ref (ad a)), (1, .int p0), (2, .int p1), (3, .int p2)]) hx hb dX0_drawMode_32 hl (k := 1) rfl (by rw [ex21]; rfl) (by decide) rfl (fun ls hl => ?_)
      refine lv_goto (tgt := 6) hx hb dX0_drawMode_35 (by decide) ?_
      obtain rfl := Option.some.inj hF
      exact hwz16 _ _ _ hP hD hS (lv_sub hl [0, 1, 2, 3, 4, 5] rfl)
    clear hF
    have hF := hy19
    clear hy19
    refine lv_if_eq (tgt := 28) hx hb dX0_drawMode_21 (by decide) (fun c22 => ?_) (fun c22 => ?_)
    · rw [if_pos c22] at hF
      refine lv_iconst (v := (0 : Int32)) hx hb dX0_drawMode_28 (by decide) ?_
      obtain rfl := Option.some.inj hF
      exact J19 _ _ _ hP hD hS (lv_sub hl [0, 1, 2, 3, 4, 5] rfl)
    · rw [if_neg c22] at hF
      refine lv_iconst (v := (1 : Int32)) hx hb dX0_drawMode_24 (by decide) ?_
      refine lv_goto (tgt := 29) hx hb dX0_drawMode_25 (by decide) ?_
      obtain rfl := Option.some.inj hF
      exact J19 _ _ _ hP hD hS (lv_sub hl [0, 1, 2, 3, 4, 5] rfl)
theorem ggX0_drawVectors_X4_at : GoodIn wsX0_drawVectors wsX4_at := goodIn_r _ [11] (by decide +kernel) (by decide +kernel)
set_option maxRecDepth 20000 in
theorem gX0_drawVectors_X4_at : GoodIn wsX0_drawVectors (va_wsS RX0 412 yX4_at wsX4_at) := goodIn_app (goodIn_of _ (by decide +kernel)) ggX0_drawVectors_X4_at
set_option maxRecDepth 20000 in
theorem ggX0_drawVectors_X9_guess : GoodIn wsX0_drawVectors wsX9_guess := goodIn_r _ [16, 17, 18, 15, 19, 20, 21, 22, 23, 24, 25, 26, 27, 28, 29, 30, 31, 32, 33, 34, 35, 36, 37, 38, 39, 40, 41, 42, 43, 44, 45, 46, 90, 91, 92, 93, 94, 95, 96, 97, 98, 99, 100, 101, 102, 103, 104, 105, 106, 107, 108, 109, 110, 111, 112, 113, 114, 115, 116, 117, 118, 119, 120, 121, 122, 123, 124, 125, 126, 127] (by decide +kernel) (by decide +kernel)
set_option maxRecDepth 20000 in
theorem gX0_drawVectors_X9_guess : GoodIn wsX0_drawVectors (wsV RX0 415 RX9 yX9_guess wsX9_guess) := goodIn_app (goodIn_of _ (by decide +kernel)) ggX0_drawVectors_X9_guess
set_option maxRecDepth 20000 in
theorem ggX0_drawVectors_X0_draw : GoodIn wsX0_drawVectors wsX0_draw := goodIn_r _ [51, 52, 53, 54, 69, 70, 71, 72, 73, 74, 75, 76, 77, 78, 79, 80, 81, 82, 83, 84, 85, 86, 87, 88, 89] (by decide +kernel) (by decide +kernel)
set_option maxRecDepth 20000 in
theorem gX0_drawVectors_X0_draw : GoodIn wsX0_drawVectors (wsV RX0 334 RX0 yX0_draw wsX0_draw) := goodIn_app (goodIn_of _ (by decide +kernel)) ggX0_drawVectors_X0_draw
set_option maxRecDepth 20000 in
theorem ggX0_drawVectors_X11_clamp : GoodIn wsX0_drawVectors wsX11_clamp := goodIn_r _ [57] (by decide +kernel) (by decide +kernel)
set_option maxRecDepth 20000 in
theorem gX0_drawVectors_X11_clamp_n286 : GoodIn wsX0_drawVectors (wsX11_clamp) := ggX0_drawVectors_X11_clamp
set_option maxRecDepth 20000 in
theorem ggX0_drawVectors_X0_setVector : GoodIn wsX0_drawVectors wsX0_setVector := goodIn_r _ [61, 1, 62, 6, 7, 63, 64, 65, 15, 66, 67, 27, 40, 17, 18, 19, 20, 21, 22, 68, 9, 10, 11, 69, 70, 71, 72, 73, 74, 75, 76, 77, 78, 79, 80, 81, 82, 83, 84, 85, 86, 87, 88, 89, 90, 91, 92, 93, 94, 95, 96, 97, 98, 99, 100, 101, 102, 103, 104, 105, 106, 107, 108, 109, 110, 111, 112, 113, 114, 115, 116, 117, 118, 119, 120, 121, 122, 123, 124, 125, 126, 127] (by decide +kernel) (by decide +kernel)
set_option maxRecDepth 20000 in
theorem gX0_drawVectors_X0_setVector : GoodIn wsX0_drawVectors (wsV RX0 425 RX0 yX0_setVector wsX0_setVector) := goodIn_app (goodIn_of _ (by decide +kernel)) ggX0_drawVectors_X0_setVector
theorem dX0_drawVectors_0 : decode cX0_drawVectors 0 = .ok (.aload_n 0, 1) := by decide +kernel
theorem dX0_drawVectors_1 : decode cX0_drawVectors 1 = .ok (.getfield 36, 3) := by decide +kernel
theorem dX0_drawVectors_4 : decode cX0_drawVectors 4 = .ok (.getfield 403, 3) := by decide +kernel
theorem dX0_drawVectors_7 : decode cX0_drawVectors 7 = .ok (.astore_n 3, 1) := by decide +kernel
theorem dX0_drawVectors_8 : decode cX0_drawVectors 8 = .ok (.iconst 0, 1) := by decide +kernel
theorem dX0_drawVectors_9 : decode cX0_drawVectors 9 = .ok (.istore 4, 2) := by decide +kernel
theorem dX0_drawVectors_11 : decode cX0_drawVectors 11 = .ok (.iload 4, 2) := by decide +kernel
theorem dX0_drawVectors_13 : decode cX0_drawVectors 13 = .ok (.aload_n 0, 1) := by decide +kernel
theorem dX0_drawVectors_14 : decode cX0_drawVectors 14 = .ok (.getfield 36, 3) := by decide +kernel
theorem dX0_drawVectors_17 : decode cX0_drawVectors 17 = .ok (.getfield 406, 3) := by decide +kernel
theorem dX0_drawVectors_20 : decode cX0_drawVectors 20 = .ok (.if_icmp .ge 152, 3) := by decide +kernel
theorem dX0_drawVectors_23 : decode cX0_drawVectors 23 = .ok (.iconst 5, 1) := by decide +kernel
theorem dX0_drawVectors_24 : decode cX0_drawVectors 24 = .ok (.iload 4, 2) := by decide +kernel
theorem dX0_drawVectors_26 : decode cX0_drawVectors 26 = .ok (.imul, 1) := by decide +kernel
theorem dX0_drawVectors_27 : decode cX0_drawVectors 27 = .ok (.istore 5, 2) := by decide +kernel
theorem dX0_drawVectors_29 : decode cX0_drawVectors 29 = .ok (.aload_n 3, 1) := by decide +kernel
theorem dX0_drawVectors_30 : decode cX0_drawVectors 30 = .ok (.iload 5, 2) := by decide +kernel
theorem dX0_drawVectors_32 : decode cX0_drawVectors 32 = .ok (.iconst 3, 1) := by decide +kernel
theorem dX0_drawVectors_33 : decode cX0_drawVectors 33 = .ok (.iadd, 1) := by decide +kernel
theorem dX0_drawVectors_34 : decode cX0_drawVectors 34 = .ok (.iaload, 1) := by decide +kernel
theorem dX0_drawVectors_35 : decode cX0_drawVectors 35 = .ok (.iload_n 2, 1) := by decide +kernel
theorem dX0_drawVectors_36 : decode cX0_drawVectors 36 = .ok (.ishr, 1) := by decide +kernel
theorem dX0_drawVectors_37 : decode cX0_drawVectors 37 = .ok (.iconst 1, 1) := by decide +kernel
theorem dX0_drawVectors_38 : decode cX0_drawVectors 38 = .ok (.iand, 1) := by decide +kernel
theorem dX0_drawVectors_39 : decode cX0_drawVectors 39 = .ok (.ifCond .ne 6, 3) := by decide +kernel
theorem dX0_drawVectors_42 : decode cX0_drawVectors 42 = .ok (.goto 124, 3) := by decide +kernel
theorem dX0_drawVectors_45 : decode cX0_drawVectors 45 = .ok (.aload_n 0, 1) := by decide +kernel
theorem dX0_drawVectors_46 : decode cX0_drawVectors 46 = .ok (.getfield 36, 3) := by decide +kernel
theorem dX0_drawVectors_49 : decode cX0_drawVectors 49 = .ok (.getfield 266, 3) := by decide +kernel
theorem dX0_drawVectors_52 : decode cX0_drawVectors 52 = .ok (.getfield 409, 3) := by decide +kernel
theorem dX0_drawVectors_55 : decode cX0_drawVectors 55 = .ok (.iload_n 2, 1) := by decide +kernel
theorem dX0_drawVectors_56 : decode cX0_drawVectors 56 = .ok (.bipush 16, 2) := by decide +kernel
theorem dX0_drawVectors_58 : decode cX0_drawVectors 58 = .ok (.iload_n 1, 1) := by decide +kernel
theorem dX0_drawVectors_59 : decode cX0_drawVectors 59 = .ok (.imul, 1) := by decide +kernel
theorem dX0_drawVectors_60 : decode cX0_drawVectors 60 = .ok (.aload_n 3, 1) := by decide +kernel
theorem dX0_drawVectors_61 : decode cX0_drawVectors 61 = .ok (.iload 5, 2) := by decide +kernel
theorem dX0_drawVectors_63 : decode cX0_drawVectors 63 = .ok (.iaload, 1) := by decide +kernel
theorem dX0_drawVectors_64 : decode cX0_drawVectors 64 = .ok (.iadd, 1) := by decide +kernel
theorem dX0_drawVectors_65 : decode cX0_drawVectors 65 = .ok (.invokestatic 412, 3) := by decide +kernel
theorem dX0_drawVectors_68 : decode cX0_drawVectors 68 = .ok (.iaload, 1) := by decide +kernel
theorem dX0_drawVectors_69 : decode cX0_drawVectors 69 = .ok (.istore 6, 2) := by decide +kernel
theorem dX0_drawVectors_71 : decode cX0_drawVectors 71 = .ok (.aload_n 0, 1) := by decide +kernel
theorem dX0_drawVectors_72 : decode cX0_drawVectors 72 = .ok (.getfield 36, 3) := by decide +kernel
theorem dX0_drawVectors_75 : decode cX0_drawVectors 75 = .ok (.iload_n 1, 1) := by decide +kernel
theorem dX0_drawVectors_76 : decode cX0_drawVectors 76 = .ok (.iload_n 2, 1) := by decide +kernel
theorem dX0_drawVectors_77 : decode cX0_drawVectors 77 = .ok (.iload 6, 2) := by decide +kernel
theorem dX0_drawVectors_79 : decode cX0_drawVectors 79 = .ok (.aload_n 3, 1) := by decide +kernel
theorem dX0_drawVectors_80 : decode cX0_drawVectors 80 = .ok (.iload 5, 2) := by decide +kernel
theorem dX0_drawVectors_82 : decode cX0_drawVectors 82 = .ok (.iaload, 1) := by decide +kernel
theorem dX0_drawVectors_83 : decode cX0_drawVectors 83 = .ok (.aload_n 3, 1) := by decide +kernel
theorem dX0_drawVectors_84 : decode cX0_drawVectors 84 = .ok (.iload 5, 2) := by decide +kernel
theorem dX0_drawVectors_86 : decode cX0_drawVectors 86 = .ok (.iconst 1, 1) := by decide +kernel
theorem dX0_drawVectors_87 : decode cX0_drawVectors 87 = .ok (.iadd, 1) := by decide +kernel
theorem dX0_drawVectors_88 : decode cX0_drawVectors 88 = .ok (.iaload, 1) := by decide +kernel
theorem dX0_drawVectors_89 : decode cX0_drawVectors 89 = .ok (.aload_n 3, 1) := by decide +kernel
theorem dX0_drawVectors_90 : decode cX0_drawVectors 90 = .ok (.iload 5, 2) := by decide +kernel
theorem dX0_drawVectors_92 : decode cX0_drawVectors 92 = .ok (.iconst 4, 1) := by decide +kernel
theorem dX0_drawVectors_93 : decode cX0_drawVectors 93 = .ok (.iadd, 1) := by decide +kernel
theorem dX0_drawVectors_94 : decode cX0_drawVectors 94 = .ok (.iaload, 1) := by decide +kernel
theorem dX0_drawVectors_95 : decode cX0_drawVectors 95 = .ok (.invokevirtual 415, 3) := by decide +kernel
theorem dX0_drawVectors_98 : decode cX0_drawVectors 98 = .ok (.sipush (-2048), 3) := by decide +kernel
theorem dX0_drawVectors_101 : decode cX0_drawVectors 101 = .ok (.sipush 2047, 3) := by decide +kernel
theorem dX0_drawVectors_104 : decode cX0_drawVectors 104 = .ok (.aload_n 0, 1) := by decide +kernel
theorem dX0_drawVectors_105 : decode cX0_drawVectors 105 = .ok (.getfield 36, 3) := by decide +kernel
theorem dX0_drawVectors_108 : decode cX0_drawVectors 108 = .ok (.getfield 419, 3) := by decide +kernel
theorem dX0_drawVectors_111 : decode cX0_drawVectors 111 = .ok (.aload_n 0, 1) := by decide +kernel
theorem dX0_drawVectors_112 : decode cX0_drawVectors 112 = .ok (.bipush 33, 2) := by decide +kernel
theorem dX0_drawVectors_114 : decode cX0_drawVectors 114 = .ok (.invokevirtual 334, 3) := by decide +kernel
theorem dX0_drawVectors_117 : decode cX0_drawVectors 117 = .ok (.iadd, 1) := by decide +kernel
theorem dX0_drawVectors_118 : decode cX0_drawVectors 118 = .ok (.bipush 16, 2) := by decide +kernel
theorem dX0_drawVectors_120 : decode cX0_drawVectors 120 = .ok (.isub, 1) := by decide +kernel
theorem dX0_drawVectors_121 : decode cX0_drawVectors 121 = .ok (.invokestatic 286, 3) := by decide +kernel
theorem dX0_drawVectors_124 : decode cX0_drawVectors 124 = .ok (.istore 7, 2) := by decide +kernel
theorem dX0_drawVectors_126 : decode cX0_drawVectors 126 = .ok (.sipush (-2048), 3) := by decide +kernel
theorem dX0_drawVectors_129 : decode cX0_drawVectors 129 = .ok (.sipush 2047, 3) := by decide +kernel
theorem dX0_drawVectors_132 : decode cX0_drawVectors 132 = .ok (.aload_n 0, 1) := by decide +kernel
theorem dX0_drawVectors_133 : decode cX0_drawVectors 133 = .ok (.getfield 36, 3) := by decide +kernel
theorem dX0_drawVectors_136 : decode cX0_drawVectors 136 = .ok (.getfield 422, 3) := by decide +kernel
theorem dX0_drawVectors_139 : decode cX0_drawVectors 139 = .ok (.aload_n 0, 1) := by decide +kernel
theorem dX0_drawVectors_140 : decode cX0_drawVectors 140 = .ok (.bipush 33, 2) := by decide +kernel
theorem dX0_drawVectors_142 : decode cX0_drawVectors 142 = .ok (.invokevirtual 334, 3) := by decide +kernel
theorem dX0_drawVectors_145 : decode cX0_drawVectors 145 = .ok (.iadd, 1) := by decide +kernel
theorem dX0_drawVectors_146 : decode cX0_drawVectors 146 = .ok (.bipush 16, 2) := by decide +kernel
theorem dX0_drawVectors_148 : decode cX0_drawVectors 148 = .ok (.isub, 1) := by decide +kernel
theorem dX0_drawVectors_149 : decode cX0_drawVectors 149 = .ok (.invokestatic 286, 3) := by decide +kernel
theorem dX0_drawVectors_152 : decode cX0_drawVectors 152 = .ok (.istore 8, 2) := by decide +kernel
theorem dX0_drawVectors_154 : decode cX0_drawVectors 154 = .ok (.aload_n 0, 1) := by decide +kernel
theorem dX0_drawVectors_155 : decode cX0_drawVectors 155 = .ok (.iload_n 1, 1) := by decide +kernel
theorem dX0_drawVectors_156 : decode cX0_drawVectors 156 = .ok (.iload_n 2, 1) := by decide +kernel
theorem dX0_drawVectors_157 : decode cX0_drawVectors 157 = .ok (.iload 4, 2) := by decide +kernel
theorem dX0_drawVectors_159 : decode cX0_drawVectors 159 = .ok (.iload 7, 2) := by decide +kernel
theorem dX0_drawVectors_161 : decode cX0_drawVectors 161 = .ok (.iload 8, 2) := by decide +kernel
theorem dX0_drawVectors_163 : decode cX0_drawVectors 163 = .ok (.invokevirtual 425, 3) := by decide +kernel
theorem dX0_drawVectors_166 : decode cX0_drawVectors 166 = .ok (.iinc 4 1, 3) := by decide +kernel
theorem dX0_drawVectors_169 : decode cX0_drawVectors 169 = .ok (.goto (-158), 3) := by decide +kernel
theorem dX0_drawVectors_172 : decode cX0_drawVectors 172 = .ok (.return_, 1) := by decide +kernel
def FX0_drawVectors (G : GG) (M : DD) (a : Nat) (p0 : Int32) (p1 : Int32) : Option (DD) :=
  dr G 9 ((M.2 a 3)) fun b2 =>
  bnd (itr (fun (s4 : Int32 × DD) => ((dr G 9 ((s4.2.2 a 3)) fun b7 =>
  ltt (s4.2.1 b7 14) fun x8 =>
  if x8 ≤ s4.1 then (some (.inr (s4.1, s4.2))) else
  (ltt ((((5 : Int32)) * s4.1)) fun x10 =>
  ltt ((x10 + ((3 : Int32)))) fun x11 =>
  dr G 13 ((M.2 b2 13)) fun b12 =>
  chk (¬ (x11 < 0 ∨ G.2.2 b12 ≤ x11.toNatClampNeg)) <|
  ltt (s4.2.1 b12 x11.toNatClampNeg) fun x13 =>
  ltt ((x13 >>> (p1 &&& 31))) fun x14 =>
  ltt ((x14 &&& ((1 : Int32)))) fun x15 =>
  bnd (if x15 = ((0 : Int32)) then (some (s4.2)) else
  (dr G 4 ((s4.2.2 b7 0)) fun b19 =>
  ltt ((((16 : Int32)) * p0)) fun x20 =>
  chk (¬ (x10 < 0 ∨ G.2.2 b12 ≤ x10.toNatClampNeg)) <|
  ltt (s4.2.1 b12 x10.toNatClampNeg) fun x21 =>
  ltt ((x20 + x21)) fun x22 =>
  bnd (FX4_at G s4.2 p1 x22) fun y23 =>
  dr G 13 ((s4.2.2 b19 5)) fun b24 =>
  chk (¬ (y23.2 < 0 ∨ G.2.2 b24 ≤ y23.2.toNatClampNeg)) <|
  ltt (y23.1.1 b24 y23.2.toNatClampNeg) fun x25 =>
  chk (¬ (x10 < 0 ∨ G.2.2 b12 ≤ x10.toNatClampNeg)) <|
  ltt (y23.1.1 b12 x10.toNatClampNeg) fun x26 =>
  ltt ((x10 + ((1 : Int32)))) fun x27 =>
  chk (¬ (x27 < 0 ∨ G.2.2 b12 ≤ x27.toNatClampNeg)) <|
  ltt (y23.1.1 b12 x27.toNatClampNeg) fun x28 =>
  ltt ((x10 + ((4 : Int32)))) fun x29 =>
  chk (¬ (x29 < 0 ∨ G.2.2 b12 ≤ x29.toNatClampNeg)) <|
  ltt (y23.1.1 b12 x29.toNatClampNeg) fun x30 =>
  dr G 9 ((y23.1.2 a 3)) fun b31 =>
  bnd (FX9_guess G y23.1 b31 p0 p1 x25 x26 x28 x30) fun y32 =>
  dr G 9 ((y32.2 a 3)) fun b33 =>
  ltt (y32.1 b33 18) fun x34 =>
  bnd (FX0_draw G y32 a ((33 : Int32))) fun y35 =>
  ltt ((x34 + y35.2)) fun x36 =>
  ltt ((x36 - ((16 : Int32)))) fun x37 =>
  bnd (FX11_clamp G y35.1 ((-2048 : Int32)) ((2047 : Int32)) x37) fun y38 =>
  dr G 9 ((y38.1.2 a 3)) fun b39 =>
  ltt (y38.1.1 b39 19) fun x40 =>
  bnd (FX0_draw G y38.1 a ((33 : Int32))) fun y41 =>
  ltt ((x40 + y41.2)) fun x42 =>
  ltt ((x42 - ((16 : Int32)))) fun x43 =>
  bnd (FX11_clamp G y41.1 ((-2048 : Int32)) ((2047 : Int32)) x43) fun y44 =>
  bnd (FX0_setVector G y44.1 a p0 p1 s4.1 y38.2 y44.2) fun y45 =>
  some (y45))) fun (y16 : DD) =>
  ltt (s4.1 + (1 : Int32)) fun x17 =>
  some (.inl (x17, y16)))) : Option ((Int32 × DD) ⊕ (Int32 × DD)))) 1000000 ((0 : Int32), M)) fun (y3 : Int32 × DD) =>
  some y3.2
set_option maxHeartbeats 4000000 in
set_option maxRecDepth 100000 in
theorem kX0_drawVectors (l : Launch) (D : va_G) (ct : CT) (ad : Nat → Nat) (Z : Nat → Nat) (G : GG) (M : DD) (sz : Nat) (a : Nat) (p0 : Int32) (p1 : Int32) (y : DD) (hc : a < G.1) (hk : G.2.1 a = 0) (hF : FX0_drawVectors G M a p0 p1 = some y) : Met l yX0_drawVectors wsX0_drawVectors ({ frames := 3, cells := 0, slots := 0, locals := 77 }) (va_Pc [.ref (ad a), .int p0, .int p1] (kB D ct ad Z G M sz)) (va_Qv (fun (_ : Unit) => True) (fun _ t => kE D ct ad G (wA ad G sz) y t) (wA ad G sz)) 0 0 (wA ad G sz) := by
  refine Met.ofW (cc := cX0_drawVectors) (maxL := 9) (ret := none) (by decide) rfl ?_
  intro p e s m args below meth c s₁ B hml hv
  obtain ⟨rfl, hsz, hP, hK, hD0, hZ, hN⟩ := hv
  have hx := B.exec
  have hb := B.bytes
  have hr := B.returns
  have hts := atoms_spec (ws := wsX0_drawVectors) B.pre
  have hown : s.vm.findClass RX0 = some m.cls := findClass_of_methodNamed B.named
  have hlocks := B.notSynchronized
  subst hsz
  have hD := wD_self (sz := s.heap.size) hD0
  have hA9 : ∀ q, s.heap.size ≤ q → wA ad G s.heap.size q := fun q h => Or.inr h
  generalize hAe : wA ad G s.heap.size = A at hD hA9 hZ ⊢
  have hS : va_S A s.heap s.heap [] := va_S.rf
  have hl := lv_entry ([.ref (ad a), .int p0, .int p1]) (n := 9) (Nat.le_of_ble_eq_true rfl)
  rw [lg_entry_eq]
  generalize (lg_sl ([.ref (ad a), .int p0, .int p1]) ++ List.replicate (9 - (lg_sl ([.ref (ad a), .int p0, .int p1])).length) Slot.unset).toArray = ls at hl ⊢
  have hl : lv_has ls 9 [(0, .ref (ad a)), (1, .int p0), (2, .int p1)] := hl
  unfold FX0_drawVectors at hF
  refine lv_aload_n hx hb dX0_drawVectors_0 rfl (lv_at hl 0 rfl) ?_
  refine va_get (D := D) (ci := 0) (v := va_re ad (M.2 a 3)) (C := RX0) (T := TX0) (N := 21) hx hb hts (by decide +kernel) hown hK hP a (wld_o ct ad G M hc hk (by decide)) rfl 3 (by decide) (hts (.fieldLink RX0 36 "VideoSuite$Coder" "work" "LVideoSuite$Work;") (by decide +kernel)) (fun _ h9 => h9) rfl dX0_drawVectors_1 ?_
  obtain ⟨b2, ho2, hc2, hk2, hF⟩ := dr_some hF
  refine W_st (st' := [.ref (ad b2)]) (by rw [va_some ho2]) ?_
  refine va_get (D := D) (ci := 9) (v := va_re ad (M.2 b2 13)) (C := RX9) (T := TX9) (N := 20) hx hb hts (by decide +kernel) hown hK hP b2 (wld_o ct ad G M hc2 hk2 (by decide)) rfl 13 (by decide) (hts (.fieldLink RX0 403 "VideoSuite$Work" "part" "[I") (by decide +kernel)) (fun _ h9 => h9) rfl dX0_drawVectors_4 ?_
  refine lv_astoreq_n (lv' := [(3, va_re ad (M.2 b2 13)), (0, .ref (ad a)), (1, .int p0), (2, .int p1)]) hx hb dX0_drawVectors_7 rfl hl (by decide) rfl (fun ls hl => ?_)
  refine lv_iconst (v := (0 : Int32)) hx hb dX0_drawVectors_8 (by decide) ?_
  refine lv_istore (lv' := [(4, .int (0 : Int32)), (3, va_re ad (M.2 b2 13)), (0, .ref (ad a)), (1, .int p0), (2, .int p1)]) hx hb dX0_drawVectors_9 hl (by decide) (by generalize ((M.2 b2 13)) = o9; cases o9 <;> rfl) (fun ls hl => ?_)
  obtain ⟨y3, hy3, hF⟩ := bnd_some hF
  have K3 : ∀ (H : Heap) (locs : List Loc) (ls : Array Slot), va_P D classes (wld ct ad G y3.2) H → va_D A (wld ct ad G y3.2) → va_S A s.heap H locs → lv_has ls 9 [(4, .int y3.1), (3, va_re ad (M.2 b2 13)), (0, .ref (ad a)), (1, .int p0), (2, .int p1)] → W p l e (headSpec wsX0_drawVectors ({ frames := 3, cells := 0, slots := 0, locals := 77 })).room s m ([.ref (ad a), .int p0, .int p1] : List Value).toArray below meth c H locs 0 0 (MQ below (va_Qv (fun (_ : Unit) => True) (fun _ t => kE D ct ad G A y t) A) ([.ref (ad a), .int p0, .int p1] : List Value).toArray s 0 0 A) (F0 m 172 ls []) := by
    intro H locs ls hP hD hS hl
    obtain rfl := Option.some.inj hF
    exact W.vret hx hb hr (fun t ht hW => ⟨⟨(), rfl, trivial, ⟨by rw [ht]; exact hP, va_K.moved hW.alike hK, hD⟩⟩, hS.F ht⟩) hS.2.2 dX0_drawVectors_172
  clear hF
  refine itr_rule (fun (s4 : Int32 × DD) => ∀ (H : Heap) (locs : List Loc) (ls : Array Slot), va_P D classes (wld ct ad G s4.2) H → va_D A (wld ct ad G s4.2) → va_S A s.heap H locs → lv_has ls 9 [(4, .int s4.1), (3, va_re ad (M.2 b2 13)), (0, .ref (ad a)), (1, .int p0), (2, .int p1)] → W p l e (headSpec wsX0_drawVectors ({ frames := 3, cells := 0, slots := 0, locals := 77 })).room s m ([.ref (ad a), .int p0, .int p1] : List Value).toArray below meth c H locs 0 0 (MQ below (va_Qv (fun (_ : Unit) => True) (fun _ t => kE D ct ad G A y t) A) ([.ref (ad a), .int p0, .int p1] : List Value).toArray s 0 0 A) (F0 m 11 ls [])) ?_ _ _ hy3 _ _ _ hP hD hS (lv_sub hl [0, 1, 2, 3, 4] rfl)
  rintro s4 ⟨z6, hF, hwz6⟩ H locs ls hP hD hS hl
  try dsimp only at hF
  refine lv_iload hx hb dX0_drawVectors_11 (lv_at hl 0 rfl) ?_
  refine lv_aload_n hx hb dX0_drawVectors_13 rfl (lv_at hl 2 rfl) ?_
  refine va_get (D := D) (ci := 0) (v := va_re ad (s4.2.2 a 3)) (C := RX0) (T := TX0) (N := 21) hx hb hts (by decide +kernel) hown hK hP a (wld_o ct ad G s4.2 hc hk (by decide)) rfl 3 (by decide) (hts (.fieldLink RX0 36 "VideoSuite$Coder" "work" "LVideoSuite$Work;") (by decide +kernel)) (fun _ h9 => h9) rfl dX0_drawVectors_14 ?_
  obtain ⟨b7, ho7, hc7, hk7, hF⟩ := dr_some hF
  refine W_st (st' := [.ref (ad b7), .int s4.1]) (by rw [va_some ho7]) ?_
  refine va_get (D := D) (ci := 9) (v := .int (s4.2.1 b7 14)) (C := RX9) (T := TX9) (N := 20) hx hb hts (by decide +kernel) hown hK hP b7 (wld_o ct ad G s4.2 hc7 hk7 (by decide)) rfl 14 (by decide) (hts (.fieldLink RX0 406 "VideoSuite$Work" "parts" "I") (by decide +kernel)) (fun _ h9 => h9) rfl dX0_drawVectors_17 ?_
  obtain ⟨x8, ex8, hF⟩ := ltt_some hF
  refine lv_topi (fun zx8 ezx8 => ?_)
  obtain rfl : x8 = zx8 := ex8.trans ezx8.symm
  refine lv_icmp_ge (tgt := 172) hx hb dX0_drawVectors_20 (by decide) (fun c9 => ?_) (fun c9 => ?_)
  · rw [if_pos c9] at hF
    obtain rfl := Option.some.inj hF
    subst hwz6
    exact K3 _ _ _ hP hD hS (lv_sub hl [0, 1, 2, 3, 4] rfl)
  · rw [if_neg c9] at hF
    refine lv_iconst (v := (5 : Int32)) hx hb dX0_drawVectors_23 (by decide) ?_
    refine lv_iload hx hb dX0_drawVectors_24 (lv_at hl 0 rfl) ?_
    refine lv_imul hx hb dX0_drawVectors_26 ?_
    obtain ⟨x10, ex10, hF⟩ := ltt_some hF
    refine lv_topi (fun zx10 ezx10 => ?_)
    obtain rfl : x10 = zx10 := ex10.trans ezx10.symm
    refine lv_istore (lv' := [(5, .int x10), (4, .int s4.1), (3, va_re ad (M.2 b2 13)), (0, .ref (ad a)), (1, .int p0), (2, .int p1)]) hx hb dX0_drawVectors_27 hl (by decide) rfl (fun ls hl => ?_)
    refine lv_aloadq_n hx hb dX0_drawVectors_29 rfl (lv_at hl 2 rfl) ?_
    refine lv_iload hx hb dX0_drawVectors_30 (lv_at hl 0 rfl) ?_
    refine lv_iconst (v := (3 : Int32)) hx hb dX0_drawVectors_32 (by decide) ?_
    refine lv_iadd hx hb dX0_drawVectors_33 ?_
    obtain ⟨x11, ex11, hF⟩ := ltt_some hF
    refine lv_topi (fun zx11 ezx11 => ?_)
    obtain rfl : x11 = zx11 := ex11.trans ezx11.symm
    obtain ⟨b12, ho12, hc12, hk12, hF⟩ := dr_some hF
    refine W_st (st' := [.int x11, .ref (ad b12)]) (by rw [va_some ho12]) ?_
    obtain ⟨hvc, hF⟩ := chk_some hF
    refine va_iald hx hb hK hP b12 1 (wld_i ct ad G s4.2 hc12 hk12) rfl hvc dX0_drawVectors_34 ?_
    obtain ⟨x13, ex13, hF⟩ := ltt_some hF
    refine lv_topi (fun zx13 ezx13 => ?_)
    obtain rfl : x13 = zx13 := ex13.trans ezx13.symm
    refine lv_iload_n hx hb dX0_drawVectors_35 rfl (lv_at hl 5 rfl) ?_
    refine lv_ishr hx hb dX0_drawVectors_36 ?_
    obtain ⟨x14, ex14, hF⟩ := ltt_some hF
    refine lv_topi (fun zx14 ezx14 => ?_)
    obtain rfl : x14 = zx14 := ex14.trans ezx14.symm
    refine lv_iconst (v := (1 : Int32)) hx hb dX0_drawVectors_37 (by decide) ?_
    refine lv_iand hx hb dX0_drawVectors_38 ?_
    obtain ⟨x15, ex15, hF⟩ := ltt_some hF
    refine lv_topi (fun zx15 ezx15 => ?_)
    obtain rfl : x15 = zx15 := ex15.trans ezx15.symm
    obtain ⟨y16, hy16, hF⟩ := bnd_some hF
    have J16 : ∀ (H : Heap) (locs : List Loc) (ls : Array Slot), va_P D classes (wld ct ad G y16) H → va_D A (wld ct ad G y16) → va_S A s.heap H locs → lv_has ls 9 [(5, .int x10), (4, .int s4.1), (3, va_re ad (M.2 b2 13)), (0, .ref (ad a)), (1, .int p0), (2, .int p1)] → W p l e (headSpec wsX0_drawVectors ({ frames := 3, cells := 0, slots := 0, locals := 77 })).room s m ([.ref (ad a), .int p0, .int p1] : List Value).toArray below meth c H locs 0 0 (MQ below (va_Qv (fun (_ : Unit) => True) (fun _ t => kE D ct ad G A y t) A) ([.ref (ad a), .int p0, .int p1] : List Value).toArray s 0 0 A) (F0 m 166 ls []) := by
      intro H locs ls hP hD hS hl
      obtain ⟨x17, ex17, hF⟩ := ltt_some hF
      refine lv_iinc (v := x17) (lv' := [(4, .int x17), (5, .int x10), (3, va_re ad (M.2 b2 13)), (0, .ref (ad a)), (1, .int p0), (2, .int p1)]) hx hb dX0_drawVectors_166 hl (k := 1) rfl (by rw [ex17]; rfl) (by decide) (by generalize ((M.2 b2 13)) = o9; cases o9 <;> rfl) (fun ls hl => ?_)
      refine lv_goto (tgt := 11) hx hb dX0_drawVectors_169 (by decide) ?_
      obtain rfl := Option.some.inj hF
      exact hwz6 _ _ _ hP hD hS (lv_sub hl [0, 2, 3, 4, 5] rfl)
    clear hF
    have hF := hy16
    clear hy16
    refine lv_if_ne (tgt := 45) hx hb dX0_drawVectors_39 (by decide) (fun c18 => ?_) (fun c18 => ?_)
    · rw [if_neg c18] at hF
      refine lv_aload_n hx hb dX0_drawVectors_45 rfl (lv_at hl 3 rfl) ?_
      refine va_get (D := D) (ci := 0) (v := va_re ad (s4.2.2 a 3)) (C := RX0) (T := TX0) (N := 21) hx hb hts (by decide +kernel) hown hK hP a (wld_o ct ad G s4.2 hc hk (by decide)) rfl 3 (by decide) (hts (.fieldLink RX0 36 "VideoSuite$Coder" "work" "LVideoSuite$Work;") (by decide +kernel)) (fun _ h9 => h9) rfl dX0_drawVectors_46 ?_
      refine W_st (st' := [.ref (ad b7)]) (by rw [va_some ho7]) ?_
      refine va_get (D := D) (ci := 9) (v := va_re ad (s4.2.2 b7 0)) (C := RX9) (T := TX9) (N := 20) hx hb hts (by decide +kernel) hown hK hP b7 (wld_o ct ad G s4.2 hc7 hk7 (by decide)) rfl 0 (by decide) (hts (.fieldLink RX0 266 "VideoSuite$Work" "pic" "LVideoSuite$Picture;") (by decide +kernel)) (fun _ h9 => h9) rfl dX0_drawVectors_49 ?_
      obtain ⟨b19, ho19, hc19, hk19, hF⟩ := dr_some hF
      refine W_st (st' := [.ref (ad b19)]) (by rw [va_some ho19]) ?_
      refine va_get (D := D) (ci := 4) (v := va_re ad (s4.2.2 b19 5)) (C := RX4) (T := TX4) (N := 18) hx hb hts (by decide +kernel) hown hK hP b19 (wld_o ct ad G s4.2 hc19 hk19 (by decide)) rfl 5 (by decide) (hts (.fieldLink RX0 409 "VideoSuite$Picture" "reference" "[I") (by decide +kernel)) (fun _ h9 => h9) rfl dX0_drawVectors_52 ?_
      refine lv_iload_n hx hb dX0_drawVectors_55 rfl (lv_at hl 5 rfl) ?_
      refine lv_bipush (v := (16 : Int32)) hx hb dX0_drawVectors_56 (by decide) ?_
      refine lv_iload_n hx hb dX0_drawVectors_58 rfl (lv_at hl 4 rfl) ?_
      refine lv_imul hx hb dX0_drawVectors_59 ?_
      obtain ⟨x20, ex20, hF⟩ := ltt_some hF
      refine lv_topi (fun zx20 ezx20 => ?_)
      obtain rfl : x20 = zx20 := ex20.trans ezx20.symm
      refine lv_aloadq_n hx hb dX0_drawVectors_60 rfl (lv_at hl 2 rfl) ?_
      refine lv_iload hx hb dX0_drawVectors_61 (lv_at hl 0 rfl) ?_
      refine W_st (st' := [.int x10, .ref (ad b12), .int x20, .int p1, va_re ad (s4.2.2 b19 5)]) (by rw [va_some ho12]) ?_
      obtain ⟨hvc, hF⟩ := chk_some hF
      refine va_iald hx hb hK hP b12 1 (wld_i ct ad G s4.2 hc12 hk12) rfl hvc dX0_drawVectors_63 ?_
      obtain ⟨x21, ex21, hF⟩ := ltt_some hF
      refine lv_topi (fun zx21 ezx21 => ?_)
      obtain rfl : x21 = zx21 := ex21.trans ezx21.symm
      refine lv_iadd hx hb dX0_drawVectors_64 ?_
      obtain ⟨x22, ex22, hF⟩ := ltt_some hF
      refine lv_topi (fun zx22 ezx22 => ?_)
      obtain rfl : x22 = zx22 := ex22.trans ezx22.symm
      obtain ⟨y23, hy23, hF⟩ := bnd_some hF
      have hf9 := wA_in hD hA9 hS
      refine va_calli (va_runS (As := [.int p1, .int x22]) (rest := [va_re ad (s4.2.2 b19 5)]) ⟨hx, hb, hml, hown, hts⟩ (kX4_at l D ct ad Z G s4.2 H.size p1 x22 y23 hy23) (va_cwS 2 hts gX0_drawVectors_X4_at rfl rfl rfl (by decide +kernel) ⟨Nat.le_of_ble_eq_true rfl, Nat.le_of_ble_eq_true rfl⟩) ⟨fun a U g mk q => by obtain ⟨q0, q1, qP, qK, qD, qZ, qN⟩ := q; exact ⟨q0, q1, qP, va_K.moved (u := U) (U := U.calling g mk a) (Vm.Alike.refl U.vm) qK, qD, sF.moved (u := U) (U := U.calling g mk a) (Vm.Alike.refl U.vm) qZ, nF.same rfl qN⟩, fun U hU hW => ⟨rfl, by rw [hU], by rw [hU]; exact hP, va_K.moved hW.alike hK, hD.weaken (fun _ _ _ _ => trivial), by rw [hU]; exact ((hZ.kept hS.2.1).narrow hf9).moved hW.alike, hN.warm hW⟩⟩ rfl rfl hl.1 rfl (lv_room (by simp only [List.map, va_re_cat]; exact Nat.le_of_ble_eq_true rfl)) dX0_drawVectors_65 ⟨(Nat.zero_le _), (Nat.zero_le _)⟩) hS (fun q _ h => hf9 q h) hf9 (fun r u t H locs ht hvm hw hB hz1 hk1 hS => ?_)
      obtain ⟨hP, hK9, hD9⟩ := hB
      rw [ht] at hP
      try dsimp only at hw
      subst hw
      have hD := hD9.weaken (fun _ q _ h => hf9 q.1 h)
      obtain ⟨b24, ho24, hc24, hk24, hF⟩ := dr_some hF
      refine W_st (st' := [.int y23.2, .ref (ad b24)]) (by rw [va_some ho24]) ?_
      obtain ⟨hvc, hF⟩ := chk_some hF
      refine va_iald hx hb hK hP b24 1 (wld_i ct ad G y23.1 hc24 hk24) rfl hvc dX0_drawVectors_68 ?_
      obtain ⟨x25, ex25, hF⟩ := ltt_some hF
      refine lv_topi (fun zx25 ezx25 => ?_)
      obtain rfl : x25 = zx25 := ex25.trans ezx25.symm
      refine lv_istore (lv' := [(6, .int x25), (5, .int x10), (4, .int s4.1), (3, va_re ad (M.2 b2 13)), (0, .ref (ad a)), (1, .int p0), (2, .int p1)]) hx hb dX0_drawVectors_69 hl (by decide) rfl (fun ls hl => ?_)
      refine lv_aload_n hx hb dX0_drawVectors_71 rfl (lv_at hl 4 rfl) ?_
      refine va_get (D := D) (ci := 0) (v := va_re ad (y23.1.2 a 3)) (C := RX0) (T := TX0) (N := 21) hx hb hts (by decide +kernel) hown hK hP a (wld_o ct ad G y23.1 hc hk (by decide)) rfl 3 (by decide) (hts (.fieldLink RX0 36 "VideoSuite$Coder" "work" "LVideoSuite$Work;") (by decide +kernel)) (fun _ h9 => h9) rfl dX0_drawVectors_72 ?_
      refine lv_iload_n hx hb dX0_drawVectors_75 rfl (lv_at hl 5 rfl) ?_
      refine lv_iload_n hx hb dX0_drawVectors_76 rfl (lv_at hl 6 rfl) ?_
      refine lv_iload hx hb dX0_drawVectors_77 (lv_at hl 0 rfl) ?_
      refine lv_aloadq_n hx hb dX0_drawVectors_79 rfl (lv_at hl 3 rfl) ?_
      refine lv_iload hx hb dX0_drawVectors_80 (lv_at hl 1 rfl) ?_
      refine W_st (st' := [.int x10, .ref (ad b12), .int x25, .int p1, .int p0, va_re ad (y23.1.2 a 3)]) (by rw [va_some ho12]) ?_
      obtain ⟨hvc, hF⟩ := chk_some hF
      refine va_iald hx hb hK hP b12 1 (wld_i ct ad G y23.1 hc12 hk12) rfl hvc dX0_drawVectors_82 ?_
      obtain ⟨x26, ex26, hF⟩ := ltt_some hF
      refine lv_topi (fun zx26 ezx26 => ?_)
      obtain rfl : x26 = zx26 := ex26.trans ezx26.symm
      refine lv_aloadq_n hx hb dX0_drawVectors_83 rfl (lv_at hl 3 rfl) ?_
      refine lv_iload hx hb dX0_drawVectors_84 (lv_at hl 1 rfl) ?_
      refine lv_iconst (v := (1 : Int32)) hx hb dX0_drawVectors_86 (by decide) ?_
      refine lv_iadd hx hb dX0_drawVectors_87 ?_
      obtain ⟨x27, ex27, hF⟩ := ltt_some hF
      refine lv_topi (fun zx27 ezx27 => ?_)
      obtain rfl : x27 = zx27 := ex27.trans ezx27.symm
      refine W_st (st' := [.int x27, .ref (ad b12), .int x26, .int x25, .int p1, .int p0, va_re ad (y23.1.2 a 3)]) (by rw [va_some ho12]) ?_
      obtain ⟨hvc, hF⟩ := chk_some hF
      refine va_iald hx hb hK hP b12 1 (wld_i ct ad G y23.1 hc12 hk12) rfl hvc dX0_drawVectors_88 ?_
      obtain ⟨x28, ex28, hF⟩ := ltt_some hF
      refine lv_topi (fun zx28 ezx28 => ?_)
      obtain rfl : x28 = zx28 := ex28.trans ezx28.symm
      refine lv_aloadq_n hx hb dX0_drawVectors_89 rfl (lv_at hl 3 rfl) ?_
      refine lv_iload hx hb dX0_drawVectors_90 (lv_at hl 1 rfl) ?_
      refine lv_iconst (v := (4 : Int32)) hx hb dX0_drawVectors_92 (by decide) ?_
      refine lv_iadd hx hb dX0_drawVectors_93 ?_
      obtain ⟨x29, ex29, hF⟩ := ltt_some hF
      refine lv_topi (fun zx29 ezx29 => ?_)
      obtain rfl : x29 = zx29 := ex29.trans ezx29.symm
      refine W_st (st' := [.int x29, .ref (ad b12), .int x28, .int x26, .int x25, .int p1, .int p0, va_re ad (y23.1.2 a 3)]) (by rw [va_some ho12]) ?_
      obtain ⟨hvc, hF⟩ := chk_some hF
      refine va_iald hx hb hK hP b12 1 (wld_i ct ad G y23.1 hc12 hk12) rfl hvc dX0_drawVectors_94 ?_
      obtain ⟨x30, ex30, hF⟩ := ltt_some hF
      refine lv_topi (fun zx30 ezx30 => ?_)
      obtain rfl : x30 = zx30 := ex30.trans ezx30.symm
      obtain ⟨b31, ho31, hc31, hk31, hF⟩ := dr_some hF
      refine W_st (st' := [.int x30, .int x28, .int x26, .int x25, .int p1, .int p0, .ref (ad b31)]) (by rw [va_some ho31]) ?_
      obtain ⟨y32, hy32, hF⟩ := bnd_some hF
      have hf9 := wA_in hD hA9 hS
      refine va_callv (va_runV (As := [.int p0, .int p1, .int x25, .int x26, .int x28, .int x30]) (rest := []) ⟨hx, hb, hml, hown, hts⟩ (kX9_guess l D ct ad Z G y23.1 H.size b31 p0 p1 x25 x26 x28 x30 y32 hc31 hk31 hy32) (cwV 6 hts gX0_drawVectors_X9_guess rfl rfl rfl (by decide +kernel) ⟨Nat.le_of_ble_eq_true rfl, Nat.le_of_ble_eq_true rfl⟩) ⟨fun a U g mk q => by obtain ⟨q0, q1, qP, qK, qD, qZ, qN⟩ := q; exact ⟨q0, q1, qP, va_K.moved (u := U) (U := U.calling g mk a) (Vm.Alike.refl U.vm) qK, qD, sF.moved (u := U) (U := U.calling g mk a) (Vm.Alike.refl U.vm) qZ, nF.same rfl qN⟩, va_recv hK hP (ci := 9) (q0 := b31) rfl (wld_o ct ad G y23.1 hc31 hk31 (by decide)), fun U hU hW => ⟨rfl, by rw [hU], by rw [hU]; exact hP, va_K.moved hW.alike hK, hD.weaken (fun _ _ _ _ => trivial), by rw [hU]; exact ((hZ.kept hS.2.1).narrow hf9).moved hW.alike, hN.warm hW⟩⟩ rfl rfl hl.1 rfl (lv_room (Nat.le_of_ble_eq_true rfl)) dX0_drawVectors_95 ⟨(Nat.zero_le _), (Nat.zero_le _)⟩) hS (fun q _ h => hf9 q h) hf9 (fun u t H locs ht hvm hw hB hz1 hk1 hS => ?_)
      obtain ⟨hP, hK9, hD9⟩ := hB
      rw [ht] at hP
      have hD := hD9.weaken (fun _ q _ h => hf9 q.1 h)
      refine lv_sipush (v := (-2048 : Int32)) hx hb dX0_drawVectors_98 (by decide) ?_
      refine lv_sipush (v := (2047 : Int32)) hx hb dX0_drawVectors_101 (by decide) ?_
      refine lv_aload_n hx hb dX0_drawVectors_104 rfl (lv_at hl 4 rfl) ?_
      refine va_get (D := D) (ci := 0) (v := va_re ad (y32.2 a 3)) (C := RX0) (T := TX0) (N := 21) hx hb hts (by decide +kernel) hown hK hP a (wld_o ct ad G y32 hc hk (by decide)) rfl 3 (by decide) (hts (.fieldLink RX0 36 "VideoSuite$Coder" "work" "LVideoSuite$Work;") (by decide +kernel)) (fun _ h9 => h9) rfl dX0_drawVectors_105 ?_
      obtain ⟨b33, ho33, hc33, hk33, hF⟩ := dr_some hF
      refine W_st (st' := [.ref (ad b33), .int (2047 : Int32), .int (-2048 : Int32)]) (by rw [va_some ho33]) ?_
      refine va_get (D := D) (ci := 9) (v := .int (y32.1 b33 18)) (C := RX9) (T := TX9) (N := 20) hx hb hts (by decide +kernel) hown hK hP b33 (wld_o ct ad G y32 hc33 hk33 (by decide)) rfl 18 (by decide) (hts (.fieldLink RX0 419 "VideoSuite$Work" "guessX" "I") (by decide +kernel)) (fun _ h9 => h9) rfl dX0_drawVectors_108 ?_
      obtain ⟨x34, ex34, hF⟩ := ltt_some hF
      refine lv_topi (fun zx34 ezx34 => ?_)
      obtain rfl : x34 = zx34 := ex34.trans ezx34.symm
      refine lv_aload_n hx hb dX0_drawVectors_111 rfl (lv_at hl 4 rfl) ?_
      refine lv_bipush (v := (33 : Int32)) hx hb dX0_drawVectors_112 (by decide) ?_
      obtain ⟨y35, hy35, hF⟩ := bnd_some hF
      have hf9 := wA_in hD hA9 hS
      refine va_calli (va_runV (As := [.int (33 : Int32)]) (rest := [.int x34, .int (2047 : Int32), .int (-2048 : Int32)]) ⟨hx, hb, hml, hown, hts⟩ (kX0_draw l D ct ad Z G y32 H.size a ((33 : Int32)) y35 hc hk hy35) (cwV 1 hts gX0_drawVectors_X0_draw rfl rfl rfl (by decide +kernel) ⟨Nat.le_of_ble_eq_true rfl, Nat.le_of_ble_eq_true rfl⟩) ⟨fun a U g mk q => by obtain ⟨q0, q1, qP, qK, qD, qZ, qN⟩ := q; exact ⟨q0, q1, qP, va_K.moved (u := U) (U := U.calling g mk a) (Vm.Alike.refl U.vm) qK, qD, sF.moved (u := U) (U := U.calling g mk a) (Vm.Alike.refl U.vm) qZ, nF.same rfl qN⟩, va_recv hK hP (ci := 0) (q0 := a) rfl (wld_o ct ad G y32 hc hk (by decide)), fun U hU hW => ⟨rfl, by rw [hU], by rw [hU]; exact hP, va_K.moved hW.alike hK, hD.weaken (fun _ _ _ _ => trivial), by rw [hU]; exact ((hZ.kept hS.2.1).narrow hf9).moved hW.alike, hN.warm hW⟩⟩ rfl rfl hl.1 rfl (lv_room (Nat.le_of_ble_eq_true rfl)) dX0_drawVectors_114 ⟨(Nat.zero_le _), (Nat.zero_le _)⟩) hS (fun q _ h => hf9 q h) hf9 (fun r u t H locs ht hvm hw hB hz1 hk1 hS => ?_)
      obtain ⟨hP, hK9, hD9⟩ := hB
      rw [ht] at hP
      try dsimp only at hw
      subst hw
      have hD := hD9.weaken (fun _ q _ h => hf9 q.1 h)
      refine lv_iadd hx hb dX0_drawVectors_117 ?_
      obtain ⟨x36, ex36, hF⟩ := ltt_some hF
      refine lv_topi (fun zx36 ezx36 => ?_)
      obtain rfl : x36 = zx36 := ex36.trans ezx36.symm
      refine lv_bipush (v := (16 : Int32)) hx hb dX0_drawVectors_118 (by decide) ?_
      refine lv_isub hx hb dX0_drawVectors_120 ?_
      obtain ⟨x37, ex37, hF⟩ := ltt_some hF
      refine lv_topi (fun zx37 ezx37 => ?_)
      obtain rfl : x37 = zx37 := ex37.trans ezx37.symm
      obtain ⟨y38, hy38, hF⟩ := bnd_some hF
      have hf9 := wA_in hD hA9 hS
      refine va_calli (va_runSN (As := [.int (-2048 : Int32), .int (2047 : Int32), .int x37]) (rest := []) ⟨hx, hb, hml, hown, hts⟩ (kX11_clamp l D ct ad Z G y35.1 H.size ((-2048 : Int32)) ((2047 : Int32)) x37 y38 hy38) ⟨va_cnB 3 hts gX0_drawVectors_X11_clamp_n286 rfl rfl rfl (hN.1 (RX0, 286, yX11_clamp, RX11) (List.mem_of_getElem? (i := 5) rfl)) (hts (.initialized RX11) (by decide +kernel)) (by decide +kernel) ⟨Nat.le_of_ble_eq_true rfl, Nat.le_of_ble_eq_true rfl⟩, hts (.static yX11_clamp) (by decide +kernel), trivial⟩ ⟨fun a U g mk q => by obtain ⟨q0, q1, qP, qK, qD, qZ, qN⟩ := q; exact ⟨q0, q1, qP, va_K.moved (u := U) (U := U.calling g mk a) (Vm.Alike.refl U.vm) qK, qD, sF.moved (u := U) (U := U.calling g mk a) (Vm.Alike.refl U.vm) qZ, nF.same rfl qN⟩, fun U hU hW => ⟨rfl, by rw [hU], by rw [hU]; exact hP, va_K.moved hW.alike hK, hD.weaken (fun _ _ _ _ => trivial), by rw [hU]; exact ((hZ.kept hS.2.1).narrow hf9).moved hW.alike, hN.warm hW⟩⟩ rfl rfl hl.1 rfl (lv_room (Nat.le_of_ble_eq_true rfl)) dX0_drawVectors_121 ⟨(Nat.zero_le _), (Nat.zero_le _)⟩) hS (fun q _ h => hf9 q h) hf9 (fun r u t H locs ht hvm hw hB hz1 hk1 hS => ?_)
      obtain ⟨hP, hK9, hD9⟩ := hB
      rw [ht] at hP
      try dsimp only at hw
      subst hw
      have hD := hD9.weaken (fun _ q _ h => hf9 q.1 h)
      refine lv_istore (lv' := [(7, .int y38.2), (6, .int x25), (5, .int x10), (4, .int s4.1), (3, va_re ad (M.2 b2 13)), (0, .ref (ad a)), (1, .int p0), (2, .int p1)]) hx hb dX0_drawVectors_124 hl (by decide) rfl (fun ls hl => ?_)
      refine lv_sipush (v := (-2048 : Int32)) hx hb dX0_drawVectors_126 (by decide) ?_
      refine lv_sipush (v := (2047 : Int32)) hx hb dX0_drawVectors_129 (by decide) ?_
      refine lv_aload_n hx hb dX0_drawVectors_132 rfl (lv_at hl 5 rfl) ?_
      refine va_get (D := D) (ci := 0) (v := va_re ad (y38.1.2 a 3)) (C := RX0) (T := TX0) (N := 21) hx hb hts (by decide +kernel) hown hK hP a (wld_o ct ad G y38.1 hc hk (by decide)) rfl 3 (by decide) (hts (.fieldLink RX0 36 "VideoSuite$Coder" "work" "LVideoSuite$Work;") (by decide +kernel)) (fun _ h9 => h9) rfl dX0_drawVectors_133 ?_
      obtain ⟨b39, ho39, hc39, hk39, hF⟩ := dr_some hF
      refine W_st (st' := [.ref (ad b39), .int (2047 : Int32), .int (-2048 : Int32)]) (by rw [va_some ho39]) ?_
      refine va_get (D := D) (ci := 9) (v := .int (y38.1.1 b39 19)) (C := RX9) (T := TX9) (N := 20) hx hb hts (by decide +kernel) hown hK hP b39 (wld_o ct ad G y38.1 hc39 hk39 (by decide)) rfl 19 (by decide) (hts (.fieldLink RX0 422 "VideoSuite$Work" "guessY" "I") (by decide +kernel)) (fun _ h9 => h9) rfl dX0_drawVectors_136 ?_
      obtain ⟨x40, ex40, hF⟩ := ltt_some hF
      refine lv_topi (fun zx40 ezx40 => ?_)
      obtain rfl : x40 = zx40 := ex40.trans ezx40.symm
      refine lv_aload_n hx hb dX0_drawVectors_139 rfl (lv_at hl 5 rfl) ?_
      refine lv_bipush (v := (33 : Int32)) hx hb dX0_drawVectors_140 (by decide) ?_
      obtain ⟨y41, hy41, hF⟩ := bnd_some hF
      have hf9 := wA_in hD hA9 hS
      refine va_calli (va_runV (As := [.int (33 : Int32)]) (rest := [.int x40, .int (2047 : Int32), .int (-2048 : Int32)]) ⟨hx, hb, hml, hown, hts⟩ (kX0_draw l D ct ad Z G y38.1 H.size a ((33 : Int32)) y41 hc hk hy41) (cwV 1 hts gX0_drawVectors_X0_draw rfl rfl rfl (by decide +kernel) ⟨Nat.le_of_ble_eq_true rfl, Nat.le_of_ble_eq_true rfl⟩) ⟨fun a U g mk q => by obtain ⟨q0, q1, qP, qK, qD, qZ, qN⟩ := q; exact ⟨q0, q1, qP, va_K.moved (u := U) (U := U.calling g mk a) (Vm.Alike.refl U.vm) qK, qD, sF.moved (u := U) (U := U.calling g mk a) (Vm.Alike.refl U.vm) qZ, nF.same rfl qN⟩, va_recv hK hP (ci := 0) (q0 := a) rfl (wld_o ct ad G y38.1 hc hk (by decide)), fun U hU hW => ⟨rfl, by rw [hU], by rw [hU]; exact hP, va_K.moved hW.alike hK, hD.weaken (fun _ _ _ _ => trivial), by rw [hU]; exact ((hZ.kept hS.2.1).narrow hf9).moved hW.alike, hN.warm hW⟩⟩ rfl rfl hl.1 rfl (lv_room (Nat.le_of_ble_eq_true rfl)) dX0_drawVectors_142 ⟨(Nat.zero_le _), (Nat.zero_le _)⟩) hS (fun q _ h => hf9 q h) hf9 (fun r u t H locs ht hvm hw hB hz1 hk1 hS => ?_)
      obtain ⟨hP, hK9, hD9⟩ := hB
      rw [ht] at hP
      try dsimp only at hw
      subst hw
      have hD := hD9.weaken (fun _ q _ h => hf9 q.1 h)
      refine lv_iadd hx hb dX0_drawVectors_145 ?_
      obtain ⟨x42, ex42, hF⟩ := ltt_some hF
      refine lv_topi (fun zx42 ezx42 => ?_)
      obtain rfl : x42 = zx42 := ex42.trans ezx42.symm
      refine lv_bipush (v := (16 : Int32)) hx hb dX0_drawVectors_146 (by decide) ?_
      refine lv_isub hx hb dX0_drawVectors_148 ?_
      obtain ⟨x43, ex43, hF⟩ := ltt_some hF
      refine lv_topi (fun zx43 ezx43 => ?_)
      obtain rfl : x43 = zx43 := ex43.trans ezx43.symm
      obtain ⟨y44, hy44, hF⟩ := bnd_some hF
      have hf9 := wA_in hD hA9 hS
      refine va_calli (va_runSN (As := [.int (-2048 : Int32), .int (2047 : Int32), .int x43]) (rest := []) ⟨hx, hb, hml, hown, hts⟩ (kX11_clamp l D ct ad Z G y41.1 H.size ((-2048 : Int32)) ((2047 : Int32)) x43 y44 hy44) ⟨va_cnB 3 hts gX0_drawVectors_X11_clamp_n286 rfl rfl rfl (hN.1 (RX0, 286, yX11_clamp, RX11) (List.mem_of_getElem? (i := 5) rfl)) (hts (.initialized RX11) (by decide +kernel)) (by decide +kernel) ⟨Nat.le_of_ble_eq_true rfl, Nat.le_of_ble_eq_true rfl⟩, hts (.static yX11_clamp) (by decide +kernel), trivial⟩ ⟨fun a U g mk q => by obtain ⟨q0, q1, qP, qK, qD, qZ, qN⟩ := q; exact ⟨q0, q1, qP, va_K.moved (u := U) (U := U.calling g mk a) (Vm.Alike.refl U.vm) qK, qD, sF.moved (u := U) (U := U.calling g mk a) (Vm.Alike.refl U.vm) qZ, nF.same rfl qN⟩, fun U hU hW => ⟨rfl, by rw [hU], by rw [hU]; exact hP, va_K.moved hW.alike hK, hD.weaken (fun _ _ _ _ => trivial), by rw [hU]; exact ((hZ.kept hS.2.1).narrow hf9).moved hW.alike, hN.warm hW⟩⟩ rfl rfl hl.1 rfl (lv_room (Nat.le_of_ble_eq_true rfl)) dX0_drawVectors_149 ⟨(Nat.zero_le _), (Nat.zero_le _)⟩) hS (fun q _ h => hf9 q h) hf9 (fun r u t H locs ht hvm hw hB hz1 hk1 hS => ?_)
      obtain ⟨hP, hK9, hD9⟩ := hB
      rw [ht] at hP
      try dsimp only at hw
      subst hw
      have hD := hD9.weaken (fun _ q _ h => hf9 q.1 h)
      refine lv_istore (lv' := [(8, .int y44.2), (7, .int y38.2), (6, .int x25), (5, .int x10), (4, .int s4.1), (3, va_re ad (M.2 b2 13)), (0, .ref (ad a)), (1, .int p0), (2, .int p1)]) hx hb dX0_drawVectors_152 hl (by decide) rfl (fun ls hl => ?_)
      refine lv_aload_n hx hb dX0_drawVectors_154 rfl (lv_at hl 6 rfl) ?_
      refine lv_iload_n hx hb dX0_drawVectors_155 rfl (lv_at hl 7 rfl) ?_
      refine lv_iload_n hx hb dX0_drawVectors_156 rfl (lv_at hl 8 rfl) ?_
      refine lv_iload hx hb dX0_drawVectors_157 (lv_at hl 4 rfl) ?_
      refine lv_iload hx hb dX0_drawVectors_159 (lv_at hl 1 rfl) ?_
      refine lv_iload hx hb dX0_drawVectors_161 (lv_at hl 0 rfl) ?_
      obtain ⟨y45, hy45, hF⟩ := bnd_some hF
      have hf9 := wA_in hD hA9 hS
      refine va_callv (va_runV (As := [.int p0, .int p1, .int s4.1, .int y38.2, .int y44.2]) (rest := []) ⟨hx, hb, hml, hown, hts⟩ (kX0_setVector l D ct ad Z G y44.1 H.size a p0 p1 s4.1 y38.2 y44.2 y45 hc hk hy45) (cwV 5 hts gX0_drawVectors_X0_setVector rfl rfl rfl (by decide +kernel) ⟨Nat.le_of_ble_eq_true rfl, Nat.le_of_ble_eq_true rfl⟩) ⟨fun a U g mk q => by obtain ⟨q0, q1, qP, qK, qD, qZ, qN⟩ := q; exact ⟨q0, q1, qP, va_K.moved (u := U) (U := U.calling g mk a) (Vm.Alike.refl U.vm) qK, qD, sF.moved (u := U) (U := U.calling g mk a) (Vm.Alike.refl U.vm) qZ, nF.same rfl qN⟩, va_recv hK hP (ci := 0) (q0 := a) rfl (wld_o ct ad G y44.1 hc hk (by decide)), fun U hU hW => ⟨rfl, by rw [hU], by rw [hU]; exact hP, va_K.moved hW.alike hK, hD.weaken (fun _ _ _ _ => trivial), by rw [hU]; exact ((hZ.kept hS.2.1).narrow hf9).moved hW.alike, hN.warm hW⟩⟩ rfl rfl hl.1 rfl (lv_room (Nat.le_of_ble_eq_true rfl)) dX0_drawVectors_163 ⟨(Nat.zero_le _), (Nat.zero_le _)⟩) hS (fun q _ h => hf9 q h) hf9 (fun u t H locs ht hvm hw hB hz1 hk1 hS => ?_)
      obtain ⟨hP, hK9, hD9⟩ := hB
      rw [ht] at hP
      have hD := hD9.weaken (fun _ q _ h => hf9 q.1 h)
      obtain rfl := Option.some.inj hF
      exact J16 _ _ _ hP hD hS (lv_sub hl [3, 4, 5, 6, 7, 8] rfl)
    · rw [if_pos c18] at hF
      refine lv_goto (tgt := 166) hx hb dX0_drawVectors_42 (by decide) ?_
      obtain rfl := Option.some.inj hF
      exact J16 _ _ _ hP hD hS (lv_sub hl [0, 1, 2, 3, 4, 5] rfl)
