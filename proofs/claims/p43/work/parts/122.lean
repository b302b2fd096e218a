set_option maxRecDepth 20000 in
theorem gX0_beginSlice_X7_makeLists : GoodIn wuX0_beginSlice (wsV RX0 305 RX7 yX7_makeLists wuX7_makeLists) := gu_V mw_2454 mw_1809 mw_1810 mw_170 mw_1811
set_option maxRecDepth 20000 in
set_option maxRecDepth 20000 in
theorem gX0_beginSlice_X10_beginUnit : GoodIn wuX0_beginSlice (wsV RX0 154 RX10 yX10_beginUnit wuX10_beginUnit) := gu_V mw_1135 mw_1136 mw_1137 mw_176 mw_1138
theorem dX0_beginSlice_0 : decode cX0_beginSlice 0 = .ok (.aload_n 0, 1) := by decide +kernel
theorem dX0_beginSlice_1 : decode cX0_beginSlice 1 = .ok (.getfield 36, 3) := by decide +kernel
theorem dX0_beginSlice_4 : decode cX0_beginSlice 4 = .ok (.getfield 81, 3) := by decide +kernel
theorem dX0_beginSlice_7 : decode cX0_beginSlice 7 = .ok (.getfield 252, 3) := by decide +kernel
theorem dX0_beginSlice_10 : decode cX0_beginSlice 10 = .ok (.astore_n 2, 1) := by decide +kernel
theorem dX0_beginSlice_11 : decode cX0_beginSlice 11 = .ok (.aload_n 2, 1) := by decide +kernel
theorem dX0_beginSlice_12 : decode cX0_beginSlice 12 = .ok (.iconst 0, 1) := by decide +kernel
theorem dX0_beginSlice_13 : decode cX0_beginSlice 13 = .ok (.iload_n 1, 1) := by decide +kernel
theorem dX0_beginSlice_14 : decode cX0_beginSlice 14 = .ok (.iastore, 1) := by decide +kernel
theorem dX0_beginSlice_15 : decode cX0_beginSlice 15 = .ok (.aload_n 0, 1) := by decide +kernel
theorem dX0_beginSlice_16 : decode cX0_beginSlice 16 = .ok (.aload_n 2, 1) := by decide +kernel
theorem dX0_beginSlice_17 : decode cX0_beginSlice 17 = .ok (.bipush 12, 2) := by decide +kernel
theorem dX0_beginSlice_19 : decode cX0_beginSlice 19 = .ok (.iaload, 1) := by decide +kernel
theorem dX0_beginSlice_20 : decode cX0_beginSlice 20 = .ok (.putfield 299, 3) := by decide +kernel
theorem dX0_beginSlice_23 : decode cX0_beginSlice 23 = .ok (.aload_n 0, 1) := by decide +kernel
theorem dX0_beginSlice_24 : decode cX0_beginSlice 24 = .ok (.getfield 36, 3) := by decide +kernel
theorem dX0_beginSlice_27 : decode cX0_beginSlice 27 = .ok (.dup, 1) := by decide +kernel
theorem dX0_beginSlice_28 : decode cX0_beginSlice 28 = .ok (.getfield 302, 3) := by decide +kernel
theorem dX0_beginSlice_31 : decode cX0_beginSlice 31 = .ok (.iconst 1, 1) := by decide +kernel
theorem dX0_beginSlice_32 : decode cX0_beginSlice 32 = .ok (.iadd, 1) := by decide +kernel
theorem dX0_beginSlice_33 : decode cX0_beginSlice 33 = .ok (.putfield 302, 3) := by decide +kernel
theorem dX0_beginSlice_36 : decode cX0_beginSlice 36 = .ok (.aload_n 0, 1) := by decide +kernel
theorem dX0_beginSlice_37 : decode cX0_beginSlice 37 = .ok (.getfield 57, 3) := by decide +kernel
theorem dX0_beginSlice_40 : decode cX0_beginSlice 40 = .ok (.aload_n 0, 1) := by decide +kernel
theorem dX0_beginSlice_41 : decode cX0_beginSlice 41 = .ok (.getfield 36, 3) := by decide +kernel
theorem dX0_beginSlice_44 : decode cX0_beginSlice 44 = .ok (.sipush 256, 3) := by decide +kernel
theorem dX0_beginSlice_47 : decode cX0_beginSlice 47 = .ok (.invokevirtual 305, 3) := by decide +kernel
theorem dX0_beginSlice_50 : decode cX0_beginSlice 50 = .ok (.aload_n 0, 1) := by decide +kernel
theorem dX0_beginSlice_51 : decode cX0_beginSlice 51 = .ok (.getfield 29, 3) := by decide +kernel
theorem dX0_beginSlice_54 : decode cX0_beginSlice 54 = .ok (.aload_n 2, 1) := by decide +kernel
theorem dX0_beginSlice_55 : decode cX0_beginSlice 55 = .ok (.bipush 11, 2) := by decide +kernel
theorem dX0_beginSlice_57 : decode cX0_beginSlice 57 = .ok (.iaload, 1) := by decide +kernel
theorem dX0_beginSlice_58 : decode cX0_beginSlice 58 = .ok (.iconst 5, 1) := by decide +kernel
theorem dX0_beginSlice_59 : decode cX0_beginSlice 59 = .ok (.ishl, 1) := by decide +kernel
theorem dX0_beginSlice_60 : decode cX0_beginSlice 60 = .ok (.aload_n 2, 1) := by decide +kernel
theorem dX0_beginSlice_61 : decode cX0_beginSlice 61 = .ok (.bipush 18, 2) := by decide +kernel
theorem dX0_beginSlice_63 : decode cX0_beginSlice 63 = .ok (.iaload, 1) := by decide +kernel
theorem dX0_beginSlice_64 : decode cX0_beginSlice 64 = .ok (.ior, 1) := by decide +kernel
theorem dX0_beginSlice_65 : decode cX0_beginSlice 65 = .ok (.invokevirtual 154, 3) := by decide +kernel
theorem dX0_beginSlice_68 : decode cX0_beginSlice 68 = .ok (.aload_n 0, 1) := by decide +kernel
theorem dX0_beginSlice_69 : decode cX0_beginSlice 69 = .ok (.getfield 29, 3) := by decide +kernel
theorem dX0_beginSlice_72 : decode cX0_beginSlice 72 = .ok (.iconst 0, 1) := by decide +kernel
theorem dX0_beginSlice_73 : decode cX0_beginSlice 73 = .ok (.putfield 309, 3) := by decide +kernel
theorem dX0_beginSlice_76 : decode cX0_beginSlice 76 = .ok (.return_, 1) := by decide +kernel
def FX0_beginSlice (G : GG) (M : DD) (a : Nat) (p0 : Int32) : Option (DD) :=
  dr G 9 ((M.2 a 3)) fun b2 =>
  dr G 3 ((M.2 b2 1)) fun b3 =>
  dr G 13 ((M.2 b3 0)) fun b4 =>
  chk (¬ (((0 : Int32)) < 0 ∨ G.2.2 b4 ≤ ((0 : Int32)).toNatClampNeg)) <|
  ltt (uI M b4 ((0 : Int32)).toNatClampNeg p0) fun M5 =>
  chk (¬ (((12 : Int32)) < 0 ∨ G.2.2 b4 ≤ ((12 : Int32)).toNatClampNeg)) <|
  ltt (M5.1 b4 ((12 : Int32)).toNatClampNeg) fun x6 =>
  ltt (uI M5 a 19 x6) fun M7 =>
  dr G 9 ((M7.2 a 3)) fun b8 =>
  ltt (M7.1 b8 11) fun x9 =>
  ltt ((x9 + ((1 : Int32)))) fun x10 =>
  ltt (uI M7 b8 11 x10) fun M11 =>
  dr G 7 ((M11.2 a 6)) fun b12 =>
  bnd (FX7_makeLists G M11 b12 ((M11.2 a 3)) ((256 : Int32))) fun y13 =>
  chk (¬ (((11 : Int32)) < 0 ∨ G.2.2 b4 ≤ ((11 : Int32)).toNatClampNeg)) <|
  ltt (y13.1 b4 ((11 : Int32)).toNatClampNeg) fun x14 =>
  ltt ((x14 <<< (((5 : Int32)) &&& 31))) fun x15 =>
  chk (¬ (((18 : Int32)) < 0 ∨ G.2.2 b4 ≤ ((18 : Int32)).toNatClampNeg)) <|
  ltt (y13.1 b4 ((18 : Int32)).toNatClampNeg) fun x16 =>
  ltt ((x15 ||| x16)) fun x17 =>
  dr G 10 ((y13.2 a 2)) fun b18 =>
  bnd (FX10_beginUnit G y13 b18 x17) fun y19 =>
  dr G 10 ((y19.2 a 2)) fun b20 =>
  ltt (uI y19 b20 3 ((0 : Int32))) fun M21 =>
  some M21
set_option maxHeartbeats 4000000 in
set_option maxRecDepth 100000 in
theorem kX0_beginSlice (l : Launch) (D : va_G) (ct : CT) (ad : Nat → Nat) (Z : Nat → Nat) (G : GG) (M : DD) (sz : Nat) (a : Nat) (p0 : Int32) (y : DD) (hc : a < G.1) (hk : G.2.1 a = 0) (hF : FX0_beginSlice G M a p0 = some y) : Met l yX0_beginSlice wuX0_beginSlice ({ frames := 4, cells := 0, slots := 0, locals := 105 }) (va_Pc [.ref (ad a), .int p0] (kB D ct ad Z G M sz)) (va_Qv (fun (_ : Unit) => True) (fun _ t => kE D ct ad G (wA ad G sz) y t) (wA ad G sz)) 0 0 (wA ad G sz) := by
  refine Met.ofW (cc := cX0_beginSlice) (maxL := 3) (ret := none) (by decide) rfl ?_
  intro p e s m args below meth c s₁ B hml hv
  obtain ⟨rfl, hsz, hP, hK, hD0, hZ, hN⟩ := hv
  have hx := B.exec
  have hb := B.bytes
  have hr := B.returns
  have hts := atoms_spec (ws := wuX0_beginSlice) B.pre
  have hown : s.vm.findClass RX0 = some m.cls := findClass_of_methodNamed B.named
  have hlocks := B.notSynchronized
  subst hsz
  have hD := wD_self (sz := s.heap.size) hD0
  have hA9 : ∀ q, s.heap.size ≤ q → wA ad G s.heap.size q := fun q h => Or.inr h
  generalize hAe : wA ad G s.heap.size = A at hD hA9 hZ ⊢
  have hS : va_S A s.heap s.heap [] := va_S.rf
  have hl := lv_entry ([.ref (ad a), .int p0]) (n := 3) (Nat.le_of_ble_eq_true rfl)
  rw [lg_entry_eq]
  generalize (lg_sl ([.ref (ad a), .int p0]) ++ List.replicate (3 - (lg_sl ([.ref (ad a), .int p0])).length) Slot.unset).toArray = ls at hl ⊢
  have hl : lv_has ls 3 [(0, .ref (ad a)), (1, .int p0)] := hl
  unfold FX0_beginSlice at hF
  refine lv_aload_n hx hb dX0_beginSlice_0 rfl (lv_at hl 0 rfl) ?_
  refine va_get (D := D) (ci := 0) (v := va_re ad (M.2 a 3)) (C := RX0) (T := TX0) (N := 21) hx hb hts (mus hf_X0) hown hK hP a (wld_o ct ad G M hc hk (by decide)) rfl 3 (by decide) (hts (.fieldLink RX0 36 "VideoSuite$Coder" "work" "LVideoSuite$Work;") (mu mw_817)) (fun _ h9 => h9) rfl dX0_beginSlice_1 ?_
  obtain ⟨b2, ho2, hc2, hk2, hF⟩ := dr_some hF
  refine W_st (st' := [.ref (ad b2)]) (by rw [va_some ho2]) ?_
  refine va_get (D := D) (ci := 9) (v := va_re ad (M.2 b2 1)) (C := RX9) (T := TX9) (N := 20) hx hb hts (mus hf_X9) hown hK hP b2 (wld_o ct ad G M hc2 hk2 (by decide)) rfl 1 (by decide) (hts (.fieldLink RX0 81 "VideoSuite$Work" "head" "LVideoSuite$Header;") (mu mw_425)) (fun _ h9 => h9) rfl dX0_beginSlice_4 ?_
  obtain ⟨b3, ho3, hc3, hk3, hF⟩ := dr_some hF
  refine W_st (st' := [.ref (ad b3)]) (by rw [va_some ho3]) ?_
  refine va_get (D := D) (ci := 3) (v := va_re ad (M.2 b3 0)) (C := RX3) (T := TX3) (N := 4) hx hb hts (mus hf_X3) hown hK hP b3 (wld_o ct ad G M hc3 hk3 (by decide)) rfl 0 (by decide) (hts (.fieldLink RX0 252 "VideoSuite$Header" "v" "[I") (mu mw_620)) (fun _ h9 => h9) rfl dX0_beginSlice_7 ?_
  refine lv_astoreq_n (lv' := [(2, va_re ad (M.2 b3 0)), (0, .ref (ad a)), (1, .int p0)]) hx hb dX0_beginSlice_10 rfl hl (by decide) rfl (fun ls hl => ?_)
  refine lv_aloadq_n hx hb dX0_beginSlice_11 rfl (lv_at hl 0 rfl) ?_
  refine lv_iconst (v := (0 : Int32)) hx hb dX0_beginSlice_12 (by decide) ?_
  refine lv_iload_n hx hb dX0_beginSlice_13 rfl (lv_at hl 2 rfl) ?_
  obtain ⟨b4, ho4, hc4, hk4, hF⟩ := dr_some hF
  refine W_st (st' := [.int p0, .int (0 : Int32), .ref (ad b4)]) (by rw [va_some ho4]) ?_
  obtain ⟨hvc, hF⟩ := chk_some hF
  refine va_iast hx hb hK hP hD hS b4 1 (wld_i ct ad G M hc4 hk4) rfl hvc dX0_beginSlice_14 (fun H locs hP hD hS => ?_)
  obtain ⟨M5, eM5, hF⟩ := ltt_some hF
  rw [set_i ct ad G M hc4 hk4, ← eM5] at hP hD
  refine lv_aload_n hx hb dX0_beginSlice_15 rfl (lv_at hl 1 rfl) ?_
  refine lv_aloadq_n hx hb dX0_beginSlice_16 rfl (lv_at hl 0 rfl) ?_
  refine lv_bipush (v := (12 : Int32)) hx hb dX0_beginSlice_17 (by decide) ?_
  refine W_st (st' := [.int (12 : Int32), .ref (ad b4), .ref (ad a)]) (by rw [va_some ho4]) ?_
  obtain ⟨hvc, hF⟩ := chk_some hF
  refine va_iald hx hb hK hP b4 1 (wld_i ct ad G M5 hc4 hk4) rfl hvc dX0_beginSlice_19 ?_
  obtain ⟨x6, ex6, hF⟩ := ltt_some hF
  refine lv_topi (fun zx6 ezx6 => ?_)
  obtain rfl : x6 = zx6 := ex6.trans ezx6.symm
  refine va_put (D := D) (ci := 0) (v := .int x6) (ty := .int) (C := RX0) (T := TX0) (N := 21) hx hb hts (mus hf_X0) tyX0 tyX0_ok nmX0 hown hK hP hD hS a (wld_o ct ad G M5 hc hk (by decide)) rfl 19 (by decide) (hts (.fieldLink RX0 299 "VideoSuite$Coder" "step" "I") (mu mw_837)) (fun _ h9 => h9) rfl (by decide +kernel) rfl rfl (Nat.le_of_ble_eq_true rfl) dX0_beginSlice_20 (fun H locs hP hD hS => ?_)
  obtain ⟨M7, eM7, hF⟩ := ltt_some hF
  rw [set_oI ct ad G M5 hc hk (by decide) (by rfl), ← eM7] at hP hD
  refine lv_aload_n hx hb dX0_beginSlice_23 rfl (lv_at hl 1 rfl) ?_
  refine va_get (D := D) (ci := 0) (v := va_re ad (M7.2 a 3)) (C := RX0) (T := TX0) (N := 21) hx hb hts (mus hf_X0) hown hK hP a (wld_o ct ad G M7 hc hk (by decide)) rfl 3 (by decide) (hts (.fieldLink RX0 36 "VideoSuite$Coder" "work" "LVideoSuite$Work;") (mu mw_817)) (fun _ h9 => h9) rfl dX0_beginSlice_24 ?_
  refine lv_dup hx hb dX0_beginSlice_27 (va_re_cat _ _) ?_
  obtain ⟨b8, ho8, hc8, hk8, hF⟩ := dr_some hF
  refine W_st (st' := [.ref (ad b8), .ref (ad b8)]) (by rw [va_some ho8]) ?_
  refine va_get (D := D) (ci := 9) (v := .int (M7.1 b8 11)) (C := RX9) (T := TX9) (N := 20) hx hb hts (mus hf_X9) hown hK hP b8 (wld_o ct ad G M7 hc8 hk8 (by decide)) rfl 11 (by decide) (hts (.fieldLink RX0 302 "VideoSuite$Work" "sliceNumber" "I") (mu mw_462)) (fun _ h9 => h9) rfl dX0_beginSlice_28 ?_
  obtain ⟨x9, ex9, hF⟩ := ltt_some hF
  refine lv_topi (fun zx9 ezx9 => ?_)
  obtain rfl : x9 = zx9 := ex9.trans ezx9.symm
  refine lv_iconst (v := (1 : Int32)) hx hb dX0_beginSlice_31 (by decide) ?_
  refine lv_iadd hx hb dX0_beginSlice_32 ?_
  obtain ⟨x10, ex10, hF⟩ := ltt_some hF
  refine lv_topi (fun zx10 ezx10 => ?_)
  obtain rfl : x10 = zx10 := ex10.trans ezx10.symm
  refine va_put (D := D) (ci := 9) (v := .int x10) (ty := .int) (C := RX9) (T := TX9) (N := 20) hx hb hts (mus hf_X9) tyX9 tyX9_ok nmX9 hown hK hP hD hS b8 (wld_o ct ad G M7 hc8 hk8 (by decide)) rfl 11 (by decide) (hts (.fieldLink RX0 302 "VideoSuite$Work" "sliceNumber" "I") (mu mw_462)) (fun _ h9 => h9) rfl (by decide +kernel) rfl rfl (Nat.le_of_ble_eq_true rfl) dX0_beginSlice_33 (fun H locs hP hD hS => ?_)
  obtain ⟨M11, eM11, hF⟩ := ltt_some hF
  rw [set_oI ct ad G M7 hc8 hk8 (by decide) (by rfl), ← eM11] at hP hD
  refine lv_aload_n hx hb dX0_beginSlice_36 rfl (lv_at hl 1 rfl) ?_
  refine va_get (D := D) (ci := 0) (v := va_re ad (M11.2 a 6)) (C := RX0) (T := TX0) (N := 21) hx hb hts (mus hf_X0) hown hK hP a (wld_o ct ad G M11 hc hk (by decide)) rfl 6 (by decide) (hts (.fieldLink RX0 57 "VideoSuite$Coder" "store" "LVideoSuite$Store;") (mu mw_820)) (fun _ h9 => h9) rfl dX0_beginSlice_37 ?_
  refine lv_aload_n hx hb dX0_beginSlice_40 rfl (lv_at hl 1 rfl) ?_
  refine va_get (D := D) (ci := 0) (v := va_re ad (M11.2 a 3)) (C := RX0) (T := TX0) (N := 21) hx hb hts (mus hf_X0) hown hK hP a (wld_o ct ad G M11 hc hk (by decide)) rfl 3 (by decide) (hts (.fieldLink RX0 36 "VideoSuite$Coder" "work" "LVideoSuite$Work;") (mu mw_817)) (fun _ h9 => h9) rfl dX0_beginSlice_41 ?_
  refine lv_sipush (v := (256 : Int32)) hx hb dX0_beginSlice_44 (by decide) ?_
  obtain ⟨b12, ho12, hc12, hk12, hF⟩ := dr_some hF
  refine W_st (st' := [.int (256 : Int32), va_re ad (M11.2 a 3), .ref (ad b12)]) (by rw [va_some ho12]) ?_
  obtain ⟨y13, hy13, hF⟩ := bnd_some hF
  have hf9 := wA_in hD hA9 hS
  refine va_callv (va_runV (As := [va_re ad (M11.2 a 3), .int (256 : Int32)]) (rest := []) ⟨hx, hb, hml, hown, hts⟩ (kX7_makeLists l D ct ad Z G M11 H.size b12 ((M11.2 a 3)) ((256 : Int32)) y13 hc12 hk12 hy13) (cwV 2 hts gX0_beginSlice_X7_makeLists rfl rfl rfl (by decide +kernel) ⟨Nat.le_of_ble_eq_true rfl, Nat.le_of_ble_eq_true rfl⟩) ⟨fun a U g mk q => by obtain ⟨q0, q1, qP, qK, qD, qZ, qN⟩ := q; exact ⟨q0, q1, qP, va_K.moved (u := U) (U := U.calling g mk a) (Vm.Alike.refl U.vm) qK, qD, sF.moved (u := U) (U := U.calling g mk a) (Vm.Alike.refl U.vm) qZ, nF.same rfl qN⟩, va_recv hK hP (ci := 7) (q0 := b12) rfl (wld_o ct ad G M11 hc12 hk12 (by decide)), fun U hU hW => ⟨rfl, by rw [hU], by rw [hU]; exact hP, va_K.moved hW.alike hK, hD.weaken (fun _ _ _ _ => trivial), by rw [hU]; exact ((hZ.kept hS.2.1).narrow hf9).moved hW.alike, hN.warm hW⟩⟩ rfl rfl hl.1 rfl (lv_room (Nat.le_of_ble_eq_true rfl)) dX0_beginSlice_47 ⟨(Nat.zero_le _), (Nat.zero_le _)⟩) hS (fun q _ h => hf9 q h) hf9 (fun u t H locs ht hvm hw hB hz1 hk1 hS => ?_)
  obtain ⟨hP, hK9, hD9⟩ := hB
  rw [ht] at hP
  have hD := hD9.weaken (fun _ q _ h => hf9 q.1 h)
  refine lv_aload_n hx hb dX0_beginSlice_50 rfl (lv_at hl 1 rfl) ?_
  refine va_get (D := D) (ci := 0) (v := va_re ad (y13.2 a 2)) (C := RX0) (T := TX0) (N := 21) hx hb hts (mus hf_X0) hown hK hP a (wld_o ct ad G y13 hc hk (by decide)) rfl 2 (by decide) (hts (.fieldLink RX0 29 "VideoSuite$Coder" "writer" "LVideoSuite$Writer;") (mu mw_815)) (fun _ h9 => h9) rfl dX0_beginSlice_51 ?_
  refine lv_aloadq_n hx hb dX0_beginSlice_54 rfl (lv_at hl 0 rfl) ?_
  refine lv_bipush (v := (11 : Int32)) hx hb dX0_beginSlice_55 (by decide) ?_
  refine W_st (st' := [.int (11 : Int32), .ref (ad b4), va_re ad (y13.2 a 2)]) (by rw [va_some ho4]) ?_
  obtain ⟨hvc, hF⟩ := chk_some hF
  refine va_iald hx hb hK hP b4 1 (wld_i ct ad G y13 hc4 hk4) rfl hvc dX0_beginSlice_57 ?_
  obtain ⟨x14, ex14, hF⟩ := ltt_some hF
  refine lv_topi (fun zx14 ezx14 => ?_)
  obtain rfl : x14 = zx14 := ex14.trans ezx14.symm
  refine lv_iconst (v := (5 : Int32)) hx hb dX0_beginSlice_58 (by decide) ?_
  refine lv_ishl hx hb dX0_beginSlice_59 ?_
  obtain ⟨x15, ex15, hF⟩ := ltt_some hF
  refine lv_topi (fun zx15 ezx15 => ?_)
  obtain rfl : x15 = zx15 := ex15.trans ezx15.symm
  refine lv_aloadq_n hx hb dX0_beginSlice_60 rfl (lv_at hl 0 rfl) ?_
  refine lv_bipush (v := (18 : Int32)) hx hb dX0_beginSlice_61 (by decide) ?_
  refine W_st (st' := [.int (18 : Int32), .ref (ad b4), .int x15, va_re ad (y13.2 a 2)]) (by rw [va_some ho4]) ?_
  obtain ⟨hvc, hF⟩ := chk_some hF
  refine va_iald hx hb hK hP b4 1 (wld_i ct ad G y13 hc4 hk4) rfl hvc dX0_beginSlice_63 ?_
  obtain ⟨x16, ex16, hF⟩ := ltt_some hF
  refine lv_topi (fun zx16 ezx16 => ?_)
  obtain rfl : x16 = zx16 := ex16.trans ezx16.symm
  refine lv_ior hx hb dX0_beginSlice_64 ?_
  obtain ⟨x17, ex17, hF⟩ := ltt_some hF
  refine lv_topi (fun zx17 ezx17 => ?_)
  obtain rfl : x17 = zx17 := ex17.trans ezx17.symm
  obtain ⟨b18, ho18, hc18, hk18, hF⟩ := dr_some hF
  refine W_st (st' := [.int x17, .ref (ad b18)]) (by rw [va_some ho18]) ?_
  obtain ⟨y19, hy19, hF⟩ := bnd_some hF
  have hf9 := wA_in hD hA9 hS
  refine va_callv (va_runV (As := [.int x17]) (rest := []) ⟨hx, hb, hml, hown, hts⟩ (kX10_beginUnit l D ct ad Z G y13 H.size b18 x17 y19 hc18 hk18 hy19) (cwV 1 hts gX0_beginSlice_X10_beginUnit rfl rfl rfl (by decide +kernel) ⟨Nat.le_of_ble_eq_true rfl, Nat.le_of_ble_eq_true rfl⟩) ⟨fun a U g mk q => by obtain ⟨q0, q1, qP, qK, qD, qZ, qN⟩ := q; exact ⟨q0, q1, qP, va_K.moved (u := U) (U := U.calling g mk a) (Vm.Alike.refl U.vm) qK, qD, sF.moved (u := U) (U := U.calling g mk a) (Vm.Alike.refl U.vm) qZ, nF.same rfl qN⟩, va_recv hK hP (ci := 10) (q0 := b18) rfl (wld_o ct ad G y13 hc18 hk18 (by decide)), fun U hU hW => ⟨rfl, by rw [hU], by rw [hU]; exact hP, va_K.moved hW.alike hK, hD.weaken (fun _ _ _ _ => trivial), by rw [hU]; exact ((hZ.kept hS.2.1).narrow hf9).moved hW.alike, hN.warm hW⟩⟩ rfl rfl hl.1 rfl (lv_room (Nat.le_of_ble_eq_true rfl)) dX0_beginSlice_65 ⟨(Nat.zero_le _), (Nat.zero_le _)⟩) hS (fun q _ h => hf9 q h) hf9 (fun u t H locs ht hvm hw hB hz1 hk1 hS => ?_)
  obtain ⟨hP, hK9, hD9⟩ := hB
  rw [ht] at hP
  have hD := hD9.weaken (fun _ q _ h => hf9 q.1 h)
  refine lv_aload_n hx hb dX0_beginSlice_68 rfl (lv_at hl 1 rfl) ?_
  refine va_get (D := D) (ci := 0) (v := va_re ad (y19.2 a 2)) (C := RX0) (T := TX0) (N := 21) hx hb hts (mus hf_X0) hown hK hP a (wld_o ct ad G y19 hc hk (by decide)) rfl 2 (by decide) (hts (.fieldLink RX0 29 "VideoSuite$Coder" "writer" "LVideoSuite$Writer;") (mu mw_815)) (fun _ h9 => h9) rfl dX0_beginSlice_69 ?_
  refine lv_iconst (v := (0 : Int32)) hx hb dX0_beginSlice_72 (by decide) ?_
  obtain ⟨b20, ho20, hc20, hk20, hF⟩ := dr_some hF
  refine W_st (st' := [.int (0 : Int32), .ref (ad b20)]) (by rw [va_some ho20]) ?_
  refine va_put (D := D) (ci := 10) (v := .int (0 : Int32)) (ty := .int) (C := RX10) (T := TX10) (N := 20) hx hb hts (mus hf_X10) tyX10 tyX10_ok nmX10 hown hK hP hD hS b20 (wld_o ct ad G y19 hc20 hk20 (by decide)) rfl 3 (by decide) (hts (.fieldLink RX0 309 "VideoSuite$Writer" "run" "I") (mu mw_742)) (fun _ h9 => h9) rfl (by decide +kernel) rfl rfl (Nat.le_of_ble_eq_true rfl) dX0_beginSlice_73 (fun H locs hP hD hS => ?_)
  obtain ⟨M21, eM21, hF⟩ := ltt_some hF
  rw [set_oI ct ad G y19 hc20 hk20 (by decide) (by rfl), ← eM21] at hP hD
  obtain rfl := Option.some.inj hF
  exact W.vret hx hb hr (fun t ht hW => ⟨⟨(), rfl, trivial, ⟨by rw [ht]; exact hP, va_K.moved hW.alike hK, hD⟩⟩, hS.F ht⟩) hS.2.2 dX0_beginSlice_76
set_option maxRecDepth 20000 in
theorem gX0_bitsOf_X10_indexOfSe : GoodIn wuX0_bitsOf (va_wsS RX0 482 yX10_indexOfSe wuX10_indexOfSe) := gu_S mw_2551 mw_1186 mw_176 mw_1187
set_option maxRecDepth 20000 in
set_option maxRecDepth 20000 in
theorem gX0_bitsOf_X10_bitsOfUe : GoodIn wuX0_bitsOf (va_wsS RX0 485 yX10_bitsOfUe wuX10_bitsOfUe) := gu_S mw_2552 mw_1174 mw_176 mw_1175
set_option maxRecDepth 20000 in
set_option maxRecDepth 20000 in
theorem gX0_bitsOf_X10_bitsOfTe : GoodIn wuX0_bitsOf (va_wsS RX0 488 yX10_bitsOfTe wuX10_bitsOfTe) := gu_S mw_2553 mw_2554 mw_176 mw_2555
theorem dX0_bitsOf_0 : decode cX0_bitsOf 0 = .ok (.aload_n 0, 1) := by decide +kernel
theorem dX0_bitsOf_1 : decode cX0_bitsOf 1 = .ok (.getfield 36, 3) := by decide +kernel
theorem dX0_bitsOf_4 : decode cX0_bitsOf 4 = .ok (.getfield 81, 3) := by decide +kernel
theorem dX0_bitsOf_7 : decode cX0_bitsOf 7 = .ok (.getfield 252, 3) := by decide +kernel
theorem dX0_bitsOf_10 : decode cX0_bitsOf 10 = .ok (.bipush 9, 2) := by decide +kernel
theorem dX0_bitsOf_12 : decode cX0_bitsOf 12 = .ok (.iload_n 1, 1) := by decide +kernel
theorem dX0_bitsOf_13 : decode cX0_bitsOf 13 = .ok (.iadd, 1) := by decide +kernel
theorem dX0_bitsOf_14 : decode cX0_bitsOf 14 = .ok (.iaload, 1) := by decide +kernel
theorem dX0_bitsOf_15 : decode cX0_bitsOf 15 = .ok (.istore 5, 2) := by decide +kernel
theorem dX0_bitsOf_17 : decode cX0_bitsOf 17 = .ok (.iload_n 3, 1) := by decide +kernel
theorem dX0_bitsOf_18 : decode cX0_bitsOf 18 = .ok (.aload_n 0, 1) := by decide +kernel
theorem dX0_bitsOf_19 : decode cX0_bitsOf 19 = .ok (.getfield 36, 3) := by decide +kernel
theorem dX0_bitsOf_22 : decode cX0_bitsOf 22 = .ok (.getfield 419, 3) := by decide +kernel
theorem dX0_bitsOf_25 : decode cX0_bitsOf 25 = .ok (.isub, 1) := by decide +kernel
theorem dX0_bitsOf_26 : decode cX0_bitsOf 26 = .ok (.invokestatic 482, 3) := by decide +kernel
theorem dX0_bitsOf_29 : decode cX0_bitsOf 29 = .ok (.invokestatic 485, 3) := by decide +kernel
theorem dX0_bitsOf_32 : decode cX0_bitsOf 32 = .ok (.iload 4, 2) := by decide +kernel
theorem dX0_bitsOf_34 : decode cX0_bitsOf 34 = .ok (.aload_n 0, 1) := by decide +kernel
theorem dX0_bitsOf_35 : decode cX0_bitsOf 35 = .ok (.getfield 36, 3) := by decide +kernel
theorem dX0_bitsOf_38 : decode cX0_bitsOf 38 = .ok (.getfield 422, 3) := by decide +kernel
theorem dX0_bitsOf_41 : decode cX0_bitsOf 41 = .ok (.isub, 1) := by decide +kernel
theorem dX0_bitsOf_42 : decode cX0_bitsOf 42 = .ok (.invokestatic 482, 3) := by decide +kernel
theorem dX0_bitsOf_45 : decode cX0_bitsOf 45 = .ok (.invokestatic 485, 3) := by decide +kernel
theorem dX0_bitsOf_48 : decode cX0_bitsOf 48 = .ok (.iadd, 1) := by decide +kernel
theorem dX0_bitsOf_49 : decode cX0_bitsOf 49 = .ok (.iload 5, 2) := by decide +kernel
theorem dX0_bitsOf_51 : decode cX0_bitsOf 51 = .ok (.iconst 1, 1) := by decide +kernel
theorem dX0_bitsOf_52 : decode cX0_bitsOf 52 = .ok (.if_icmp .le 14, 3) := by decide +kernel
theorem dX0_bitsOf_55 : decode cX0_bitsOf 55 = .ok (.iload 5, 2) := by decide +kernel
theorem dX0_bitsOf_57 : decode cX0_bitsOf 57 = .ok (.iconst 1, 1) := by decide +kernel
theorem dX0_bitsOf_58 : decode cX0_bitsOf 58 = .ok (.isub, 1) := by decide +kernel
theorem dX0_bitsOf_59 : decode cX0_bitsOf 59 = .ok (.iload_n 2, 1) := by decide +kernel
theorem dX0_bitsOf_60 : decode cX0_bitsOf 60 = .ok (.invokestatic 488, 3) := by decide +kernel
theorem dX0_bitsOf_63 : decode cX0_bitsOf 63 = .ok (.goto 4, 3) := by decide +kernel
theorem dX0_bitsOf_66 : decode cX0_bitsOf 66 = .ok (.iconst 0, 1) := by decide +kernel
theorem dX0_bitsOf_67 : decode cX0_bitsOf 67 = .ok (.iadd, 1) := by decide +kernel
theorem dX0_bitsOf_68 : decode cX0_bitsOf 68 = .ok (.ireturn, 1) := by decide +kernel
def FX0_bitsOf (G : GG) (M : DD) (a : Nat) (p0 : Int32) (p1 : Int32) (p2 : Int32) (p3 : Int32) : Option (DD × Int32) :=
  dr G 9 ((M.2 a 3)) fun b2 =>
  dr G 3 ((M.2 b2 1)) fun b3 =>
  ltt ((((9 : Int32)) + p0)) fun x4 =>
  dr G 13 ((M.2 b3 0)) fun b5 =>
  chk (¬ (x4 < 0 ∨ G.2.2 b5 ≤ x4.toNatClampNeg)) <|
  ltt (M.1 b5 x4.toNatClampNeg) fun x6 =>
  ltt (M.1 b2 18) fun x7 =>
  ltt ((p2 - x7)) fun x8 =>
  bnd (FX10_indexOfSe G M x8) fun y9 =>
  bnd (FX10_bitsOfUe G y9.1 y9.2) fun y10 =>
  dr G 9 ((y10.1.2 a 3)) fun b11 =>
  ltt (y10.1.1 b11 19) fun x12 =>
  ltt ((p3 - x12)) fun x13 =>
  bnd (FX10_indexOfSe G y10.1 x13) fun y14 =>
  bnd (FX10_bitsOfUe G y14.1 y14.2) fun y15 =>
  ltt ((y10.2 + y15.2)) fun x16 =>
  bnd (if x6 ≤ ((1 : Int32)) then (some ((0 : Int32), y15.1)) else
  (ltt ((x6 - ((1 : Int32)))) fun x20 =>
  bnd (FX10_bitsOfTe G y15.1 x20 p1) fun y21 =>
  some (y21.2, y21.1))) fun (y17 : Int32 × DD) =>
  ltt ((x16 + y17.1)) fun x18 =>
  some (y17.2, x18)
set_option maxHeartbeats 4000000 in
set_option maxRecDepth 100000 in
theorem kX0_bitsOf (l : Launch) (D : va_G) (ct : CT) (ad : Nat → Nat) (Z : Nat → Nat) (G : GG) (M : DD) (sz : Nat) (a : Nat) (p0 : Int32) (p1 : Int32) (p2 : Int32) (p3 : Int32) (y : DD × Int32) (hc : a < G.1) (hk : G.2.1 a = 0) (hF : FX0_bitsOf G M a p0 p1 p2 p3 = some y) : Met l yX0_bitsOf wuX0_bitsOf ({ frames := 2, cells := 0, slots := 0, locals := 42 }) (va_Pc [.ref (ad a), .int p0, .int p1, .int p2, .int p3] (kB D ct ad Z G M sz)) (va_Qi (fun (q : Int32) (_ : Unit) => q = y.2) (fun _ t => kE D ct ad G (wA ad G sz) y.1 t) (wA ad G sz)) 0 0 (wA ad G sz) := by
  refine Met.ofW (cc := cX0_bitsOf) (maxL := 6) (ret := (some .int)) (by decide) rfl ?_
  intro p e s m args below meth c s₁ B hml hv
  obtain ⟨rfl, hsz, hP, hK, hD0, hZ, hN⟩ := hv
  have hx := B.exec
  have hb := B.bytes
  have hr := B.returns
  have hts := atoms_spec (ws := wuX0_bitsOf) B.pre
  have hown : s.vm.findClass RX0 = some m.cls := findClass_of_methodNamed B.named
  have hlocks := B.notSynchronized
  subst hsz
  have hD := wD_self (sz := s.heap.size) hD0
  have hA9 : ∀ q, s.heap.size ≤ q → wA ad G s.heap.size q := fun q h => Or.inr h
  generalize hAe : wA ad G s.heap.size = A at hD hA9 hZ ⊢
  have hS : va_S A s.heap s.heap [] := va_S.rf
  have hl := lv_entry ([.ref (ad a), .int p0, .int p1, .int p2, .int p3]) (n := 6) (Nat.le_of_ble_eq_true rfl)
  rw [lg_entry_eq]
  generalize (lg_sl ([.ref (ad a), .int p0, .int p1, .int p2, .int p3]) ++ List.replicate (6 - (lg_sl ([.ref (ad a), .int p0, .int p1, .int p2, .int p3])).length) Slot.unset).toArray = ls at hl ⊢
  have hl : lv_has ls 6 [(0, .ref (ad a)), (1, .int p0), (2, .int p1), (3, .int p2), (4, .int p3)] := hl
  unfold FX0_bitsOf at hF
  refine lv_aload_n hx hb dX0_bitsOf_0 rfl (lv_at hl 0 rfl) ?_
  refine va_get (D := D) (ci := 0) (v := va_re ad (M.2 a 3)) (C := RX0) (T := TX0) (N := 21) hx hb hts (mus hf_X0) hown hK hP a (wld_o ct ad G M hc hk (by decide)) rfl 3 (by decide) (hts (.fieldLink RX0 36 "VideoSuite$Coder" "work" "LVideoSuite$Work;") (mu mw_817)) (fun _ h9 => h9) rfl dX0_bitsOf_1 ?_
  obtain ⟨b2, ho2, hc2, hk2, hF⟩ := dr_some hF
  refine W_st (st' := [.ref (ad b2)]) (by rw [va_some ho2]) ?_
  refine va_get (D := D) (ci := 9) (v := va_re ad (M.2 b2 1)) (C := RX9) (T := TX9) (N := 20) hx hb hts (mus hf_X9) hown hK hP b2 (wld_o ct ad G M hc2 hk2 (by decide)) rfl 1 (by decide) (hts (.fieldLink RX0 81 "VideoSuite$Work" "head" "LVideoSuite$Header;") (mu mw_425)) (fun _ h9 => h9) rfl dX0_bitsOf_4 ?_
  obtain ⟨b3, ho3, hc3, hk3, hF⟩ := dr_some hF
  refine W_st (st' := [.ref (ad b3)]) (by rw [va_some ho3]) ?_
  refine va_get (D := D) (ci := 3) (v := va_re ad (M.2 b3 0)) (C := RX3) (T := TX3) (N := 4) hx hb hts (mus hf_X3) hown hK hP b3 (wld_o ct ad G M hc3 hk3 (by decide)) rfl 0 (by decide) (hts (.fieldLink RX0 252 "VideoSuite$Header" "v" "[I") (mu mw_620)) (fun _ h9 => h9) rfl dX0_bitsOf_7 ?_
  refine lv_bipush (v := (9 : Int32)) hx hb dX0_bitsOf_10 (by decide) ?_
  refine lv_iload_n hx hb dX0_bitsOf_12 rfl (lv_at hl 1 rfl) ?_
  refine lv_iadd hx hb dX0_bitsOf_13 ?_
  obtain ⟨x4, ex4, hF⟩ := ltt_some hF
  refine lv_topi (fun zx4 ezx4 => ?_)
  obtain rfl : x4 = zx4 := ex4.trans ezx4.symm
  obtain ⟨b5, ho5, hc5, hk5, hF⟩ := dr_some hF
  refine W_st (st' := [.int x4, .ref (ad b5)]) (by rw [va_some ho5]) ?_
  obtain ⟨hvc, hF⟩ := chk_some hF
  refine va_iald hx hb hK hP b5 1 (wld_i ct ad G M hc5 hk5) rfl hvc dX0_bitsOf_14 ?_
  obtain ⟨x6, ex6, hF⟩ := ltt_some hF
  refine lv_topi (fun zx6 ezx6 => ?_)
  obtain rfl : x6 = zx6 := ex6.trans ezx6.symm
  refine lv_istore (lv' := [(5, .int x6), (0, .ref (ad a)), (1, .int p0), (2, .int p1), (3, .int p2), (4, .int p3)]) hx hb dX0_bitsOf_15 hl (by decide) rfl (fun ls hl => ?_)
  refine lv_iload_n hx hb dX0_bitsOf_17 rfl (lv_at hl 4 rfl) ?_
  refine lv_aload_n hx hb dX0_bitsOf_18 rfl (lv_at hl 1 rfl) ?_
  refine va_get (D := D) (ci := 0) (v := va_re ad (M.2 a 3)) (C := RX0) (T := TX0) (N := 21) hx hb hts (mus hf_X0) hown hK hP a (wld_o ct ad G M hc hk (by decide)) rfl 3 (by decide) (hts (.fieldLink RX0 36 "VideoSuite$Coder" "work" "LVideoSuite$Work;") (mu mw_817)) (fun _ h9 => h9) rfl dX0_bitsOf_19 ?_
  refine W_st (st' := [.ref (ad b2), .int p2]) (by rw [va_some ho2]) ?_
  refine va_get (D := D) (ci := 9) (v := .int (M.1 b2 18)) (C := RX9) (T := TX9) (N := 20) hx hb hts (mus hf_X9) hown hK hP b2 (wld_o ct ad G M hc2 hk2 (by decide)) rfl 18 (by decide) (hts (.fieldLink RX0 419 "VideoSuite$Work" "guessX" "I") (mu mw_482)) (fun _ h9 => h9) rfl dX0_bitsOf_22 ?_
  obtain ⟨x7, ex7, hF⟩ := ltt_some hF
  refine lv_topi (fun zx7 ezx7 => ?_)
  obtain rfl : x7 = zx7 := ex7.trans ezx7.symm
  refine lv_isub hx hb dX0_bitsOf_25 ?_
  obtain ⟨x8, ex8, hF⟩ := ltt_some hF
  refine lv_topi (fun zx8 ezx8 => ?_)
  obtain rfl : x8 = zx8 := ex8.trans ezx8.symm
  obtain ⟨y9, hy9, hF⟩ := bnd_some hF
  have hf9 := wA_in hD hA9 hS
  refine va_calli (va_runS (As := [.int x8]) (rest := []) ⟨hx, hb, hml, hown, hts⟩ (kX10_indexOfSe l D ct ad Z G M s.heap.size x8 y9 hy9) (va_cwS 1 hts gX0_bitsOf_X10_indexOfSe rfl rfl rfl (by decide +kernel) ⟨Nat.le_of_ble_eq_true rfl, Nat.le_of_ble_eq_true rfl⟩) ⟨fun a U g mk q => by obtain ⟨q0, q1, qP, qK, qD, qZ, qN⟩ := q; exact ⟨q0, q1, qP, va_K.moved (u := U) (U := U.calling g mk a) (Vm.Alike.refl U.vm) qK, qD, sF.moved (u := U) (U := U.calling g mk a) (Vm.Alike.refl U.vm) qZ, nF.same rfl qN⟩, fun U hU hW => ⟨rfl, by rw [hU], by rw [hU]; exact hP, va_K.moved hW.alike hK, hD.weaken (fun _ _ _ _ => trivial), by rw [hU]; exact ((hZ.kept hS.2.1).narrow hf9).moved hW.alike, hN.warm hW⟩⟩ rfl rfl hl.1 rfl (lv_room (Nat.le_of_ble_eq_true rfl)) dX0_bitsOf_26 ⟨(Nat.zero_le _), (Nat.zero_le _)⟩) hS (fun q _ h => hf9 q h) hf9 (fun r u t H locs ht hvm hw hB hz1 hk1 hS => ?_)
  obtain ⟨hP, hK9, hD9⟩ := hB
  rw [ht] at hP
  try dsimp only at hw
  subst hw
  have hD := hD9.weaken (fun _ q _ h => hf9 q.1 h)
  obtain ⟨y10, hy10, hF⟩ := bnd_some hF
  have hf9 := wA_in hD hA9 hS
  refine va_calli (va_runS (As := [.int y9.2]) (rest := []) ⟨hx, hb, hml, hown, hts⟩ (kX10_bitsOfUe l D ct ad Z G y9.1 H.size y9.2 y10 hy10) (va_cwS 1 hts gX0_bitsOf_X10_bitsOfUe rfl rfl rfl (by decide +kernel) ⟨Nat.le_of_ble_eq_true rfl, Nat.le_of_ble_eq_true rfl⟩) ⟨fun a U g mk q => by obtain ⟨q0, q1, qP, qK, qD, qZ, qN⟩ := q; exact ⟨q0, q1, qP, va_K.moved (u := U) (U := U.calling g mk a) (Vm.Alike.refl U.vm) qK, qD, sF.moved (u := U) (U := U.calling g mk a) (Vm.Alike.refl U.vm) qZ, nF.same rfl qN⟩, fun U hU hW => ⟨rfl, by rw [hU], by rw [hU]; exact hP, va_K.moved hW.alike hK, hD.weaken (fun _ _ _ _ => trivial), by rw [hU]; exact ((hZ.kept hS.2.1).narrow hf9).moved hW.alike, hN.warm hW⟩⟩ rfl rfl hl.1 rfl (lv_room (Nat.le_of_ble_eq_true rfl)) dX0_bitsOf_29 ⟨(Nat.zero_le _), (Nat.zero_le _)⟩) hS (fun q _ h => hf9 q h) hf9 (fun r u t H locs ht hvm hw hB hz1 hk1 hS => ?_)
  obtain ⟨hP, hK9, hD9⟩ := hB
  rw [ht] at hP
  try dsimp only at hw
  subst hw
  have hD := hD9.weaken (fun _ q _ h => hf9 q.1 h)
  refine lv_iload hx hb dX0_bitsOf_32 (lv_at hl 5 rfl) ?_
  refine lv_aload_n hx hb dX0_bitsOf_34 rfl (lv_at hl 1 rfl) ?_
  refine va_get (D := D) (ci := 0) (v := va_re ad (y10.1.2 a 3)) (C := RX0) (T := TX0) (N := 21) hx hb hts (mus hf_X0) hown hK hP a (wld_o ct ad G y10.1 hc hk (by decide)) rfl 3 (by decide) (hts (.fieldLink RX0 36 "VideoSuite$Coder" "work" "LVideoSuite$Work;") (mu mw_817)) (fun _ h9 => h9) rfl dX0_bitsOf_35 ?_
  obtain ⟨b11, ho11, hc11, hk11, hF⟩ := dr_some hF
  refine W_st (st' := [.ref (ad b11), .int p3, .int y10.2]) (by rw [va_some ho11]) ?_
  refine va_get (D := D) (ci := 9) (v := .int (y10.1.1 b11 19)) (C := RX9) (T := TX9) (N := 20) hx hb hts (mus hf_X9) hown hK hP b11 (wld_o ct ad G y10.1 hc11 hk11 (by decide)) rfl 19 (by decide) (hts (.fieldLink RX0 422 "VideoSuite$Work" "guessY" "I") (mu mw_485)) (fun _ h9 => h9) rfl dX0_bitsOf_38 ?_
  obtain ⟨x12, ex12, hF⟩ := ltt_some hF
  refine lv_topi (fun zx12 ezx12 => ?_)
  obtain rfl : x12 = zx12 := ex12.trans ezx12.symm
  refine lv_isub hx hb dX0_bitsOf_41 ?_
  obtain ⟨x13, ex13, hF⟩ := ltt_some hF
  refine lv_topi (fun zx13 ezx13 => ?_)
  obtain rfl : x13 = zx13 := ex13.trans ezx13.symm
  obtain ⟨y14, hy14, hF⟩ := bnd_some hF
  have hf9 := wA_in hD hA9 hS
  refine va_calli (va_runS (As := [.int x13]) (rest := [.int y10.2]) ⟨hx, hb, hml, hown, hts⟩ (kX10_indexOfSe l D ct ad Z G y10.1 H.size x13 y14 hy14) (va_cwS 1 hts gX0_bitsOf_X10_indexOfSe rfl rfl rfl (by decide +kernel) ⟨Nat.le_of_ble_eq_true rfl, Nat.le_of_ble_eq_true rfl⟩) ⟨fun a U g mk q => by obtain ⟨q0, q1, qP, qK, qD, qZ, qN⟩ := q; exact ⟨q0, q1, qP, va_K.moved (u := U) (U := U.calling g mk a) (Vm.Alike.refl U.vm) qK, qD, sF.moved (u := U) (U := U.calling g mk a) (Vm.Alike.refl U.vm) qZ, nF.same rfl qN⟩, fun U hU hW => ⟨rfl, by rw [hU], by rw [hU]; exact hP, va_K.moved hW.alike hK, hD.weaken (fun _ _ _ _ => trivial), by rw [hU]; exact ((hZ.kept hS.2.1).narrow hf9).moved hW.alike, hN.warm hW⟩⟩ rfl rfl hl.1 rfl (lv_room (Nat.le_of_ble_eq_true rfl)) dX0_bitsOf_42 ⟨(Nat.zero_le _), (Nat.zero_le _)⟩) hS (fun q _ h => hf9 q h) hf9 (fun r u t H locs ht hvm hw hB hz1 hk1 hS => ?_)
  obtain ⟨hP, hK9, hD9⟩ := hB
  rw [ht] at hP
  try dsimp only at hw
  subst hw
  have hD := hD9.weaken (fun _ q _ h => hf9 q.1 h)
  obtain ⟨y15, hy15, hF⟩ := bnd_some hF
  have hf9 := wA_in hD hA9 hS
  refine va_calli (va_runS (As := [.int y14.2]) (rest := [.int y10.2]) ⟨hx, hb, hml, hown, hts⟩ (kX10_bitsOfUe l D ct ad Z G y14.1 H.size y14.2 y15 hy15) (va_cwS 1 hts gX0_bitsOf_X10_bitsOfUe rfl rfl rfl (by decide +kernel) ⟨Nat.le_of_ble_eq_true rfl, Nat.le_of_ble_eq_true rfl⟩) ⟨fun a U g mk q => by obtain ⟨q0, q1, qP, qK, qD, qZ, qN⟩ := q; exact ⟨q0, q1, qP, va_K.moved (u := U) (U := U.calling g mk a) (Vm.Alike.refl U.vm) qK, qD, sF.moved (u := U) (U := U.calling g mk a) (Vm.Alike.refl U.vm) qZ, nF.same rfl qN⟩, fun U hU hW => ⟨rfl, by rw [hU], by rw [hU]; exact hP, va_K.moved hW.alike hK, hD.weaken (fun _ _ _ _ => trivial), by rw [hU]; exact ((hZ.kept hS.2.1).narrow hf9).moved hW.alike, hN.warm hW⟩⟩ rfl rfl hl.1 rfl (lv_room (Nat.le_of_ble_eq_true rfl)) dX0_bitsOf_45 ⟨(Nat.zero_le _), (Nat.zero_le _)⟩) hS (fun q _ h => hf9 q h) hf9 (fun r u t H locs ht hvm hw hB hz1 hk1 hS => ?_)
  obtain ⟨hP, hK9, hD9⟩ := hB
  rw [ht] at hP
  try dsimp only at hw
  subst hw
  have hD := hD9.weaken (fun _ q _ h => hf9 q.1 h)
  refine lv_iadd hx hb dX0_bitsOf_48 ?_
  obtain ⟨x16, ex16, hF⟩ := ltt_some hF
  refine lv_topi (fun zx16 ezx16 => ?_)
  obtain rfl : x16 = zx16 := ex16.trans ezx16.symm
  refine lv_iload hx hb dX0_bitsOf_49 (lv_at hl 0 rfl) ?_
  refine lv_iconst (v := (1 : Int32)) hx hb dX0_bitsOf_51 (by decide) ?_
  obtain ⟨y17, hy17, hF⟩ := bnd_some hF
  have J17 : ∀ (H : Heap) (locs : List Loc) (ls : Array Slot), va_P D classes (wld ct ad G y17.2) H → va_D A (wld ct ad G y17.2) → va_S A s.heap H locs → lv_has ls 6 [(5, .int x6), (0, .ref (ad a)), (1, .int p0), (2, .int p1), (3, .int p2), (4, .int p3)] → W p l e (headSpec wuX0_bitsOf ({ frames := 2, cells := 0, slots := 0, locals := 42 })).room s m ([.ref (ad a), .int p0, .int p1, .int p2, .int p3] : List Value).toArray below meth c H locs 0 0 (MQ below (va_Qi (fun (q : Int32) (_ : Unit) => q = y.2) (fun _ t => kE D ct ad G A y.1 t) A) ([.ref (ad a), .int p0, .int p1, .int p2, .int p3] : List Value).toArray s 0 0 A) (F0 m 67 ls [.int y17.1, .int x16]) := by
    intro H locs ls hP hD hS hl
    refine lv_iadd hx hb dX0_bitsOf_67 ?_
    obtain ⟨x18, ex18, hF⟩ := ltt_some hF
    refine lv_topi (fun zx18 ezx18 => ?_)
    obtain rfl : x18 = zx18 := ex18.trans ezx18.symm
    obtain rfl := Option.some.inj hF
    exact W.iret (v := x18) hx hb hr (fun t ht hW => ⟨⟨_, (), rfl, rfl, ⟨by rw [ht]; exact hP, va_K.moved hW.alike hK, hD⟩⟩, hS.F ht⟩) hS.2.2 dX0_bitsOf_68
  clear hF
  have hF := hy17
  clear hy17
  refine lv_icmp_le (tgt := 66) hx hb dX0_bitsOf_52 (by decide) (fun c19 => ?_) (fun c19 => ?_)
  · rw [if_pos c19] at hF
    refine lv_iconst (v := (0 : Int32)) hx hb dX0_bitsOf_66 (by decide) ?_
    obtain rfl := Option.some.inj hF
    exact J17 _ _ _ hP hD hS (lv_sub hl [0, 1, 2, 3, 4, 5] rfl)
  · rw [if_neg c19] at hF
    refine lv_iload hx hb dX0_bitsOf_55 (lv_at hl 0 rfl) ?_
    refine lv_iconst (v := (1 : Int32)) hx hb dX0_bitsOf_57 (by decide) ?_
    refine lv_isub hx hb dX0_bitsOf_58 ?_
    obtain ⟨x20, ex20, hF⟩ := ltt_some hF
    refine lv_topi (fun zx20 ezx20 => ?_)
    obtain rfl : x20 = zx20 := ex20.trans ezx20.symm
    refine lv_iload_n hx hb dX0_bitsOf_59 rfl (lv_at hl 3 rfl) ?_
    obtain ⟨y21, hy21, hF⟩ := bnd_some hF
    have hf9 := wA_in hD hA9 hS
    refine va_calli (va_runS (As := [.int x20, .int p1]) (rest := [.int x16]) ⟨hx, hb, hml, hown, hts⟩ (kX10_bitsOfTe l D ct ad Z G y15.1 H.size x20 p1 y21 hy21) (va_cwS 2 hts gX0_bitsOf_X10_bitsOfTe rfl rfl rfl (by decide +kernel) ⟨Nat.le_of_ble_eq_true rfl, Nat.le_of_ble_eq_true rfl⟩) ⟨fun a U g mk q => by obtain ⟨q0, q1, qP, qK, qD, qZ, qN⟩ := q; exact ⟨q0, q1, qP, va_K.moved (u := U) (U := U.calling g mk a) (Vm.Alike.refl U.vm) qK, qD, sF.moved (u := U) (U := U.calling g mk a) (Vm.Alike.refl U.vm) qZ, nF.same rfl qN⟩, fun U hU hW => ⟨rfl, by rw [hU], by rw [hU]; exact hP, va_K.moved hW.alike hK, hD.weaken (fun _ _ _ _ => trivial), by rw [hU]; exact ((hZ.kept hS.2.1).narrow hf9).moved hW.alike, hN.warm hW⟩⟩ rfl rfl hl.1 rfl (lv_room (Nat.le_of_ble_eq_true rfl)) dX0_bitsOf_60 ⟨(Nat.zero_le _), (Nat.zero_le _)⟩) hS (fun q _ h => hf9 q h) hf9 (fun r u t H locs ht hvm hw hB hz1 hk1 hS => ?_)
    obtain ⟨hP, hK9, hD9⟩ := hB
    rw [ht] at hP
    try dsimp only at hw
    subst hw
    have hD := hD9.weaken (fun _ q _ h => hf9 q.1 h)
    refine lv_goto (tgt := 67) hx hb dX0_bitsOf_63 (by decide) ?_
    obtain rfl := Option.some.inj hF
    exact J17 _ _ _ hP hD hS (lv_sub hl [0, 1, 2, 3, 4, 5] rfl)
set_option maxRecDepth 20000 in
theorem gX0_chooseColours_X9_mayBeColours : GoodIn wuX0_chooseColours (va_wsS RX0 339 yX9_mayBeColours wuX9_mayBeColours) := gu_S mw_2495 mw_2178 mw_171 mw_2179
set_option maxRecDepth 20000 in
set_option maxRecDepth 20000 in
theorem gX0_chooseColours_X6_predictColours_ : GoodIn wuX0_chooseColours (wsV RX0 515 RX6 yX6_predictColours_ wuX6_predictColours_) := gu_V mw_2610 mw_2053 mw_2054 mw_172 mw_2055
set_option maxRecDepth 20000 in
set_option maxRecDepth 20000 in
theorem gX0_chooseColours_X6_colourDifferences : GoodIn wuX0_chooseColours (wsV RX0 518 RX6 yX6_colourDifferences wuX6_colourDifferences) := gu_V mw_2611 mw_2612 mw_2613 mw_172 mw_2614
theorem dX0_chooseColours_0 : decode cX0_chooseColours 0 = .ok (.ldc_w 435, 3) := by decide +kernel
theorem dX0_chooseColours_3 : decode cX0_chooseColours 3 = .ok (.istore_n 3, 1) := by decide +kernel
theorem dX0_chooseColours_4 : decode cX0_chooseColours 4 = .ok (.iconst 0, 1) := by decide +kernel
theorem dX0_chooseColours_5 : decode cX0_chooseColours 5 = .ok (.istore 4, 2) := by decide +kernel
theorem dX0_chooseColours_7 : decode cX0_chooseColours 7 = .ok (.iload 4, 2) := by decide +kernel
theorem dX0_chooseColours_9 : decode cX0_chooseColours 9 = .ok (.iconst 4, 1) := by decide +kernel
theorem dX0_chooseColours_10 : decode cX0_chooseColours 10 = .ok (.if_icmp .ge 76, 3) := by decide +kernel
theorem dX0_chooseColours_13 : decode cX0_chooseColours 13 = .ok (.iload 4, 2) := by decide +kernel
theorem dX0_chooseColours_15 : decode cX0_chooseColours 15 = .ok (.iload_n 2, 1) := by decide +kernel
theorem dX0_chooseColours_16 : decode cX0_chooseColours 16 = .ok (.invokestatic 339, 3) := by decide +kernel
theorem dX0_chooseColours_19 : decode cX0_chooseColours 19 = .ok (.ifCond .eq 61, 3) := by decide +kernel
theorem dX0_chooseColours_22 : decode cX0_chooseColours 22 = .ok (.aload_n 0, 1) := by decide +kernel
theorem dX0_chooseColours_23 : decode cX0_chooseColours 23 = .ok (.getfield 43, 3) := by decide +kernel
theorem dX0_chooseColours_26 : decode cX0_chooseColours 26 = .ok (.aload_n 0, 1) := by decide +kernel
theorem dX0_chooseColours_27 : decode cX0_chooseColours 27 = .ok (.getfield 36, 3) := by decide +kernel
theorem dX0_chooseColours_30 : decode cX0_chooseColours 30 = .ok (.iload_n 1, 1) := by decide +kernel
theorem dX0_chooseColours_31 : decode cX0_chooseColours 31 = .ok (.iload 4, 2) := by decide +kernel
theorem dX0_chooseColours_33 : decode cX0_chooseColours 33 = .ok (.iload_n 2, 1) := by decide +kernel
theorem dX0_chooseColours_34 : decode cX0_chooseColours 34 = .ok (.invokevirtual 515, 3) := by decide +kernel
theorem dX0_chooseColours_37 : decode cX0_chooseColours 37 = .ok (.aload_n 0, 1) := by decide +kernel
theorem dX0_chooseColours_38 : decode cX0_chooseColours 38 = .ok (.getfield 43, 3) := by decide +kernel
theorem dX0_chooseColours_41 : decode cX0_chooseColours 41 = .ok (.aload_n 0, 1) := by decide +kernel
theorem dX0_chooseColours_42 : decode cX0_chooseColours 42 = .ok (.getfield 36, 3) := by decide +kernel
theorem dX0_chooseColours_45 : decode cX0_chooseColours 45 = .ok (.aload_n 0, 1) := by decide +kernel
theorem dX0_chooseColours_46 : decode cX0_chooseColours 46 = .ok (.getfield 69, 3) := by decide +kernel
theorem dX0_chooseColours_49 : decode cX0_chooseColours 49 = .ok (.iload_n 1, 1) := by decide +kernel
theorem dX0_chooseColours_50 : decode cX0_chooseColours 50 = .ok (.invokevirtual 518, 3) := by decide +kernel
theorem dX0_chooseColours_53 : decode cX0_chooseColours 53 = .ok (.istore 5, 2) := by decide +kernel
theorem dX0_chooseColours_55 : decode cX0_chooseColours 55 = .ok (.iload 5, 2) := by decide +kernel
theorem dX0_chooseColours_57 : decode cX0_chooseColours 57 = .ok (.iload_n 3, 1) := by decide +kernel
theorem dX0_chooseColours_58 : decode cX0_chooseColours 58 = .ok (.if_icmp .ge 22, 3) := by decide +kernel
theorem dX0_chooseColours_61 : decode cX0_chooseColours 61 = .ok (.iload 5, 2) := by decide +kernel
theorem dX0_chooseColours_63 : decode cX0_chooseColours 63 = .ok (.istore_n 3, 1) := by decide +kernel
theorem dX0_chooseColours_64 : decode cX0_chooseColours 64 = .ok (.aload_n 0, 1) := by decide +kernel
theorem dX0_chooseColours_65 : decode cX0_chooseColours 65 = .ok (.getfield 36, 3) := by decide +kernel
theorem dX0_chooseColours_68 : decode cX0_chooseColours 68 = .ok (.getfield 216, 3) := by decide +kernel
theorem dX0_chooseColours_71 : decode cX0_chooseColours 71 = .ok (.bipush 8, 2) := by decide +kernel
theorem dX0_chooseColours_73 : decode cX0_chooseColours 73 = .ok (.iload_n 1, 1) := by decide +kernel
theorem dX0_chooseColours_74 : decode cX0_chooseColours 74 = .ok (.imul, 1) := by decide +kernel
theorem dX0_chooseColours_75 : decode cX0_chooseColours 75 = .ok (.iconst 5, 1) := by decide +kernel
theorem dX0_chooseColours_76 : decode cX0_chooseColours 76 = .ok (.iadd, 1) := by decide +kernel
theorem dX0_chooseColours_77 : decode cX0_chooseColours 77 = .ok (.iload 4, 2) := by decide +kernel
theorem dX0_chooseColours_79 : decode cX0_chooseColours 79 = .ok (.iastore, 1) := by decide +kernel
theorem dX0_chooseColours_80 : decode cX0_chooseColours 80 = .ok (.iinc 4 1, 3) := by decide +kernel
theorem dX0_chooseColours_83 : decode cX0_chooseColours 83 = .ok (.goto (-76), 3) := by decide +kernel
theorem dX0_chooseColours_86 : decode cX0_chooseColours 86 = .ok (.return_, 1) := by decide +kernel
def FX0_chooseColours (G : GG) (M : DD) (a : Nat) (p0 : Int32) (p1 : Int32) : Option (DD) :=
  bnd (itr (fun (s2 : Int32 × Int32 × DD) => ((if ((4 : Int32)) ≤ s2.2.1 then (some (.inr (s2.1, s2.2.1, s2.2.2))) else
  (bnd (FX9_mayBeColours G s2.2.2 s2.2.1 p1) fun y6 =>
  bnd (if y6.2 = ((0 : Int32)) then (some (s2.1, y6.1)) else
  (dr G 6 ((y6.1.2 a 4)) fun b10 =>
  bnd (FX6_predictColours_ G y6.1 b10 ((y6.1.2 a 3)) p0 s2.2.1 p1) fun y11 =>
  dr G 6 ((y11.2 a 4)) fun b12 =>
  bnd (FX6_colourDifferences G y11 b12 ((y11.2 a 3)) ((y11.2 a 9)) p0) fun y13 =>
  bnd (if s2.1 ≤ y13.2 then (some (s2.1, y13.1)) else
  (dr G 9 ((y13.1.2 a 3)) fun b16 =>
  ltt ((((8 : Int32)) * p0)) fun x17 =>
  ltt ((x17 + ((5 : Int32)))) fun x18 =>
  dr G 13 ((y13.1.2 b16 6)) fun b19 =>
  chk (¬ (x18 < 0 ∨ G.2.2 b19 ≤ x18.toNatClampNeg)) <|
  ltt (uI y13.1 b19 x18.toNatClampNeg s2.2.1) fun M20 =>
  some (y13.2, M20))) fun (y14 : Int32 × DD) =>
  some (y14.1, y14.2))) fun (y7 : Int32 × DD) =>
  ltt (s2.2.1 + (1 : Int32)) fun x8 =>
  some (.inl (y7.1, x8, y7.2)))) : Option ((Int32 × Int32 × DD) ⊕ (Int32 × Int32 × DD)))) 1000000 ((2147483647 : Int32), (0 : Int32), M)) fun (y1 : Int32 × Int32 × DD) =>
  some y1.2.2
set_option maxHeartbeats 4000000 in
set_option maxRecDepth 100000 in
theorem kX0_chooseColours (l : Launch) (D : va_G) (ct : CT) (ad : Nat → Nat) (Z : Nat → Nat) (G : GG) (M : DD) (sz : Nat) (a : Nat) (p0 : Int32) (p1 : Int32) (y : DD) (hc : a < G.1) (hk : G.2.1 a = 0) (hF : FX0_chooseColours G M a p0 p1 = some y) : Met l yX0_chooseColours wuX0_chooseColours ({ frames := 3, cells := 0, slots := 0, locals := 79 }) (va_Pc [.ref (ad a), .int p0, .int p1] (kB D ct ad Z G M sz)) (va_Qv (fun (_ : Unit) => True) (fun _ t => kE D ct ad G (wA ad G sz) y t) (wA ad G sz)) 0 0 (wA ad G sz) := by
  refine Met.ofW (cc := cX0_chooseColours) (maxL := 6) (ret := none) (by decide) rfl ?_
  intro p e s m args below meth c s₁ B hml hv
  obtain ⟨rfl, hsz, hP, hK, hD0, hZ, hN⟩ := hv
  have hx := B.exec
  have hb := B.bytes
  have hr := B.returns
  have hts := atoms_spec (ws := wuX0_chooseColours) B.pre
  have hown : s.vm.findClass RX0 = some m.cls := findClass_of_methodNamed B.named
  have hlocks := B.notSynchronized
  subst hsz
  have hD := wD_self (sz := s.heap.size) hD0
  have hA9 : ∀ q, s.heap.size ≤ q → wA ad G s.heap.size q := fun q h => Or.inr h
  generalize hAe : wA ad G s.heap.size = A at hD hA9 hZ ⊢
  have hS : va_S A s.heap s.heap [] := va_S.rf
  have hl := lv_entry ([.ref (ad a), .int p0, .int p1]) (n := 6) (Nat.le_of_ble_eq_true rfl)
  rw [lg_entry_eq]
  generalize (lg_sl ([.ref (ad a), .int p0, .int p1]) ++ List.replicate (6 - (lg_sl ([.ref (ad a), .int p0, .int p1])).length) Slot.unset).toArray = ls at hl ⊢
  have hl : lv_has ls 6 [(0, .ref (ad a)), (1, .int p0), (2, .int p1)] := hl
  unfold FX0_chooseColours at hF
  refine lv_ldcw (v := (2147483647 : Int32)) hx hb hown (hts (.constant RX0 435 (2147483647 : Int32)) (mu mw_2529)) dX0_chooseColours_0 ?_
  refine lv_istore_n (lv' := [(3, .int (2147483647 : Int32)), (0, .ref (ad a)), (1, .int p0), (2, .int p1)]) hx hb dX0_chooseColours_3 rfl hl (by decide) rfl (fun ls hl => ?_)
  refine lv_iconst (v := (0 : Int32)) hx hb dX0_chooseColours_4 (by decide) ?_
  refine lv_istore (lv' := [(4, .int (0 : Int32)), (3, .int (2147483647 : Int32)), (0, .ref (ad a)), (1, .int p0), (2, .int p1)]) hx hb dX0_chooseColours_5 hl (by decide) rfl (fun ls hl => ?_)
  obtain ⟨y1, hy1, hF⟩ := bnd_some hF
  have K1 : ∀ (H : Heap) (locs : List Loc) (ls : Array Slot), va_P D classes (wld ct ad G y1.2.2) H → va_D A (wld ct ad G y1.2.2) → va_S A s.heap H locs → lv_has ls 6 [(4, .int y1.2.1), (3, .int y1.1), (0, .ref (ad a)), (1, .int p0), (2, .int p1)] → W p l e (headSpec wuX0_chooseColours ({ frames := 3, cells := 0, slots := 0, locals := 79 })).room s m ([.ref (ad a), .int p0, .int p1] : List Value).toArray below meth c H locs 0 0 (MQ below (va_Qv (fun (_ : Unit) => True) (fun _ t => kE D ct ad G A y t) A) ([.ref (ad a), .int p0, .int p1] : List Value).toArray s 0 0 A) (F0 m 86 ls []) := by
    intro H locs ls hP hD hS hl
    obtain rfl := Option.some.inj hF
    exact W.vret hx hb hr (fun t ht hW => ⟨⟨(), rfl, trivial, ⟨by rw [ht]; exact hP, va_K.moved hW.alike hK, hD⟩⟩, hS.F ht⟩) hS.2.2 dX0_chooseColours_86
  clear hF
  refine itr_rule (fun (s2 : Int32 × Int32 × DD) => ∀ (H : Heap) (locs : List Loc) (ls : Array Slot), va_P D classes (wld ct ad G s2.2.2) H → va_D A (wld ct ad G s2.2.2) → va_S A s.heap H locs → lv_has ls 6 [(4, .int s2.2.1), (3, .int s2.1), (0, .ref (ad a)), (1, .int p0), (2, .int p1)] → W p l e (headSpec wuX0_chooseColours ({ frames := 3, cells := 0, slots := 0, locals := 79 })).room s m ([.ref (ad a), .int p0, .int p1] : List Value).toArray below meth c H locs 0 0 (MQ below (va_Qv (fun (_ : Unit) => True) (fun _ t => kE D ct ad G A y t) A) ([.ref (ad a), .int p0, .int p1] : List Value).toArray s 0 0 A) (F0 m 7 ls [])) ?_ _ _ hy1 _ _ _ hP hD hS (lv_sub hl [0, 1, 2, 3, 4] rfl)
  rintro s2 ⟨z4, hF, hwz4⟩ H locs ls hP hD hS hl
  try dsimp only at hF
  refine lv_iload hx hb dX0_chooseColours_7 (lv_at hl 0 rfl) ?_
  refine lv_iconst (v := (4 : Int32)) hx hb dX0_chooseColours_9 (by decide) ?_
  refine lv_icmp_ge (tgt := 86) hx hb dX0_chooseColours_10 (by decide) (fun c5 => ?_) (fun c5 => ?_)
  · rw [if_pos c5] at hF
    obtain rfl := Option.some.inj hF
    subst hwz4
    exact K1 _ _ _ hP hD hS (lv_sub hl [0, 1, 2, 3, 4] rfl)
  · rw [if_neg c5] at hF
    refine lv_iload hx hb dX0_chooseColours_13 (lv_at hl 0 rfl) ?_
    refine lv_iload_n hx hb dX0_chooseColours_15 rfl (lv_at hl 4 rfl) ?_
    obtain ⟨y6, hy6, hF⟩ := bnd_some hF
    have hf9 := wA_in hD hA9 hS
    refine va_calli (va_runS (As := [.int s2.2.1, .int p1]) (rest := []) ⟨hx, hb, hml, hown, hts⟩ (kX9_mayBeColours l D ct ad Z G s2.2.2 H.size s2.2.1 p1 y6 hy6) (va_cwS 2 hts gX0_chooseColours_X9_mayBeColours rfl rfl rfl (by decide +kernel) ⟨Nat.le_of_ble_eq_true rfl, Nat.le_of_ble_eq_true rfl⟩) ⟨fun a U g mk q => by obtain ⟨q0, q1, qP, qK, qD, qZ, qN⟩ := q; exact ⟨q0, q1, qP, va_K.moved (u := U) (U := U.calling g mk a) (Vm.Alike.refl U.vm) qK, qD, sF.moved (u := U) (U := U.calling g mk a) (Vm.Alike.refl U.vm) qZ, nF.same rfl qN⟩, fun U hU hW => ⟨rfl, by rw [hU], by rw [hU]; exact hP, va_K.moved hW.alike hK, hD.weaken (fun _ _ _ _ => trivial), by rw [hU]; exact ((hZ.kept hS.2.1).narrow hf9).moved hW.alike, hN.warm hW⟩⟩ rfl rfl hl.1 rfl (lv_room (Nat.le_of_ble_eq_true rfl)) dX0_chooseColours_16 ⟨(Nat.zero_le _), (Nat.zero_le _)⟩) hS (fun q _ h => hf9 q h) hf9 (fun r u t H locs ht hvm hw hB hz1 hk1 hS => ?_)
    obtain ⟨hP, hK9, hD9⟩ := hB
    rw [ht] at hP
    try dsimp only at hw
    subst hw
    have hD := hD9.weaken (fun _ q _ h => hf9 q.1 h)
    obtain ⟨y7, hy7, hF⟩ := bnd_some hF
    have J7 : ∀ (H : Heap) (locs : List Loc) (ls : Array Slot), va_P D classes (wld ct ad G y7.2) H → va_D A (wld ct ad G y7.2) → va_S A s.heap H locs → lv_has ls 6 [(4, .int s2.2.1), (3, .int y7.1), (0, .ref (ad a)), (1, .int p0), (2, .int p1)] → W p l e (headSpec wuX0_chooseColours ({ frames := 3, cells := 0, slots := 0, locals := 79 })).room s m ([.ref (ad a), .int p0, .int p1] : List Value).toArray below meth c H locs 0 0 (MQ below (va_Qv (fun (_ : Unit) => True) (fun _ t => kE D ct ad G A y t) A) ([.ref (ad a), .int p0, .int p1] : List Value).toArray s 0 0 A) (F0 m 80 ls []) := by
      intro H locs ls hP hD hS hl
      obtain ⟨x8, ex8, hF⟩ := ltt_some hF
      refine lv_iinc (v := x8) (lv' := [(4, .int x8), (3, .int y7.1), (0, .ref (ad a)), (1, .int p0), (2, .int p1)]) hx hb dX0_chooseColours_80 hl (k := 0) rfl (by rw [ex8]; rfl) (by decide) rfl (fun ls hl => ?_)
      refine lv_goto (tgt := 7) hx hb dX0_chooseColours_83 (by decide) ?_
      obtain rfl := Option.some.inj hF
      exact hwz4 _ _ _ hP hD hS (lv_sub hl [0, 1, 2, 3, 4] rfl)
    clear hF
    have hF := hy7
    clear hy7
    refine lv_if_eq (tgt := 80) hx hb dX0_chooseColours_19 (by decide) (fun c9 => ?_) (fun c9 => ?_)
    · rw [if_pos c9] at hF
      obtain rfl := Option.some.inj hF
      exact J7 _ _ _ hP hD hS (lv_sub hl [0, 1, 2, 3, 4] rfl)
    · rw [if_neg c9] at hF
      refine lv_aload_n hx hb dX0_chooseColours_22 rfl (lv_at hl 2 rfl) ?_
      refine va_get (D := D) (ci := 0) (v := va_re ad (y6.1.2 a 4)) (C := RX0) (T := TX0) (N := 21) hx hb hts (mus hf_X0) hown hK hP a (wld_o ct ad G y6.1 hc hk (by decide)) rfl 4 (by decide) (hts (.fieldLink RX0 43 "VideoSuite$Coder" "samples" "LVideoSuite$Samples;") (mu mw_818)) (fun _ h9 => h9) rfl dX0_chooseColours_23 ?_
      refine lv_aload_n hx hb dX0_chooseColours_26 rfl (lv_at hl 2 rfl) ?_
      refine va_get (D := D) (ci := 0) (v := va_re ad (y6.1.2 a 3)) (C := RX0) (T := TX0) (N := 21) hx hb hts (mus hf_X0) hown hK hP a (wld_o ct ad G y6.1 hc hk (by decide)) rfl 3 (by decide) (hts (.fieldLink RX0 36 "VideoSuite$Coder" "work" "LVideoSuite$Work;") (mu mw_817)) (fun _ h9 => h9) rfl dX0_chooseColours_27 ?_
      refine lv_iload_n hx hb dX0_chooseColours_30 rfl (lv_at hl 3 rfl) ?_
      refine lv_iload hx hb dX0_chooseColours_31 (lv_at hl 0 rfl) ?_
      refine lv_iload_n hx hb dX0_chooseColours_33 rfl (lv_at hl 4 rfl) ?_
      obtain ⟨b10, ho10, hc10, hk10, hF⟩ := dr_some hF
      refine W_st (st' := [.int p1, .int s2.2.1, .int p0, va_re ad (y6.1.2 a 3), .ref (ad b10)]) (by rw [va_some ho10]) ?_
      obtain ⟨y11, hy11, hF⟩ := bnd_some hF
      have hf9 := wA_in hD hA9 hS
      refine va_callv (va_runV (As := [va_re ad (y6.1.2 a 3), .int p0, .int s2.2.1, .int p1]) (rest := []) ⟨hx, hb, hml, hown, hts⟩ (kX6_predictColours_ l D ct ad Z G y6.1 H.size b10 ((y6.1.2 a 3)) p0 s2.2.1 p1 y11 hc10 hk10 hy11) (cwV 4 hts gX0_chooseColours_X6_predictColours_ rfl rfl rfl (by decide +kernel) ⟨Nat.le_of_ble_eq_true rfl, Nat.le_of_ble_eq_true rfl⟩) ⟨fun a U g mk q => by obtain ⟨q0, q1, qP, qK, qD, qZ, qN⟩ := q; exact ⟨q0, q1, qP, va_K.moved (u := U) (U := U.calling g mk a) (Vm.Alike.refl U.vm) qK, qD, sF.moved (u := U) (U := U.calling g mk a) (Vm.Alike.refl U.vm) qZ, nF.same rfl qN⟩, va_recv hK hP (ci := 6) (q0 := b10) rfl (wld_o ct ad G y6.1 hc10 hk10 (by decide)), fun U hU hW => ⟨rfl, by rw [hU], by rw [hU]; exact hP, va_K.moved hW.alike hK, hD.weaken (fun _ _ _ _ => trivial), by rw [hU]; exact ((hZ.kept hS.2.1).narrow hf9).moved hW.alike, hN.warm hW⟩⟩ rfl rfl hl.1 rfl (lv_room (Nat.le_of_ble_eq_true rfl)) dX0_chooseColours_34 ⟨(Nat.zero_le _), (Nat.zero_le _)⟩) hS (fun q _ h => hf9 q h) hf9 (fun u t H locs ht hvm hw hB hz1 hk1 hS => ?_)
      obtain ⟨hP, hK9, hD9⟩ := hB
      rw [ht] at hP
      have hD := hD9.weaken (fun _ q _ h => hf9 q.1 h)
      refine lv_aload_n hx hb dX0_chooseColours_37 rfl (lv_at hl 2 rfl) ?_
      refine va_get (D := D) (ci := 0) (v := va_re ad (y11.2 a 4)) (C := RX0) (T := TX0) (N := 21) hx hb hts (mus hf_X0) hown hK hP a (wld_o ct ad G y11 hc hk (by decide)) rfl 4 (by decide) (hts (.fieldLink RX0 43 "VideoSuite$Coder" "samples" "LVideoSuite$Samples;") (mu mw_818)) (fun _ h9 => h9) rfl dX0_chooseColours_38 ?_
      refine lv_aload_n hx hb dX0_chooseColours_41 rfl (lv_at hl 2 rfl) ?_
      refine va_get (D := D) (ci := 0) (v := va_re ad (y11.2 a 3)) (C := RX0) (T := TX0) (N := 21) hx hb hts (mus hf_X0) hown hK hP a (wld_o ct ad G y11 hc hk (by decide)) rfl 3 (by decide) (hts (.fieldLink RX0 36 "VideoSuite$Coder" "work" "LVideoSuite$Work;") (mu mw_817)) (fun _ h9 => h9) rfl dX0_chooseColours_42 ?_
      refine lv_aload_n hx hb dX0_chooseColours_45 rfl (lv_at hl 2 rfl) ?_
      refine va_get (D := D) (ci := 0) (v := va_re ad (y11.2 a 9)) (C := RX0) (T := TX0) (N := 21) hx hb hts (mus hf_X0) hown hK hP a (wld_o ct ad G y11 hc hk (by decide)) rfl 9 (by decide) (hts (.fieldLink RX0 69 "VideoSuite$Coder" "source" "[[I") (mu mw_823)) (fun _ h9 => h9) rfl dX0_chooseColours_46 ?_
      refine lv_iload_n hx hb dX0_chooseColours_49 rfl (lv_at hl 3 rfl) ?_
      obtain ⟨b12, ho12, hc12, hk12, hF⟩ := dr_some hF
      refine W_st (st' := [.int p0, va_re ad (y11.2 a 9), va_re ad (y11.2 a 3), .ref (ad b12)]) (by rw [va_some ho12]) ?_
      obtain ⟨y13, hy13, hF⟩ := bnd_some hF
      have hf9 := wA_in hD hA9 hS
      refine va_calli (va_runV (As := [va_re ad (y11.2 a 3), va_re ad (y11.2 a 9), .int p0]) (rest := []) ⟨hx, hb, hml, hown, hts⟩ (kX6_colourDifferences l D ct ad Z G y11 H.size b12 ((y11.2 a 3)) ((y11.2 a 9)) p0 y13 hc12 hk12 hy13) (cwV 3 hts gX0_chooseColours_X6_colourDifferences rfl rfl rfl (by decide +kernel) ⟨Nat.le_of_ble_eq_true rfl, Nat.le_of_ble_eq_true rfl⟩) ⟨fun a U g mk q => by obtain ⟨q0, q1, qP, qK, qD, qZ, qN⟩ := q; exact ⟨q0, q1, qP, va_K.moved (u := U) (U := U.calling g mk a) (Vm.Alike.refl U.vm) qK, qD, sF.moved (u := U) (U := U.calling g mk a) (Vm.Alike.refl U.vm) qZ, nF.same rfl qN⟩, va_recv hK hP (ci := 6) (q0 := b12) rfl (wld_o ct ad G y11 hc12 hk12 (by decide)), fun U hU hW => ⟨rfl, by rw [hU], by rw [hU]; exact hP, va_K.moved hW.alike hK, hD.weaken (fun _ _ _ _ => trivial), by rw [hU]; exact ((hZ.kept hS.2.1).narrow hf9).moved hW.alike, hN.warm hW⟩⟩ rfl rfl hl.1 rfl (lv_room (Nat.le_of_ble_eq_true rfl)) dX0_chooseColours_50 ⟨(Nat.zero_le _), (Nat.zero_le _)⟩) hS (fun q _ h => hf9 q h) hf9 (fun r u t H locs ht hvm hw hB hz1 hk1 hS => ?_)
      obtain ⟨hP, hK9, hD9⟩ := hB
      rw [ht] at hP
      try dsimp only at hw
      subst hw
      have hD := hD9.weaken (fun _ q _ h => hf9 q.1 h)
      refine lv_istore (lv' := [(5, .int y13.2), (4, .int s2.2.1), (3, .int s2.1), (0, .ref (ad a)), (1, .int p0), (2, .int p1)]) hx hb dX0_chooseColours_53 hl (by decide) rfl (fun ls hl => ?_)
      refine lv_iload hx hb dX0_chooseColours_55 (lv_at hl 0 rfl) ?_
      refine lv_iload_n hx hb dX0_chooseColours_57 rfl (lv_at hl 2 rfl) ?_
      obtain ⟨y14, hy14, hF⟩ := bnd_some hF
      have J14 : ∀ (H : Heap) (locs : List Loc) (ls : Array Slot), va_P D classes (wld ct ad G y14.2) H → va_D A (wld ct ad G y14.2) → va_S A s.heap H locs → lv_has ls 6 [(5, .int y13.2), (4, .int s2.2.1), (3, .int y14.1), (0, .ref (ad a)), (1, .int p0), (2, .int p1)] → W p l e (headSpec wuX0_chooseColours ({ frames := 3, cells := 0, slots := 0, locals := 79 })).room s m ([.ref (ad a), .int p0, .int p1] : List Value).toArray below meth c H locs 0 0 (MQ below (va_Qv (fun (_ : Unit) => True) (fun _ t => kE D ct ad G A y t) A) ([.ref (ad a), .int p0, .int p1] : List Value).toArray s 0 0 A) (F0 m 80 ls []) := by
        intro H locs ls hP hD hS hl
        obtain rfl := Option.some.inj hF
        exact J7 _ _ _ hP hD hS (lv_sub hl [1, 2, 3, 4, 5] rfl)
      clear hF
      have hF := hy14
      clear hy14
      refine lv_icmp_ge (tgt := 80) hx hb dX0_chooseColours_58 (by decide) (fun c15 => ?_) (fun c15 => ?_)
      · rw [if_pos c15] at hF
        obtain rfl := Option.some.inj hF
        exact J14 _ _ _ hP hD hS (lv_sub hl [0, 1, 2, 3, 4, 5] rfl)
      · rw [if_neg c15] at hF
        refine lv_iload hx hb dX0_chooseColours_61 (lv_at hl 0 rfl) ?_
        refine lv_istore_n (lv' := [(3, .int y13.2), (5, .int y13.2), (4, .int s2.2.1), (0, .ref (ad a)), (1, .int p0), (2, .int p1)]) hx hb dX0_chooseColours_63 rfl hl (by decide) rfl (fun ls hl => ?_)
        refine lv_aload_n hx hb dX0_chooseColours_64 rfl (lv_at hl 3 rfl) ?_
        refine va_get (D := D) (ci := 0) (v := va_re ad (y13.1.2 a 3)) (C := RX0) (T := TX0) (N := 21) hx hb hts (mus hf_X0) hown hK hP a (wld_o ct ad G y13.1 hc hk (by decide)) rfl 3 (by decide) (hts (.fieldLink RX0 36 "VideoSuite$Coder" "work" "LVideoSuite$Work;") (mu mw_817)) (fun _ h9 => h9) rfl dX0_chooseColours_65 ?_
        obtain ⟨b16, ho16, hc16, hk16, hF⟩ := dr_some hF
        refine W_st (st' := [.ref (ad b16)]) (by rw [va_some ho16]) ?_
        refine va_get (D := D) (ci := 9) (v := va_re ad (y13.1.2 b16 6)) (C := RX9) (T := TX9) (N := 20) hx hb hts (mus hf_X9) hown hK hP b16 (wld_o ct ad G y13.1 hc16 hk16 (by decide)) rfl 6 (by decide) (hts (.fieldLink RX0 216 "VideoSuite$Work" "info" "[I") (mu mw_445)) (fun _ h9 => h9) rfl dX0_chooseColours_68 ?_
        refine lv_bipush (v := (8 : Int32)) hx hb dX0_chooseColours_71 (by decide) ?_
        refine lv_iload_n hx hb dX0_chooseColours_73 rfl (lv_at hl 4 rfl) ?_
        refine lv_imul hx hb dX0_chooseColours_74 ?_
        obtain ⟨x17, ex17, hF⟩ := ltt_some hF
        refine lv_topi (fun zx17 ezx17 => ?_)
        obtain rfl : x17 = zx17 := ex17.trans ezx17.symm
        refine lv_iconst (v := (5 : Int32)) hx hb dX0_chooseColours_75 (by decide) ?_
        refine lv_iadd hx hb dX0_chooseColours_76 ?_
        obtain ⟨x18, ex18, hF⟩ := ltt_some hF
        refine lv_topi (fun zx18 ezx18 => ?_)
        obtain rfl : x18 = zx18 := ex18.trans ezx18.symm
        refine lv_iload hx hb dX0_chooseColours_77 (lv_at hl 2 rfl) ?_
        obtain ⟨b19, ho19, hc19, hk19, hF⟩ := dr_some hF
        refine W_st (st' := [.int s2.2.1, .int x18, .ref (ad b19)]) (by rw [va_some ho19]) ?_
        obtain ⟨hvc, hF⟩ := chk_some hF
        refine va_iast hx hb hK hP hD hS b19 1 (wld_i ct ad G y13.1 hc19 hk19) rfl hvc dX0_chooseColours_79 (fun H locs hP hD hS => ?_)
        obtain ⟨M20, eM20, hF⟩ := ltt_some hF
        rw [set_i ct ad G y13.1 hc19 hk19, ← eM20] at hP hD
        obtain rfl := Option.some.inj hF
        exact J14 _ _ _ hP hD hS (lv_sub hl [1, 2, 0, 3, 4, 5] rfl)
set_option maxRecDepth 20000 in
theorem gX0_costOf_X6_predictRegion : GoodIn wuX0_costOf (wsV RX0 494 RX6 yX6_predictRegion wuX6_predictRegion) := gu_V mw_2538 mw_2011 mw_2012 mw_172 mw_2013
set_option maxRecDepth 20000 in
set_option maxRecDepth 20000 in
theorem gX0_costOf_X6_differences : GoodIn wuX0_costOf (wsV RX0 452 RX6 yX6_differences wuX6_differences) := gu_V mw_2539 mw_2540 mw_2541 mw_172 mw_2542
set_option maxRecDepth 20000 in
set_option maxRecDepth 20000 in
theorem gX0_costOf_X0_priceOfBit : GoodIn wuX0_costOf (wsV RX0 456 RX0 yX0_priceOfBit wuX0_priceOfBit) := gu_V mw_2543 mw_2545 mw_132 mw_175 mw_2546
set_option maxRecDepth 20000 in
set_option maxRecDepth 20000 in
theorem gX0_costOf_X0_bitsOf : GoodIn wuX0_costOf (wsV RX0 478 RX0 yX0_bitsOf wuX0_bitsOf) := gu_V mw_2547 mw_2549 mw_133 mw_175 mw_2550
theorem dX0_costOf_0 : decode cX0_costOf 0 = .ok (.iload 4, 2) := by decide +kernel
theorem dX0_costOf_2 : decode cX0_costOf 2 = .ok (.sipush (-2048), 3) := by decide +kernel
theorem dX0_costOf_5 : decode cX0_costOf 5 = .ok (.if_icmp .lt 27, 3) := by decide +kernel
theorem dX0_costOf_8 : decode cX0_costOf 8 = .ok (.iload 4, 2) := by decide +kernel
theorem dX0_costOf_10 : decode cX0_costOf 10 = .ok (.sipush 2047, 3) := by decide +kernel
theorem dX0_costOf_13 : decode cX0_costOf 13 = .ok (.if_icmp .gt 19, 3) := by decide +kernel
theorem dX0_costOf_16 : decode cX0_costOf 16 = .ok (.iload 5, 2) := by decide +kernel
theorem dX0_costOf_18 : decode cX0_costOf 18 = .ok (.sipush (-2048), 3) := by decide +kernel
theorem dX0_costOf_21 : decode cX0_costOf 21 = .ok (.if_icmp .lt 11, 3) := by decide +kernel
theorem dX0_costOf_24 : decode cX0_costOf 24 = .ok (.iload 5, 2) := by decide +kernel
theorem dX0_costOf_26 : decode cX0_costOf 26 = .ok (.sipush 2047, 3) := by decide +kernel
theorem dX0_costOf_29 : decode cX0_costOf 29 = .ok (.if_icmp .le 7, 3) := by decide +kernel
theorem dX0_costOf_32 : decode cX0_costOf 32 = .ok (.ldc_w 435, 3) := by decide +kernel
theorem dX0_costOf_35 : decode cX0_costOf 35 = .ok (.ireturn, 1) := by decide +kernel
theorem dX0_costOf_36 : decode cX0_costOf 36 = .ok (.aload_n 0, 1) := by decide +kernel
theorem dX0_costOf_37 : decode cX0_costOf 37 = .ok (.getfield 43, 3) := by decide +kernel
theorem dX0_costOf_40 : decode cX0_costOf 40 = .ok (.getfield 491, 3) := by decide +kernel
theorem dX0_costOf_43 : decode cX0_costOf 43 = .ok (.astore 6, 2) := by decide +kernel
theorem dX0_costOf_45 : decode cX0_costOf 45 = .ok (.aload 6, 2) := by decide +kernel
theorem dX0_costOf_47 : decode cX0_costOf 47 = .ok (.iconst 3, 1) := by decide +kernel
theorem dX0_costOf_48 : decode cX0_costOf 48 = .ok (.iconst 3, 1) := by decide +kernel
theorem dX0_costOf_49 : decode cX0_costOf 49 = .ok (.iload_n 2, 1) := by decide +kernel
theorem dX0_costOf_50 : decode cX0_costOf 50 = .ok (.imul, 1) := by decide +kernel
theorem dX0_costOf_51 : decode cX0_costOf 51 = .ok (.isub, 1) := by decide +kernel
theorem dX0_costOf_52 : decode cX0_costOf 52 = .ok (.iconst (-1), 1) := by decide +kernel
theorem dX0_costOf_53 : decode cX0_costOf 53 = .ok (.iastore, 1) := by decide +kernel
theorem dX0_costOf_54 : decode cX0_costOf 54 = .ok (.aload 6, 2) := by decide +kernel
theorem dX0_costOf_56 : decode cX0_costOf 56 = .ok (.iconst 3, 1) := by decide +kernel
theorem dX0_costOf_57 : decode cX0_costOf 57 = .ok (.iload_n 2, 1) := by decide +kernel
theorem dX0_costOf_58 : decode cX0_costOf 58 = .ok (.imul, 1) := by decide +kernel
theorem dX0_costOf_59 : decode cX0_costOf 59 = .ok (.iload_n 3, 1) := by decide +kernel
theorem dX0_costOf_60 : decode cX0_costOf 60 = .ok (.iastore, 1) := by decide +kernel
theorem dX0_costOf_61 : decode cX0_costOf 61 = .ok (.aload 6, 2) := by decide +kernel
theorem dX0_costOf_63 : decode cX0_costOf 63 = .ok (.iconst 3, 1) := by decide +kernel
theorem dX0_costOf_64 : decode cX0_costOf 64 = .ok (.iload_n 2, 1) := by decide +kernel
theorem dX0_costOf_65 : decode cX0_costOf 65 = .ok (.imul, 1) := by decide +kernel
theorem dX0_costOf_66 : decode cX0_costOf 66 = .ok (.iconst 1, 1) := by decide +kernel
theorem dX0_costOf_67 : decode cX0_costOf 67 = .ok (.iadd, 1) := by decide +kernel
theorem dX0_costOf_68 : decode cX0_costOf 68 = .ok (.iload 4, 2) := by decide +kernel
theorem dX0_costOf_70 : decode cX0_costOf 70 = .ok (.iastore, 1) := by decide +kernel
theorem dX0_costOf_71 : decode cX0_costOf 71 = .ok (.aload 6, 2) := by decide +kernel
theorem dX0_costOf_73 : decode cX0_costOf 73 = .ok (.iconst 3, 1) := by decide +kernel
theorem dX0_costOf_74 : decode cX0_costOf 74 = .ok (.iload_n 2, 1) := by decide +kernel
theorem dX0_costOf_75 : decode cX0_costOf 75 = .ok (.imul, 1) := by decide +kernel
theorem dX0_costOf_76 : decode cX0_costOf 76 = .ok (.iconst 2, 1) := by decide +kernel
theorem dX0_costOf_77 : decode cX0_costOf 77 = .ok (.iadd, 1) := by decide +kernel
theorem dX0_costOf_78 : decode cX0_costOf 78 = .ok (.iload 5, 2) := by decide +kernel
theorem dX0_costOf_80 : decode cX0_costOf 80 = .ok (.iastore, 1) := by decide +kernel
theorem dX0_costOf_81 : decode cX0_costOf 81 = .ok (.aload_n 0, 1) := by decide +kernel
theorem dX0_costOf_82 : decode cX0_costOf 82 = .ok (.getfield 43, 3) := by decide +kernel
theorem dX0_costOf_85 : decode cX0_costOf 85 = .ok (.aload_n 0, 1) := by decide +kernel
theorem dX0_costOf_86 : decode cX0_costOf 86 = .ok (.getfield 36, 3) := by decide +kernel
theorem dX0_costOf_89 : decode cX0_costOf 89 = .ok (.iload_n 1, 1) := by decide +kernel
theorem dX0_costOf_90 : decode cX0_costOf 90 = .ok (.iconst 0, 1) := by decide +kernel
theorem dX0_costOf_91 : decode cX0_costOf 91 = .ok (.bipush 16, 2) := by decide +kernel
theorem dX0_costOf_93 : decode cX0_costOf 93 = .ok (.iconst 0, 1) := by decide +kernel
theorem dX0_costOf_94 : decode cX0_costOf 94 = .ok (.invokevirtual 494, 3) := by decide +kernel
theorem dX0_costOf_97 : decode cX0_costOf 97 = .ok (.aload_n 0, 1) := by decide +kernel
theorem dX0_costOf_98 : decode cX0_costOf 98 = .ok (.getfield 43, 3) := by decide +kernel
theorem dX0_costOf_101 : decode cX0_costOf 101 = .ok (.aload_n 0, 1) := by decide +kernel
theorem dX0_costOf_102 : decode cX0_costOf 102 = .ok (.getfield 36, 3) := by decide +kernel
theorem dX0_costOf_105 : decode cX0_costOf 105 = .ok (.aload_n 0, 1) := by decide +kernel
theorem dX0_costOf_106 : decode cX0_costOf 106 = .ok (.getfield 69, 3) := by decide +kernel
theorem dX0_costOf_109 : decode cX0_costOf 109 = .ok (.iconst 0, 1) := by decide +kernel
theorem dX0_costOf_110 : decode cX0_costOf 110 = .ok (.aaload, 1) := by decide +kernel
theorem dX0_costOf_111 : decode cX0_costOf 111 = .ok (.iload_n 1, 1) := by decide +kernel
theorem dX0_costOf_112 : decode cX0_costOf 112 = .ok (.iconst 0, 1) := by decide +kernel
theorem dX0_costOf_113 : decode cX0_costOf 113 = .ok (.bipush 16, 2) := by decide +kernel
theorem dX0_costOf_115 : decode cX0_costOf 115 = .ok (.invokevirtual 452, 3) := by decide +kernel
theorem dX0_costOf_118 : decode cX0_costOf 118 = .ok (.aload_n 0, 1) := by decide +kernel
theorem dX0_costOf_119 : decode cX0_costOf 119 = .ok (.invokevirtual 456, 3) := by decide +kernel
theorem dX0_costOf_122 : decode cX0_costOf 122 = .ok (.aload_n 0, 1) := by decide +kernel
theorem dX0_costOf_123 : decode cX0_costOf 123 = .ok (.iload_n 2, 1) := by decide +kernel
theorem dX0_costOf_124 : decode cX0_costOf 124 = .ok (.iload_n 3, 1) := by decide +kernel
theorem dX0_costOf_125 : decode cX0_costOf 125 = .ok (.iload 4, 2) := by decide +kernel
theorem dX0_costOf_127 : decode cX0_costOf 127 = .ok (.iload 5, 2) := by decide +kernel
theorem dX0_costOf_129 : decode cX0_costOf 129 = .ok (.invokevirtual 478, 3) := by decide +kernel
theorem dX0_costOf_132 : decode cX0_costOf 132 = .ok (.imul, 1) := by decide +kernel
theorem dX0_costOf_133 : decode cX0_costOf 133 = .ok (.iadd, 1) := by decide +kernel
theorem dX0_costOf_134 : decode cX0_costOf 134 = .ok (.ireturn, 1) := by decide +kernel
def FX0_costOf (G : GG) (M : DD) (a : Nat) (p0 : Int32) (p1 : Int32) (p2 : Int32) (p3 : Int32) (p4 : Int32) : Option (DD × Int32) :=
  if p3 < ((-2048 : Int32)) then (some (M, (2147483647 : Int32))) else
  (if ((2047 : Int32)) < p3 then (some (M, (2147483647 : Int32))) else
  (if p4 < ((-2048 : Int32)) then (some (M, (2147483647 : Int32))) else
  (if p4 ≤ ((2047 : Int32)) then (dr G 6 ((M.2 a 4)) fun b5 =>
  ltt ((((3 : Int32)) * p1)) fun x6 =>
  ltt ((((3 : Int32)) - x6)) fun x7 =>
  dr G 13 ((M.2 b5 5)) fun b8 =>
  chk (¬ (x7 < 0 ∨ G.2.2 b8 ≤ x7.toNatClampNeg)) <|
  ltt (uI M b8 x7.toNatClampNeg ((-1 : Int32))) fun M9 =>
  ltt ((((3 : Int32)) * p1)) fun x10 =>
  chk (¬ (x10 < 0 ∨ G.2.2 b8 ≤ x10.toNatClampNeg)) <|
  ltt (uI M9 b8 x10.toNatClampNeg p2) fun M11 =>
  ltt ((((3 : Int32)) * p1)) fun x12 =>
  ltt ((x12 + ((1 : Int32)))) fun x13 =>
  chk (¬ (x13 < 0 ∨ G.2.2 b8 ≤ x13.toNatClampNeg)) <|
  ltt (uI M11 b8 x13.toNatClampNeg p3) fun M14 =>
  ltt ((((3 : Int32)) * p1)) fun x15 =>
  ltt ((x15 + ((2 : Int32)))) fun x16 =>
  chk (¬ (x16 < 0 ∨ G.2.2 b8 ≤ x16.toNatClampNeg)) <|
  ltt (uI M14 b8 x16.toNatClampNeg p4) fun M17 =>
  dr G 6 ((M17.2 a 4)) fun b18 =>
  bnd (FX6_predictRegion G M17 b18 ((M17.2 a 3)) p0 ((0 : Int32)) ((16 : Int32)) ((0 : Int32))) fun y19 =>
  dr G 15 ((y19.2 a 9)) fun b20 =>
  chk (¬ (((0 : Int32)) < 0 ∨ G.2.2 b20 ≤ ((0 : Int32)).toNatClampNeg)) <|
  dr G 6 ((y19.2 a 4)) fun b21 =>
  bnd (FX6_differences G y19 b21 ((y19.2 a 3)) ((y19.2 b20 ((0 : Int32)).toNatClampNeg)) p0 ((0 : Int32)) ((16 : Int32))) fun y22 =>
  bnd (FX0_priceOfBit G y22.1 a) fun y23 =>
  bnd (FX0_bitsOf G y23.1 a p1 p2 p3 p4) fun y24 =>
  ltt ((y23.2 * y24.2)) fun x25 =>
  ltt ((y22.2 + x25)) fun x26 =>
  some (y24.1, x26)) else
  (some (M, (2147483647 : Int32))))))
set_option maxHeartbeats 4000000 in
set_option maxRecDepth 100000 in
theorem kX0_costOf (l : Launch) (D : va_G) (ct : CT) (ad : Nat → Nat) (Z : Nat → Nat) (G : GG) (M : DD) (sz : Nat) (a : Nat) (p0 : Int32) (p1 : Int32) (p2 : Int32) (p3 : Int32) (p4 : Int32) (y : DD × Int32) (hc : a < G.1) (hk : G.2.1 a = 0) (hF : FX0_costOf G M a p0 p1 p2 p3 p4 = some y) : Met l yX0_costOf wuX0_costOf ({ frames := 4, cells := 0, slots := 0, locals := 113 }) (va_Pc [.ref (ad a), .int p0, .int p1, .int p2, .int p3, .int p4] (kB D ct ad Z G M sz)) (va_Qi (fun (q : Int32) (_ : Unit) => q = y.2) (fun _ t => kE D ct ad G (wA ad G sz) y.1 t) (wA ad G sz)) 0 0 (wA ad G sz) := by
  refine Met.ofW (cc := cX0_costOf) (maxL := 7) (ret := (some .int)) (by decide) rfl ?_
  intro p e s m args below meth c s₁ B hml hv
  obtain ⟨rfl, hsz, hP, hK, hD0, hZ, hN⟩ := hv
  have hx := B.exec
  have hb := B.bytes
  have hr := B.returns
  have hts := atoms_spec (ws := wuX0_costOf) B.pre
  have hown : s.vm.findClass RX0 = some m.cls := findClass_of_methodNamed B.named
  have hlocks := B.notSynchronized
  subst hsz
  have hD := wD_self (sz := s.heap.size) hD0
  have hA9 : ∀ q, s.heap.size ≤ q → wA ad G s.heap.size q := fun q h => Or.inr h
  generalize hAe : wA ad G s.heap.size = A at hD hA9 hZ ⊢
  have hS : va_S A s.heap s.heap [] := va_S.rf
  have hl := lv_entry ([.ref (ad a), .int p0, .int p1, .int p2, .int p3, .int p4]) (n := 7) (Nat.le_of_ble_eq_true rfl)
  rw [lg_entry_eq]
  generalize (lg_sl ([.ref (ad a), .int p0, .int p1, .int p2, .int p3, .int p4]) ++ List.replicate (7 - (lg_sl ([.ref (ad a), .int p0, .int p1, .int p2, .int p3, .int p4])).length) Slot.unset).toArray = ls at hl ⊢
  have hl : lv_has ls 7 [(0, .ref (ad a)), (1, .int p0), (2, .int p1), (3, .int p2), (4, .int p3), (5, .int p4)] := hl
  unfold FX0_costOf at hF
  refine lv_iload hx hb dX0_costOf_0 (lv_at hl 4 rfl) ?_
  refine lv_sipush (v := (-2048 : Int32)) hx hb dX0_costOf_2 (by decide) ?_
  refine lv_icmp_lt (tgt := 32) hx hb dX0_costOf_5 (by decide) (fun c1 => ?_) (fun c1 => ?_)
  · rw [if_pos c1] at hF
    refine lv_ldcw (v := (2147483647 : Int32)) hx hb hown (hts (.constant RX0 435 (2147483647 : Int32)) (mu mw_2529)) dX0_costOf_32 ?_
    obtain rfl := Option.some.inj hF
    exact W.iret (v := (2147483647 : Int32)) hx hb hr (fun t ht hW => ⟨⟨_, (), rfl, rfl, ⟨by rw [ht]; exact hP, va_K.moved hW.alike hK, hD⟩⟩, hS.F ht⟩) hS.2.2 dX0_costOf_35
  · rw [if_neg c1] at hF
    refine lv_iload hx hb dX0_costOf_8 (lv_at hl 4 rfl) ?_
    refine lv_sipush (v := (2047 : Int32)) hx hb dX0_costOf_10 (by decide) ?_
    refine lv_icmp_gt (tgt := 32) hx hb dX0_costOf_13 (by decide) (fun c2 => ?_) (fun c2 => ?_)
    · rw [if_pos c2] at hF
      refine lv_ldcw (v := (2147483647 : Int32)) hx hb hown (hts (.constant RX0 435 (2147483647 : Int32)) (mu mw_2529)) dX0_costOf_32 ?_
      obtain rfl := Option.some.inj hF
      exact W.iret (v := (2147483647 : Int32)) hx hb hr (fun t ht hW => ⟨⟨_, (), rfl, rfl, ⟨by rw [ht]; exact hP, va_K.moved hW.alike hK, hD⟩⟩, hS.F ht⟩) hS.2.2 dX0_costOf_35
    · rw [if_neg c2] at hF
      refine lv_iload hx hb dX0_costOf_16 (lv_at hl 5 rfl) ?_
      refine lv_sipush (v := (-2048 : Int32)) hx hb dX0_costOf_18 (by decide) ?_
      refine lv_icmp_lt (tgt := 32) hx hb dX0_costOf_21 (by decide) (fun c3 => ?_) (fun c3 => ?_)
      · rw [if_pos c3] at hF
        refine lv_ldcw (v := (2147483647 : Int32)) hx hb hown (hts (.constant RX0 435 (2147483647 : Int32)) (mu mw_2529)) dX0_costOf_32 ?_
        obtain rfl := Option.some.inj hF
        exact W.iret (v := (2147483647 : Int32)) hx hb hr (fun t ht hW => ⟨⟨_, (), rfl, rfl, ⟨by rw [ht]; exact hP, va_K.moved hW.alike hK, hD⟩⟩, hS.F ht⟩) hS.2.2 dX0_costOf_35
      · rw [if_neg c3] at hF
        refine lv_iload hx hb dX0_costOf_24 (lv_at hl 5 rfl) ?_
        refine lv_sipush (v := (2047 : Int32)) hx hb dX0_costOf_26 (by decide) ?_
        refine lv_icmp_le (tgt := 36) hx hb dX0_costOf_29 (by decide) (fun c4 => ?_) (fun c4 => ?_)
        · rw [if_pos c4] at hF
          refine lv_aload_n hx hb dX0_costOf_36 rfl (lv_at hl 0 rfl) ?_
          refine va_get (D := D) (ci := 0) (v := va_re ad (M.2 a 4)) (C := RX0) (T := TX0) (N := 21) hx hb hts (mus hf_X0) hown hK hP a (wld_o ct ad G M hc hk (by decide)) rfl 4 (by decide) (hts (.fieldLink RX0 43 "VideoSuite$Coder" "samples" "LVideoSuite$Samples;") (mu mw_818)) (fun _ h9 => h9) rfl dX0_costOf_37 ?_
          obtain ⟨b5, ho5, hc5, hk5, hF⟩ := dr_some hF
          refine W_st (st' := [.ref (ad b5)]) (by rw [va_some ho5]) ?_
          refine va_get (D := D) (ci := 6) (v := va_re ad (M.2 b5 5)) (C := RX6) (T := TX6) (N := 14) hx hb hts (mus hf_X6) hown hK hP b5 (wld_o ct ad G M hc5 hk5 (by decide)) rfl 5 (by decide) (hts (.fieldLink RX0 491 "VideoSuite$Samples" "motion" "[I") (mu mw_541)) (fun _ h9 => h9) rfl dX0_costOf_40 ?_
          refine lv_astoreq (lv' := [(6, va_re ad (M.2 b5 5)), (0, .ref (ad a)), (1, .int p0), (2, .int p1), (3, .int p2), (4, .int p3), (5, .int p4)]) hx hb dX0_costOf_43 hl (by decide) rfl (fun ls hl => ?_)
          refine lv_aloadq hx hb dX0_costOf_45 (lv_at hl 0 rfl) ?_
          refine lv_iconst (v := (3 : Int32)) hx hb dX0_costOf_47 (by decide) ?_
          refine lv_iconst (v := (3 : Int32)) hx hb dX0_costOf_48 (by decide) ?_
          refine lv_iload_n hx hb dX0_costOf_49 rfl (lv_at hl 3 rfl) ?_
          refine lv_imul hx hb dX0_costOf_50 ?_
          obtain ⟨x6, ex6, hF⟩ := ltt_some hF
          refine lv_topi (fun zx6 ezx6 => ?_)
          obtain rfl : x6 = zx6 := ex6.trans ezx6.symm
          refine lv_isub hx hb dX0_costOf_51 ?_
          obtain ⟨x7, ex7, hF⟩ := ltt_some hF
          refine lv_topi (fun zx7 ezx7 => ?_)
          obtain rfl : x7 = zx7 := ex7.trans ezx7.symm
          refine lv_iconst (v := (-1 : Int32)) hx hb dX0_costOf_52 (by decide) ?_
          obtain ⟨b8, ho8, hc8, hk8, hF⟩ := dr_some hF
          refine W_st (st' := [.int (-1 : Int32), .int x7, .ref (ad b8)]) (by rw [va_some ho8]) ?_
          obtain ⟨hvc, hF⟩ := chk_some hF
          refine va_iast hx hb hK hP hD hS b8 1 (wld_i ct ad G M hc8 hk8) rfl hvc dX0_costOf_53 (fun H locs hP hD hS => ?_)
          obtain ⟨M9, eM9, hF⟩ := ltt_some hF
          rw [set_i ct ad G M hc8 hk8, ← eM9] at hP hD
          refine lv_aloadq hx hb dX0_costOf_54 (lv_at hl 0 rfl) ?_
          refine lv_iconst (v := (3 : Int32)) hx hb dX0_costOf_56 (by decide) ?_
          refine lv_iload_n hx hb dX0_costOf_57 rfl (lv_at hl 3 rfl) ?_
          refine lv_imul hx hb dX0_costOf_58 ?_
          obtain ⟨x10, ex10, hF⟩ := ltt_some hF
          refine lv_topi (fun zx10 ezx10 => ?_)
          obtain rfl : x10 = zx10 := ex10.trans ezx10.symm
          refine lv_iload_n hx hb dX0_costOf_59 rfl (lv_at hl 4 rfl) ?_
          refine W_st (st' := [.int p2, .int x10, .ref (ad b8)]) (by rw [va_some ho8]) ?_
          obtain ⟨hvc, hF⟩ := chk_some hF
          refine va_iast hx hb hK hP hD hS b8 1 (wld_i ct ad G M9 hc8 hk8) rfl hvc dX0_costOf_60 (fun H locs hP hD hS => ?_)
          obtain ⟨M11, eM11, hF⟩ := ltt_some hF
          rw [set_i ct ad G M9 hc8 hk8, ← eM11] at hP hD
          refine lv_aloadq hx hb dX0_costOf_61 (lv_at hl 0 rfl) ?_
          refine lv_iconst (v := (3 : Int32)) hx hb dX0_costOf_63 (by decide) ?_
          refine lv_iload_n hx hb dX0_costOf_64 rfl (lv_at hl 3 rfl) ?_
          refine lv_imul hx hb dX0_costOf_65 ?_
          obtain ⟨x12, ex12, hF⟩ := ltt_some hF
          refine lv_topi (fun zx12 ezx12 => ?_)
          obtain rfl : x12 = zx12 := ex12.trans ezx12.symm
          refine lv_iconst (v := (1 : Int32)) hx hb dX0_costOf_66 (by decide) ?_
          refine lv_iadd hx hb dX0_costOf_67 ?_
          obtain ⟨x13, ex13, hF⟩ := ltt_some hF
          refine lv_topi (fun zx13 ezx13 => ?_)
          obtain rfl : x13 = zx13 := ex13.trans ezx13.symm
          refine lv_iload hx hb dX0_costOf_68 (lv_at hl 5 rfl) ?_
          refine W_st (st' := [.int p3, .int x13, .ref (ad b8)]) (by rw [va_some ho8]) ?_
          obtain ⟨hvc, hF⟩ := chk_some hF
          refine va_iast hx hb hK hP hD hS b8 1 (wld_i ct ad G M11 hc8 hk8) rfl hvc dX0_costOf_70 (fun H locs hP hD hS => ?_)
          obtain ⟨M14, eM14, hF⟩ := ltt_some hF
          rw [set_i ct ad G M11 hc8 hk8, ← eM14] at hP hD
          refine lv_aloadq hx hb dX0_costOf_71 (lv_at hl 0 rfl) ?_
          refine lv_iconst (v := (3 : Int32)) hx hb dX0_costOf_73 (by decide) ?_
          refine lv_iload_n hx hb dX0_costOf_74 rfl (lv_at hl 3 rfl) ?_
          refine lv_imul hx hb dX0_costOf_75 ?_
          obtain ⟨x15, ex15, hF⟩ := ltt_some hF
          refine lv_topi (fun zx15 ezx15 => ?_)
          obtain rfl : x15 = zx15 := ex15.trans ezx15.symm
          refine lv_iconst (v := (2 : Int32)) hx hb dX0_costOf_76 (by decide) ?_
          refine lv_iadd hx hb dX0_costOf_77 ?_
          obtain ⟨x16, ex16, hF⟩ := ltt_some hF
          refine lv_topi (fun zx16 ezx16 => ?_)
          obtain rfl : x16 = zx16 := ex16.trans ezx16.symm
          refine lv_iload hx hb dX0_costOf_78 (lv_at hl 6 rfl) ?_
          refine W_st (st' := [.int p4, .int x16, .ref (ad b8)]) (by rw [va_some ho8]) ?_
          obtain ⟨hvc, hF⟩ := chk_some hF
          refine va_iast hx hb hK hP hD hS b8 1 (wld_i ct ad G M14 hc8 hk8) rfl hvc dX0_costOf_80 (fun H locs hP hD hS => ?_)
          obtain ⟨M17, eM17, hF⟩ := ltt_some hF
          rw [set_i ct ad G M14 hc8 hk8, ← eM17] at hP hD
          refine lv_aload_n hx hb dX0_costOf_81 rfl (lv_at hl 1 rfl) ?_
          refine va_get (D := D) (ci := 0) (v := va_re ad (M17.2 a 4)) (C := RX0) (T := TX0) (N := 21) hx hb hts (mus hf_X0) hown hK hP a (wld_o ct ad G M17 hc hk (by decide)) rfl 4 (by decide) (hts (.fieldLink RX0 43 "VideoSuite$Coder" "samples" "LVideoSuite$Samples;") (mu mw_818)) (fun _ h9 => h9) rfl dX0_costOf_82 ?_
          refine lv_aload_n hx hb dX0_costOf_85 rfl (lv_at hl 1 rfl) ?_
          refine va_get (D := D) (ci := 0) (v := va_re ad (M17.2 a 3)) (C := RX0) (T := TX0) (N := 21) hx hb hts (mus hf_X0) hown hK hP a (wld_o ct ad G M17 hc hk (by decide)) rfl 3 (by decide) (hts (.fieldLink RX0 36 "VideoSuite$Coder" "work" "LVideoSuite$Work;") (mu mw_817)) (fun _ h9 => h9) rfl dX0_costOf_86 ?_
          refine lv_iload_n hx hb dX0_costOf_89 rfl (lv_at hl 2 rfl) ?_
          refine lv_iconst (v := (0 : Int32)) hx hb dX0_costOf_90 (by decide) ?_
          refine lv_bipush (v := (16 : Int32)) hx hb dX0_costOf_91 (by decide) ?_
          refine lv_iconst (v := (0 : Int32)) hx hb dX0_costOf_93 (by decide) ?_
          obtain ⟨b18, ho18, hc18, hk18, hF⟩ := dr_some hF
          refine W_st (st' := [.int (0 : Int32), .int (16 : Int32), .int (0 : Int32), .int p0, va_re ad (M17.2 a 3), .ref (ad b18)]) (by rw [va_some ho18]) ?_
          obtain ⟨y19, hy19, hF⟩ := bnd_some hF
          have hf9 := wA_in hD hA9 hS
          refine va_callv (va_runV (As := [va_re ad (M17.2 a 3), .int p0, .int (0 : Int32), .int (16 : Int32), .int (0 : Int32)]) (rest := []) ⟨hx, hb, hml, hown, hts⟩ (kX6_predictRegion l D ct ad Z G M17 H.size b18 ((M17.2 a 3)) p0 ((0 : Int32)) ((16 : Int32)) ((0 : Int32)) y19 hc18 hk18 hy19) (cwV 5 hts gX0_costOf_X6_predictRegion rfl rfl rfl (by decide +kernel) ⟨Nat.le_of_ble_eq_true rfl, Nat.le_of_ble_eq_true rfl⟩) ⟨fun a U g mk q => by obtain ⟨q0, q1, qP, qK, qD, qZ, qN⟩ := q; exact ⟨q0, q1, qP, va_K.moved (u := U) (U := U.calling g mk a) (Vm.Alike.refl U.vm) qK, qD, sF.moved (u := U) (U := U.calling g mk a) (Vm.Alike.refl U.vm) qZ, nF.same rfl qN⟩, va_recv hK hP (ci := 6) (q0 := b18) rfl (wld_o ct ad G M17 hc18 hk18 (by decide)), fun U hU hW => ⟨rfl, by rw [hU], by rw [hU]; exact hP, va_K.moved hW.alike hK, hD.weaken (fun _ _ _ _ => trivial), by rw [hU]; exact ((hZ.kept hS.2.1).narrow hf9).moved hW.alike, hN.warm hW⟩⟩ rfl rfl hl.1 rfl (lv_room (Nat.le_of_ble_eq_true rfl)) dX0_costOf_94 ⟨(Nat.zero_le _), (Nat.zero_le _)⟩) hS (fun q _ h => hf9 q h) hf9 (fun u t H locs ht hvm hw hB hz1 hk1 hS => ?_)
          obtain ⟨hP, hK9, hD9⟩ := hB
          rw [ht] at hP
          have hD := hD9.weaken (fun _ q _ h => hf9 q.1 h)
          refine lv_aload_n hx hb dX0_costOf_97 rfl (lv_at hl 1 rfl) ?_
          refine va_get (D := D) (ci := 0) (v := va_re ad (y19.2 a 4)) (C := RX0) (T := TX0) (N := 21) hx hb hts (mus hf_X0) hown hK hP a (wld_o ct ad G y19 hc hk (by decide)) rfl 4 (by decide) (hts (.fieldLink RX0 43 "VideoSuite$Coder" "samples" "LVideoSuite$Samples;") (mu mw_818)) (fun _ h9 => h9) rfl dX0_costOf_98 ?_
          refine lv_aload_n hx hb dX0_costOf_101 rfl (lv_at hl 1 rfl) ?_
          refine va_get (D := D) (ci := 0) (v := va_re ad (y19.2 a 3)) (C := RX0) (T := TX0) (N := 21) hx hb hts (mus hf_X0) hown hK hP a (wld_o ct ad G y19 hc hk (by decide)) rfl 3 (by decide) (hts (.fieldLink RX0 36 "VideoSuite$Coder" "work" "LVideoSuite$Work;") (mu mw_817)) (fun _ h9 => h9) rfl dX0_costOf_102 ?_
          refine lv_aload_n hx hb dX0_costOf_105 rfl (lv_at hl 1 rfl) ?_
          refine va_get (D := D) (ci := 0) (v := va_re ad (y19.2 a 9)) (C := RX0) (T := TX0) (N := 21) hx hb hts (mus hf_X0) hown hK hP a (wld_o ct ad G y19 hc hk (by decide)) rfl 9 (by decide) (hts (.fieldLink RX0 69 "VideoSuite$Coder" "source" "[[I") (mu mw_823)) (fun _ h9 => h9) rfl dX0_costOf_106 ?_
          refine lv_iconst (v := (0 : Int32)) hx hb dX0_costOf_109 (by decide) ?_
          obtain ⟨b20, ho20, hc20, hk20, hF⟩ := dr_some hF
          refine W_st (st' := [.int (0 : Int32), .ref (ad b20), va_re ad (y19.2 a 3), va_re ad (y19.2 a 4)]) (by rw [va_some ho20]) ?_
          obtain ⟨hvc, hF⟩ := chk_some hF
          refine ld_g hx hb hK hP hc20 hk20 hvc dX0_costOf_110 ?_
          refine lv_iload_n hx hb dX0_costOf_111 rfl (lv_at hl 2 rfl) ?_
          refine lv_iconst (v := (0 : Int32)) hx hb dX0_costOf_112 (by decide) ?_
          refine lv_bipush (v := (16 : Int32)) hx hb dX0_costOf_113 (by decide) ?_
          obtain ⟨b21, ho21, hc21, hk21, hF⟩ := dr_some hF
          refine W_st (st' := [.int (16 : Int32), .int (0 : Int32), .int p0, va_re ad (y19.2 b20 ((0 : Int32)).toNatClampNeg), va_re ad (y19.2 a 3), .ref (ad b21)]) (by rw [va_some ho21]) ?_
          obtain ⟨y22, hy22, hF⟩ := bnd_some hF
          have hf9 := wA_in hD hA9 hS
          refine va_calli (va_runV (As := [va_re ad (y19.2 a 3), va_re ad (y19.2 b20 ((0 : Int32)).toNatClampNeg), .int p0, .int (0 : Int32), .int (16 : Int32)]) (rest := []) ⟨hx, hb, hml, hown, hts⟩ (kX6_differences l D ct ad Z G y19 H.size b21 ((y19.2 a 3)) ((y19.2 b20 ((0 : Int32)).toNatClampNeg)) p0 ((0 : Int32)) ((16 : Int32)) y22 hc21 hk21 hy22) (cwV 5 hts gX0_costOf_X6_differences rfl rfl rfl (by decide +kernel) ⟨Nat.le_of_ble_eq_true rfl, Nat.le_of_ble_eq_true rfl⟩) ⟨fun a U g mk q => by obtain ⟨q0, q1, qP, qK, qD, qZ, qN⟩ := q; exact ⟨q0, q1, qP, va_K.moved (u := U) (U := U.calling g mk a) (Vm.Alike.refl U.vm) qK, qD, sF.moved (u := U) (U := U.calling g mk a) (Vm.Alike.refl U.vm) qZ, nF.same rfl qN⟩, va_recv hK hP (ci := 6) (q0 := b21) rfl (wld_o ct ad G y19 hc21 hk21 (by decide)), fun U hU hW => ⟨rfl, by rw [hU], by rw [hU]; exact hP, va_K.moved hW.alike hK, hD.weaken (fun _ _ _ _ => trivial), by rw [hU]; exact ((hZ.kept hS.2.1).narrow hf9).moved hW.alike, hN.warm hW⟩⟩ rfl rfl hl.1 rfl (lv_room (Nat.le_of_ble_eq_true rfl)) dX0_costOf_115 ⟨(Nat.zero_le _), (Nat.zero_le _)⟩) hS (fun q _ h => hf9 q h) hf9 (fun r u t H locs ht hvm hw hB hz1 hk1 hS => ?_)
          obtain ⟨hP, hK9, hD9⟩ := hB
          rw [ht] at hP
          try dsimp only at hw
          subst hw
          have hD := hD9.weaken (fun _ q _ h => hf9 q.1 h)
          refine lv_aload_n hx hb dX0_costOf_118 rfl (lv_at hl 1 rfl) ?_
          obtain ⟨y23, hy23, hF⟩ := bnd_some hF
          have hf9 := wA_in hD hA9 hS
          refine va_calli (va_runV (As := []) (rest := [.int y22.2]) ⟨hx, hb, hml, hown, hts⟩ (kX0_priceOfBit l D ct ad Z G y22.1 H.size a y23 hc hk hy23) (cwV 0 hts gX0_costOf_X0_priceOfBit rfl rfl rfl (by decide +kernel) ⟨Nat.le_of_ble_eq_true rfl, Nat.le_of_ble_eq_true rfl⟩) ⟨fun a U g mk q => by obtain ⟨q0, q1, qP, qK, qD, qZ, qN⟩ := q; exact ⟨q0, q1, qP, va_K.moved (u := U) (U := U.calling g mk a) (Vm.Alike.refl U.vm) qK, qD, sF.moved (u := U) (U := U.calling g mk a) (Vm.Alike.refl U.vm) qZ, nF.same rfl qN⟩, va_recv hK hP (ci := 0) (q0 := a) rfl (wld_o ct ad G y22.1 hc hk (by decide)), fun U hU hW => ⟨rfl, by rw [hU], by rw [hU]; exact hP, va_K.moved hW.alike hK, hD.weaken (fun _ _ _ _ => trivial), by rw [hU]; exact ((hZ.kept hS.2.1).narrow hf9).moved hW.alike, hN.warm hW⟩⟩ rfl rfl hl.1 rfl (lv_room (Nat.le_of_ble_eq_true rfl)) dX0_costOf_119 ⟨(Nat.zero_le _), (Nat.zero_le _)⟩) hS (fun q _ h => hf9 q h) hf9 (fun r u t H locs ht hvm hw hB hz1 hk1 hS => ?_)
          obtain ⟨hP, hK9, hD9⟩ := hB
          rw [ht] at hP
          try dsimp only at hw
          subst hw
          have hD := hD9.weaken (fun _ q _ h => hf9 q.1 h)
          refine lv_aload_n hx hb dX0_costOf_122 rfl (lv_at hl 1 rfl) ?_
          refine lv_iload_n hx hb dX0_costOf_123 rfl (lv_at hl 3 rfl) ?_
          refine lv_iload_n hx hb dX0_costOf_124 rfl (lv_at hl 4 rfl) ?_
          refine lv_iload hx hb dX0_costOf_125 (lv_at hl 5 rfl) ?_
          refine lv_iload hx hb dX0_costOf_127 (lv_at hl 6 rfl) ?_
          obtain ⟨y24, hy24, hF⟩ := bnd_some hF
          have hf9 := wA_in hD hA9 hS
          refine va_calli (va_runV (As := [.int p1, .int p2, .int p3, .int p4]) (rest := [.int y23.2, .int y22.2]) ⟨hx, hb, hml, hown, hts⟩ (kX0_bitsOf l D ct ad Z G y23.1 H.size a p1 p2 p3 p4 y24 hc hk hy24) (cwV 4 hts gX0_costOf_X0_bitsOf rfl rfl rfl (by decide +kernel) ⟨Nat.le_of_ble_eq_true rfl, Nat.le_of_ble_eq_true rfl⟩) ⟨fun a U g mk q => by obtain ⟨q0, q1, qP, qK, qD, qZ, qN⟩ := q; exact ⟨q0, q1, qP, va_K.moved (u := U) (U := U.calling g mk a) (Vm.Alike.refl U.vm) qK, qD, sF.moved (u := U) (U := U.calling g mk a) (Vm.Alike.refl U.vm) qZ, nF.same rfl qN⟩, va_recv hK hP (ci := 0) (q0 := a) rfl (wld_o ct ad G y23.1 hc hk (by decide)), fun U hU hW => ⟨rfl, by rw [hU], by rw [hU]; exact hP, va_K.moved hW.alike hK, hD.weaken (fun _ _ _ _ => trivial), by rw [hU]; exact ((hZ.kept hS.2.1).narrow hf9).moved hW.alike, hN.warm hW⟩⟩ rfl rfl hl.1 rfl (lv_room (Nat.le_of_ble_eq_true rfl)) dX0_costOf_129 ⟨(Nat.zero_le _), (Nat.zero_le _)⟩) hS (fun q _ h => hf9 q h) hf9 (fun r u t H locs ht hvm hw hB hz1 hk1 hS => ?_)
          obtain ⟨hP, hK9, hD9⟩ := hB
          rw [ht] at hP
          try dsimp only at hw
          subst hw
          have hD := hD9.weaken (fun _ q _ h => hf9 q.1 h)
          refine lv_imul hx hb dX0_costOf_132 ?_
          obtain ⟨x25, ex25, hF⟩ := ltt_some hF
          refine lv_topi (fun zx25 ezx25 => ?_)
          obtain rfl : x25 = zx25 := ex25.trans ezx25.symm
          refine lv_iadd hx hb dX0_costOf_133 ?_
          obtain ⟨x26, ex26, hF⟩ := ltt_some hF
          refine lv_topi (fun zx26 ezx26 => ?_)
          obtain rfl : x26 = zx26 := ex26.trans ezx26.symm
          obtain rfl := Option.some.inj hF
          exact W.iret (v := x26) hx hb hr (fun t ht hW => ⟨⟨_, (), rfl, rfl, ⟨by rw [ht]; exact hP, va_K.moved hW.alike hK, hD⟩⟩, hS.F ht⟩) hS.2.2 dX0_costOf_134
        · rw [if_neg c4] at hF
          refine lv_ldcw (v := (2147483647 : Int32)) hx hb hown (hts (.constant RX0 435 (2147483647 : Int32)) (mu mw_2529)) dX0_costOf_32 ?_
          obtain rfl := Option.some.inj hF
          exact W.iret (v := (2147483647 : Int32)) hx hb hr (fun t ht hW => ⟨⟨_, (), rfl, rfl, ⟨by rw [ht]; exact hP, va_K.moved hW.alike hK, hD⟩⟩, hS.F ht⟩) hS.2.2 dX0_costOf_35
set_option maxRecDepth 20000 in
theorem gX0_costOfBoth_X6_predictRegion : GoodIn wuX0_costOfBoth (wsV RX0 494 RX6 yX6_predictRegion wuX6_predictRegion) := gu_V mw_2538 mw_2011 mw_2012 mw_172 mw_2013
set_option maxRecDepth 20000 in
set_option maxRecDepth 20000 in
theorem gX0_costOfBoth_X6_differences : GoodIn wuX0_costOfBoth (wsV RX0 452 RX6 yX6_differences wuX6_differences) := gu_V mw_2539 mw_2540 mw_2541 mw_172 mw_2542
set_option maxRecDepth 20000 in
set_option maxRecDepth 20000 in
theorem gX0_costOfBoth_X0_priceOfBit : GoodIn wuX0_costOfBoth (wsV RX0 456 RX0 yX0_priceOfBit wuX0_priceOfBit) := gu_V mw_2543 mw_2545 mw_132 mw_175 mw_2546
theorem dX0_costOfBoth_0 : decode cX0_costOfBoth 0 = .ok (.aload_n 0, 1) := by decide +kernel
theorem dX0_costOfBoth_1 : decode cX0_costOfBoth 1 = .ok (.getfield 75, 3) := by decide +kernel
theorem dX0_costOfBoth_4 : decode cX0_costOfBoth 4 = .ok (.iconst 0, 1) := by decide +kernel
theorem dX0_costOfBoth_5 : decode cX0_costOfBoth 5 = .ok (.iaload, 1) := by decide +kernel
theorem dX0_costOfBoth_6 : decode cX0_costOfBoth 6 = .ok (.ldc_w 435, 3) := by decide +kernel
theorem dX0_costOfBoth_9 : decode cX0_costOfBoth 9 = .ok (.if_icmp .eq 15, 3) := by decide +kernel
theorem dX0_costOfBoth_12 : decode cX0_costOfBoth 12 = .ok (.aload_n 0, 1) := by decide +kernel
theorem dX0_costOfBoth_13 : decode cX0_costOfBoth 13 = .ok (.getfield 75, 3) := by decide +kernel
theorem dX0_costOfBoth_16 : decode cX0_costOfBoth 16 = .ok (.iconst 5, 1) := by decide +kernel
theorem dX0_costOfBoth_17 : decode cX0_costOfBoth 17 = .ok (.iaload, 1) := by decide +kernel
theorem dX0_costOfBoth_18 : decode cX0_costOfBoth 18 = .ok (.ldc_w 435, 3) := by decide +kernel
theorem dX0_costOfBoth_21 : decode cX0_costOfBoth 21 = .ok (.if_icmp .ne 7, 3) := by decide +kernel
theorem dX0_costOfBoth_24 : decode cX0_costOfBoth 24 = .ok (.ldc_w 435, 3) := by decide +kernel
theorem dX0_costOfBoth_27 : decode cX0_costOfBoth 27 = .ok (.ireturn, 1) := by decide +kernel
theorem dX0_costOfBoth_28 : decode cX0_costOfBoth 28 = .ok (.iconst 0, 1) := by decide +kernel
theorem dX0_costOfBoth_29 : decode cX0_costOfBoth 29 = .ok (.istore_n 2, 1) := by decide +kernel
theorem dX0_costOfBoth_30 : decode cX0_costOfBoth 30 = .ok (.iload_n 2, 1) := by decide +kernel
theorem dX0_costOfBoth_31 : decode cX0_costOfBoth 31 = .ok (.iconst 2, 1) := by decide +kernel
theorem dX0_costOfBoth_32 : decode cX0_costOfBoth 32 = .ok (.if_icmp .ge 32, 3) := by decide +kernel
theorem dX0_costOfBoth_35 : decode cX0_costOfBoth 35 = .ok (.aload_n 0, 1) := by decide +kernel
theorem dX0_costOfBoth_36 : decode cX0_costOfBoth 36 = .ok (.getfield 75, 3) := by decide +kernel
theorem dX0_costOfBoth_39 : decode cX0_costOfBoth 39 = .ok (.iconst 5, 1) := by decide +kernel
theorem dX0_costOfBoth_40 : decode cX0_costOfBoth 40 = .ok (.iload_n 2, 1) := by decide +kernel
theorem dX0_costOfBoth_41 : decode cX0_costOfBoth 41 = .ok (.imul, 1) := by decide +kernel
theorem dX0_costOfBoth_42 : decode cX0_costOfBoth 42 = .ok (.iconst 1, 1) := by decide +kernel
theorem dX0_costOfBoth_43 : decode cX0_costOfBoth 43 = .ok (.iadd, 1) := by decide +kernel
theorem dX0_costOfBoth_44 : decode cX0_costOfBoth 44 = .ok (.aload_n 0, 1) := by decide +kernel
theorem dX0_costOfBoth_45 : decode cX0_costOfBoth 45 = .ok (.getfield 43, 3) := by decide +kernel
theorem dX0_costOfBoth_48 : decode cX0_costOfBoth 48 = .ok (.getfield 491, 3) := by decide +kernel
theorem dX0_costOfBoth_51 : decode cX0_costOfBoth 51 = .ok (.iconst 3, 1) := by decide +kernel
theorem dX0_costOfBoth_52 : decode cX0_costOfBoth 52 = .ok (.iload_n 2, 1) := by decide +kernel
theorem dX0_costOfBoth_53 : decode cX0_costOfBoth 53 = .ok (.imul, 1) := by decide +kernel
theorem dX0_costOfBoth_54 : decode cX0_costOfBoth 54 = .ok (.iconst 3, 1) := by decide +kernel
theorem dX0_costOfBoth_55 : decode cX0_costOfBoth 55 = .ok (.invokestatic 94, 3) := by decide +kernel
theorem dX0_costOfBoth_58 : decode cX0_costOfBoth 58 = .ok (.iinc 2 1, 3) := by decide +kernel
theorem dX0_costOfBoth_61 : decode cX0_costOfBoth 61 = .ok (.goto (-31), 3) := by decide +kernel
theorem dX0_costOfBoth_64 : decode cX0_costOfBoth 64 = .ok (.aload_n 0, 1) := by decide +kernel
theorem dX0_costOfBoth_65 : decode cX0_costOfBoth 65 = .ok (.getfield 43, 3) := by decide +kernel
theorem dX0_costOfBoth_68 : decode cX0_costOfBoth 68 = .ok (.aload_n 0, 1) := by decide +kernel
theorem dX0_costOfBoth_69 : decode cX0_costOfBoth 69 = .ok (.getfield 36, 3) := by decide +kernel
theorem dX0_costOfBoth_72 : decode cX0_costOfBoth 72 = .ok (.iload_n 1, 1) := by decide +kernel
theorem dX0_costOfBoth_73 : decode cX0_costOfBoth 73 = .ok (.iconst 0, 1) := by decide +kernel
theorem dX0_costOfBoth_74 : decode cX0_costOfBoth 74 = .ok (.bipush 16, 2) := by decide +kernel
theorem dX0_costOfBoth_76 : decode cX0_costOfBoth 76 = .ok (.iconst 0, 1) := by decide +kernel
theorem dX0_costOfBoth_77 : decode cX0_costOfBoth 77 = .ok (.invokevirtual 494, 3) := by decide +kernel
theorem dX0_costOfBoth_80 : decode cX0_costOfBoth 80 = .ok (.aload_n 0, 1) := by decide +kernel
theorem dX0_costOfBoth_81 : decode cX0_costOfBoth 81 = .ok (.getfield 43, 3) := by decide +kernel
theorem dX0_costOfBoth_84 : decode cX0_costOfBoth 84 = .ok (.aload_n 0, 1) := by decide +kernel
theorem dX0_costOfBoth_85 : decode cX0_costOfBoth 85 = .ok (.getfield 36, 3) := by decide +kernel
theorem dX0_costOfBoth_88 : decode cX0_costOfBoth 88 = .ok (.aload_n 0, 1) := by decide +kernel
theorem dX0_costOfBoth_89 : decode cX0_costOfBoth 89 = .ok (.getfield 69, 3) := by decide +kernel
theorem dX0_costOfBoth_92 : decode cX0_costOfBoth 92 = .ok (.iconst 0, 1) := by decide +kernel
theorem dX0_costOfBoth_93 : decode cX0_costOfBoth 93 = .ok (.aaload, 1) := by decide +kernel
theorem dX0_costOfBoth_94 : decode cX0_costOfBoth 94 = .ok (.iload_n 1, 1) := by decide +kernel
theorem dX0_costOfBoth_95 : decode cX0_costOfBoth 95 = .ok (.iconst 0, 1) := by decide +kernel
theorem dX0_costOfBoth_96 : decode cX0_costOfBoth 96 = .ok (.bipush 16, 2) := by decide +kernel
theorem dX0_costOfBoth_98 : decode cX0_costOfBoth 98 = .ok (.invokevirtual 452, 3) := by decide +kernel
theorem dX0_costOfBoth_101 : decode cX0_costOfBoth 101 = .ok (.aload_n 0, 1) := by decide +kernel
theorem dX0_costOfBoth_102 : decode cX0_costOfBoth 102 = .ok (.invokevirtual 456, 3) := by decide +kernel
theorem dX0_costOfBoth_105 : decode cX0_costOfBoth 105 = .ok (.aload_n 0, 1) := by decide +kernel
theorem dX0_costOfBoth_106 : decode cX0_costOfBoth 106 = .ok (.getfield 75, 3) := by decide +kernel
theorem dX0_costOfBoth_109 : decode cX0_costOfBoth 109 = .ok (.iconst 4, 1) := by decide +kernel
theorem dX0_costOfBoth_110 : decode cX0_costOfBoth 110 = .ok (.iaload, 1) := by decide +kernel
theorem dX0_costOfBoth_111 : decode cX0_costOfBoth 111 = .ok (.aload_n 0, 1) := by decide +kernel
theorem dX0_costOfBoth_112 : decode cX0_costOfBoth 112 = .ok (.getfield 75, 3) := by decide +kernel
theorem dX0_costOfBoth_115 : decode cX0_costOfBoth 115 = .ok (.bipush 9, 2) := by decide +kernel
theorem dX0_costOfBoth_117 : decode cX0_costOfBoth 117 = .ok (.iaload, 1) := by decide +kernel
theorem dX0_costOfBoth_118 : decode cX0_costOfBoth 118 = .ok (.iadd, 1) := by decide +kernel
theorem dX0_costOfBoth_119 : decode cX0_costOfBoth 119 = .ok (.imul, 1) := by decide +kernel
theorem dX0_costOfBoth_120 : decode cX0_costOfBoth 120 = .ok (.iadd, 1) := by decide +kernel
theorem dX0_costOfBoth_121 : decode cX0_costOfBoth 121 = .ok (.ireturn, 1) := by decide +kernel
def FX0_costOfBoth (G : GG) (M : DD) (a : Nat) (p0 : Int32) : Option (DD × Int32) :=
  dr G 13 ((M.2 a 20)) fun b2 =>
  chk (¬ (((0 : Int32)) < 0 ∨ G.2.2 b2 ≤ ((0 : Int32)).toNatClampNeg)) <|
  ltt (M.1 b2 ((0 : Int32)).toNatClampNeg) fun x3 =>
  if x3 = ((2147483647 : Int32)) then (some (M, (2147483647 : Int32))) else
  (chk (¬ (((5 : Int32)) < 0 ∨ G.2.2 b2 ≤ ((5 : Int32)).toNatClampNeg)) <|
  ltt (M.1 b2 ((5 : Int32)).toNatClampNeg) fun x5 =>
  if x5 = ((2147483647 : Int32)) then (some (M, (2147483647 : Int32))) else
  (bnd (itr (fun (s8 : Int32 × DD) => ((if ((2 : Int32)) ≤ s8.1 then (some (.inr (s8.1, s8.2))) else
  (ltt ((((5 : Int32)) * s8.1)) fun x24 =>
  ltt ((x24 + ((1 : Int32)))) fun x25 =>
  dr G 6 ((s8.2.2 a 4)) fun b26 =>
  ltt ((((3 : Int32)) * s8.1)) fun x27 =>
  dr G 13 ((s8.2.2 a 20)) fun b28 =>
  dr G 13 ((s8.2.2 b26 5)) fun b29 =>
  chk (¬ x25 < 0 ∧ ¬ x27 < 0 ∧ ¬ ((3 : Int32)) < 0 ∧ x25.toNatClampNeg + ((3 : Int32)).toNatClampNeg ≤ G.2.2 b28 ∧ x27.toNatClampNeg + ((3 : Int32)).toNatClampNeg ≤ G.2.2 b29) <|
  ltt (rI s8.2 b29 (va_cpy (s8.2.1 b28) (s8.2.1 b29) x25.toNatClampNeg x27.toNatClampNeg ((3 : Int32)).toNatClampNeg)) fun M30 =>
  ltt (s8.1 + (1 : Int32)) fun x31 =>
  some (.inl (x31, M30)))) : Option ((Int32 × DD) ⊕ (Int32 × DD)))) 1000000 ((0 : Int32), M)) fun (y7 : Int32 × DD) =>
  dr G 6 ((y7.2.2 a 4)) fun b10 =>
  bnd (FX6_predictRegion G y7.2 b10 ((y7.2.2 a 3)) p0 ((0 : Int32)) ((16 : Int32)) ((0 : Int32))) fun y11 =>
  dr G 15 ((y11.2 a 9)) fun b12 =>
  chk (¬ (((0 : Int32)) < 0 ∨ G.2.2 b12 ≤ ((0 : Int32)).toNatClampNeg)) <|
  dr G 6 ((y11.2 a 4)) fun b13 =>
  bnd (FX6_differences G y11 b13 ((y11.2 a 3)) ((y11.2 b12 ((0 : Int32)).toNatClampNeg)) p0 ((0 : Int32)) ((16 : Int32))) fun y14 =>
  bnd (FX0_priceOfBit G y14.1 a) fun y15 =>
  dr G 13 ((y15.1.2 a 20)) fun b16 =>
  chk (¬ (((4 : Int32)) < 0 ∨ G.2.2 b16 ≤ ((4 : Int32)).toNatClampNeg)) <|
  ltt (y15.1.1 b16 ((4 : Int32)).toNatClampNeg) fun x17 =>
  chk (¬ (((9 : Int32)) < 0 ∨ G.2.2 b16 ≤ ((9 : Int32)).toNatClampNeg)) <|
  ltt (y15.1.1 b16 ((9 : Int32)).toNatClampNeg) fun x18 =>
  ltt ((x17 + x18)) fun x19 =>
  ltt ((y15.2 * x19)) fun x20 =>
  ltt ((y14.2 + x20)) fun x21 =>
  some (y15.1, x21)))
set_option maxHeartbeats 4000000 in
set_option maxRecDepth 100000 in
theorem kX0_costOfBoth (l : Launch) (D : va_G) (ct : CT) (ad : Nat → Nat) (Z : Nat → Nat) (G : GG) (M : DD) (sz : Nat) (a : Nat) (p0 : Int32) (y : DD × Int32) (hc : a < G.1) (hk : G.2.1 a = 0) (hF : FX0_costOfBoth G M a p0 = some y) : Met l yX0_costOfBoth wuX0_costOfBoth ({ frames := 4, cells := 0, slots := 0, locals := 113 }) (va_Pc [.ref (ad a), .int p0] (kB D ct ad Z G M sz)) (va_Qi (fun (q : Int32) (_ : Unit) => q = y.2) (fun _ t => kE D ct ad G (wA ad G sz) y.1 t) (wA ad G sz)) 0 0 (wA ad G sz) := by
  refine Met.ofW (cc := cX0_costOfBoth) (maxL := 3) (ret := (some .int)) (by decide) rfl ?_
  intro p e s m args below meth c s₁ B hml hv
  obtain ⟨rfl, hsz, hP, hK, hD0, hZ, hN⟩ := hv
  have hx := B.exec
  have hb := B.bytes
  have hr := B.returns
  have hts := atoms_spec (ws := wuX0_costOfBoth) B.pre
  have hown : s.vm.findClass RX0 = some m.cls := findClass_of_methodNamed B.named
  have hlocks := B.notSynchronized
  subst hsz
  have hD := wD_self (sz := s.heap.size) hD0
  have hA9 : ∀ q, s.heap.size ≤ q → wA ad G s.heap.size q := fun q h => Or.inr h
  generalize hAe : wA ad G s.heap.size = A at hD hA9 hZ ⊢
  have hS : va_S A s.heap s.heap [] := va_S.rf
  have hl := lv_entry ([.ref (ad a), .int p0]) (n := 3) (Nat.le_of_ble_eq_true rfl)
  rw [lg_entry_eq]
  generalize (lg_sl ([.ref (ad a), .int p0]) ++ List.replicate (3 - (lg_sl ([.ref (ad a), .int p0])).length) Slot.unset).toArray = ls at hl ⊢
  have hl : lv_has ls 3 [(0, .ref (ad a)), (1, .int p0)] := hl
  unfold FX0_costOfBoth at hF
  refine lv_aload_n hx hb dX0_costOfBoth_0 rfl (lv_at hl 0 rfl) ?_
  refine va_get (D := D) (ci := 0) (v := va_re ad (M.2 a 20)) (C := RX0) (T := TX0) (N := 21) hx hb hts (mus hf_X0) hown hK hP a (wld_o ct ad G M hc hk (by decide)) rfl 20 (by decide) (hts (.fieldLink RX0 75 "VideoSuite$Coder" "choice" "[I") (mu mw_838)) (fun _ h9 => h9) rfl dX0_costOfBoth_1 ?_
  refine lv_iconst (v := (0 : Int32)) hx hb dX0_costOfBoth_4 (by decide) ?_
  obtain ⟨b2, ho2, hc2, hk2, hF⟩ := dr_some hF
  refine W_st (st' := [.int (0 : Int32), .ref (ad b2)]) (by rw [va_some ho2]) ?_
  obtain ⟨hvc, hF⟩ := chk_some hF
  refine va_iald hx hb hK hP b2 1 (wld_i ct ad G M hc2 hk2) rfl hvc dX0_costOfBoth_5 ?_
  obtain ⟨x3, ex3, hF⟩ := ltt_some hF
  refine lv_topi (fun zx3 ezx3 => ?_)
  obtain rfl : x3 = zx3 := ex3.trans ezx3.symm
  refine lv_ldcw (v := (2147483647 : Int32)) hx hb hown (hts (.constant RX0 435 (2147483647 : Int32)) (mu mw_2529)) dX0_costOfBoth_6 ?_
  refine lv_icmp_eq (tgt := 24) hx hb dX0_costOfBoth_9 (by decide) (fun c4 => ?_) (fun c4 => ?_)
  · rw [if_pos c4] at hF
    refine lv_ldcw (v := (2147483647 : Int32)) hx hb hown (hts (.constant RX0 435 (2147483647 : Int32)) (mu mw_2529)) dX0_costOfBoth_24 ?_
    obtain rfl := Option.some.inj hF
    exact W.iret (v := (2147483647 : Int32)) hx hb hr (fun t ht hW => ⟨⟨_, (), rfl, rfl, ⟨by rw [ht]; exact hP, va_K.moved hW.alike hK, hD⟩⟩, hS.F ht⟩) hS.2.2 dX0_costOfBoth_27
  · rw [if_neg c4] at hF
    refine lv_aload_n hx hb dX0_costOfBoth_12 rfl (lv_at hl 0 rfl) ?_
    refine va_get (D := D) (ci := 0) (v := va_re ad (M.2 a 20)) (C := RX0) (T := TX0) (N := 21) hx hb hts (mus hf_X0) hown hK hP a (wld_o ct ad G M hc hk (by decide)) rfl 20 (by decide) (hts (.fieldLink RX0 75 "VideoSuite$Coder" "choice" "[I") (mu mw_838)) (fun _ h9 => h9) rfl dX0_costOfBoth_13 ?_
    refine lv_iconst (v := (5 : Int32)) hx hb dX0_costOfBoth_16 (by decide) ?_
    refine W_st (st' := [.int (5 : Int32), .ref (ad b2)]) (by rw [va_some ho2]) ?_
    obtain ⟨hvc, hF⟩ := chk_some hF
    refine va_iald hx hb hK hP b2 1 (wld_i ct ad G M hc2 hk2) rfl hvc dX0_costOfBoth_17 ?_
    obtain ⟨x5, ex5, hF⟩ := ltt_some hF
    refine lv_topi (fun zx5 ezx5 => ?_)
    obtain rfl : x5 = zx5 := ex5.trans ezx5.symm
    refine lv_ldcw (v := (2147483647 : Int32)) hx hb hown (hts (.constant RX0 435 (2147483647 : Int32)) (mu mw_2529)) dX0_costOfBoth_18 ?_
    refine lv_icmp_ne (tgt := 28) hx hb dX0_costOfBoth_21 (by decide) (fun c6 => ?_) (fun c6 => ?_)
    · rw [if_neg c6] at hF
      refine lv_iconst (v := (0 : Int32)) hx hb dX0_costOfBoth_28 (by decide) ?_
      refine lv_istore_n (lv' := [(2, .int (0 : Int32)), (0, .ref (ad a)), (1, .int p0)]) hx hb dX0_costOfBoth_29 rfl hl (by decide) rfl (fun ls hl => ?_)
      obtain ⟨y7, hy7, hF⟩ := bnd_some hF
      have K7 : ∀ (H : Heap) (locs : List Loc) (ls : Array Slot), va_P D classes (wld ct ad G y7.2) H → va_D A (wld ct ad G y7.2) → va_S A s.heap H locs → lv_has ls 3 [(2, .int y7.1), (0, .ref (ad a)), (1, .int p0)] → W p l e (headSpec wuX0_costOfBoth ({ frames := 4, cells := 0, slots := 0, locals := 113 })).room s m ([.ref (ad a), .int p0] : List Value).toArray below meth c H locs 0 0 (MQ below (va_Qi (fun (q : Int32) (_ : Unit) => q = y.2) (fun _ t => kE D ct ad G A y.1 t) A) ([.ref (ad a), .int p0] : List Value).toArray s 0 0 A) (F0 m 64 ls []) := by
        intro H locs ls hP hD hS hl
        refine lv_aload_n hx hb dX0_costOfBoth_64 rfl (lv_at hl 1 rfl) ?_
        refine va_get (D := D) (ci := 0) (v := va_re ad (y7.2.2 a 4)) (C := RX0) (T := TX0) (N := 21) hx hb hts (mus hf_X0) hown hK hP a (wld_o ct ad G y7.2 hc hk (by decide)) rfl 4 (by decide) (hts (.fieldLink RX0 43 "VideoSuite$Coder" "samples" "LVideoSuite$Samples;") (mu mw_818)) (fun _ h9 => h9) rfl dX0_costOfBoth_65 ?_
        refine lv_aload_n hx hb dX0_costOfBoth_68 rfl (lv_at hl 1 rfl) ?_
        refine va_get (D := D) (ci := 0) (v := va_re ad (y7.2.2 a 3)) (C := RX0) (T := TX0) (N := 21) hx hb hts (mus hf_X0) hown hK hP a (wld_o ct ad G y7.2 hc hk (by decide)) rfl 3 (by decide) (hts (.fieldLink RX0 36 "VideoSuite$Coder" "work" "LVideoSuite$Work;") (mu mw_817)) (fun _ h9 => h9) rfl dX0_costOfBoth_69 ?_
        refine lv_iload_n hx hb dX0_costOfBoth_72 rfl (lv_at hl 2 rfl) ?_
        refine lv_iconst (v := (0 : Int32)) hx hb dX0_costOfBoth_73 (by decide) ?_
        refine lv_bipush (v := (16 : Int32)) hx hb dX0_costOfBoth_74 (by decide) ?_
        refine lv_iconst (v := (0 : Int32)) hx hb dX0_costOfBoth_76 (by decide) ?_
        obtain ⟨b10, ho10, hc10, hk10, hF⟩ := dr_some hF
        refine W_st (st' := [.int (0 : Int32), .int (16 : Int32), .int (0 : Int32), .int p0, va_re ad (y7.2.2 a 3), .ref (ad b10)]) (by rw [va_some ho10]) ?_
        obtain ⟨y11, hy11, hF⟩ := bnd_some hF
        have hf9 := wA_in hD hA9 hS
        refine va_callv (va_runV (As := [va_re ad (y7.2.2 a 3), .int p0, .int (0 : Int32), .int (16 : Int32), .int (0 : Int32)]) (rest := []) ⟨hx, hb, hml, hown, hts⟩ (kX6_predictRegion l D ct ad Z G y7.2 H.size b10 ((y7.2.2 a 3)) p0 ((0 : Int32)) ((16 : Int32)) ((0 : Int32)) y11 hc10 hk10 hy11) (cwV 5 hts gX0_costOfBoth_X6_predictRegion rfl rfl rfl (by decide +kernel) ⟨Nat.le_of_ble_eq_true rfl, Nat.le_of_ble_eq_true rfl⟩) ⟨fun a U g mk q => by obtain ⟨q0, q1, qP, qK, qD, qZ, qN⟩ := q; exact ⟨q0, q1, qP, va_K.moved (u := U) (U := U.calling g mk a) (Vm.Alike.refl U.vm) qK, qD, sF.moved (u := U) (U := U.calling g mk a) (Vm.Alike.refl U.vm) qZ, nF.same rfl qN⟩, va_recv hK hP (ci := 6) (q0 := b10) rfl (wld_o ct ad G y7.2 hc10 hk10 (by decide)), fun U hU hW => ⟨rfl, by rw [hU], by rw [hU]; exact hP, va_K.moved hW.alike hK, hD.weaken (fun _ _ _ _ => trivial), by rw [hU]; exact ((hZ.kept hS.2.1).narrow hf9).moved hW.alike, hN.warm hW⟩⟩ rfl rfl hl.1 rfl (lv_room (Nat.le_of_ble_eq_true rfl)) dX0_costOfBoth_77 ⟨(Nat.zero_le _), (Nat.zero_le _)⟩) hS (fun q _ h => hf9 q h) hf9 (fun u t H locs ht hvm hw hB hz1 hk1 hS => ?_)
        obtain ⟨hP, hK9, hD9⟩ := hB
        rw [ht] at hP
        have hD := hD9.weaken (fun _ q _ h => hf9 q.1 h)
        refine lv_aload_n hx hb dX0_costOfBoth_80 rfl (lv_at hl 1 rfl) ?_
        refine va_get (D := D) (ci := 0) (v := va_re ad (y11.2 a 4)) (C := RX0) (T := TX0) (N := 21) hx hb hts (mus hf_X0) hown hK hP a (wld_o ct ad G y11 hc hk (by decide)) rfl 4 (by decide) (hts (.fieldLink RX0 43 "VideoSuite$Coder" "samples" "LVideoSuite$Samples;") (mu mw_818)) (fun _ h9 => h9) rfl dX0_costOfBoth_81 ?_
        refine lv_aload_n hx hb dX0_costOfBoth_84 rfl (lv_at hl 1 rfl) ?_
        refine va_get (D := D) (ci := 0) (v := va_re ad (y11.2 a 3)) (C := RX0) (T := TX0) (N := 21) hx hb hts (mus hf_X0) hown hK hP a (wld_o ct ad G y11 hc hk (by decide)) rfl 3 (by decide) (hts (.fieldLink RX0 36 "VideoSuite$Coder" "work" "LVideoSuite$Work;") (mu mw_817)) (fun _ h9 => h9) rfl dX0_costOfBoth_85 ?_
        refine lv_aload_n hx hb dX0_costOfBoth_88 rfl (lv_at hl 1 rfl) ?_
        refine va_get (D := D) (ci := 0) (v := va_re ad (y11.2 a 9)) (C := RX0) (T := TX0) (N := 21) hx hb hts (mus hf_X0) hown hK hP a (wld_o ct ad G y11 hc hk (by decide)) rfl 9 (by decide) (hts (.fieldLink RX0 69 "VideoSuite$Coder" "source" "[[I") (mu mw_823)) (fun _ h9 => h9) rfl dX0_costOfBoth_89 ?_
        refine lv_iconst (v := (0 : Int32)) hx hb dX0_costOfBoth_92 (by decide) ?_
        obtain ⟨b12, ho12, hc12, hk12, hF⟩ := dr_some hF
        refine W_st (st' := [.int (0 : Int32), .ref (ad b12), va_re ad (y11.2 a 3), va_re ad (y11.2 a 4)]) (by rw [va_some ho12]) ?_
        obtain ⟨hvc, hF⟩ := chk_some hF
        refine ld_g hx hb hK hP hc12 hk12 hvc dX0_costOfBoth_93 ?_
        refine lv_iload_n hx hb dX0_costOfBoth_94 rfl (lv_at hl 2 rfl) ?_
        refine lv_iconst (v := (0 : Int32)) hx hb dX0_costOfBoth_95 (by decide) ?_
        refine lv_bipush (v := (16 : Int32)) hx hb dX0_costOfBoth_96 (by decide) ?_
        obtain ⟨b13, ho13, hc13, hk13, hF⟩ := dr_some hF
        refine W_st (st' := [.int (16 : Int32), .int (0 : Int32), .int p0, va_re ad (y11.2 b12 ((0 : Int32)).toNatClampNeg), va_re ad (y11.2 a 3), .ref (ad b13)]) (by rw [va_some ho13]) ?_
        obtain ⟨y14, hy14, hF⟩ := bnd_some hF
        have hf9 := wA_in hD hA9 hS
        refine va_calli (va_runV (As := [va_re ad (y11.2 a 3), va_re ad (y11.2 b12 ((0 : Int32)).toNatClampNeg), .int p0, .int (0 : Int32), .int (16 : Int32)]) (rest := []) ⟨hx, hb, hml, hown, hts⟩ (kX6_differences l D ct ad Z G y11 H.size b13 ((y11.2 a 3)) ((y11.2 b12 ((0 : Int32)).toNatClampNeg)) p0 ((0 : Int32)) ((16 : Int32)) y14 hc13 hk13 hy14) (cwV 5 hts gX0_costOfBoth_X6_differences rfl rfl rfl (by decide +kernel) ⟨Nat.le_of_ble_eq_true rfl, Nat.le_of_ble_eq_true rfl⟩) ⟨fun a U g mk q => by obtain ⟨q0, q1, qP, qK, qD, qZ, qN⟩ := q; exact ⟨q0, q1, qP, va_K.moved (u := U) (U := U.calling g mk a) (Vm.Alike.refl U.vm) qK, qD, sF.moved (u := U) (U := U.calling g mk a) (Vm.Alike.refl U.vm) qZ, nF.same rfl qN⟩, va_recv hK hP (ci := 6) (q0 := b13) rfl (wld_o ct ad G y11 hc13 hk13 (by decide)), fun U hU hW => ⟨rfl, by rw [hU], by rw [hU]; exact hP, va_K.moved hW.alike hK, hD.weaken (fun _ _ _ _ => trivial), by rw [hU]; exact ((hZ.kept hS.2.1).narrow hf9).moved hW.alike, hN.warm hW⟩⟩ rfl rfl hl.1 rfl (lv_room (Nat.le_of_ble_eq_true rfl)) dX0_costOfBoth_98 ⟨(Nat.zero_le _), (Nat.zero_le _)⟩) hS (fun q _ h => hf9 q h) hf9 (fun r u t H locs ht hvm hw hB hz1 hk1 hS => ?_)
        obtain ⟨hP, hK9, hD9⟩ := hB
        rw [ht] at hP
        try dsimp only at hw
        subst hw
        have hD := hD9.weaken (fun _ q _ h => hf9 q.1 h)
        refine lv_aload_n hx hb dX0_costOfBoth_101 rfl (lv_at hl 1 rfl) ?_
        obtain ⟨y15, hy15, hF⟩ := bnd_some hF
        have hf9 := wA_in hD hA9 hS
        refine va_calli (va_runV (As := []) (rest := [.int y14.2]) ⟨hx, hb, hml, hown, hts⟩ (kX0_priceOfBit l D ct ad Z G y14.1 H.size a y15 hc hk hy15) (cwV 0 hts gX0_costOfBoth_X0_priceOfBit rfl rfl rfl (by decide +kernel) ⟨Nat.le_of_ble_eq_true rfl, Nat.le_of_ble_eq_true rfl⟩) ⟨fun a U g mk q => by obtain ⟨q0, q1, qP, qK, qD, qZ, qN⟩ := q; exact ⟨q0, q1, qP, va_K.moved (u := U) (U := U.calling g mk a) (Vm.Alike.refl U.vm) qK, qD, sF.moved (u := U) (U := U.calling g mk a) (Vm.Alike.refl U.vm) qZ, nF.same rfl qN⟩, va_recv hK hP (ci := 0) (q0 := a) rfl (wld_o ct ad G y14.1 hc hk (by decide)), fun U hU hW => ⟨rfl, by rw [hU], by rw [hU]; exact hP, va_K.moved hW.alike hK, hD.weaken (fun _ _ _ _ => trivial), by rw [hU]; exact ((hZ.kept hS.2.1).narrow hf9).moved hW.alike, hN.warm hW⟩⟩ rfl rfl hl.1 rfl (lv_room (Nat.le_of_ble_eq_true rfl)) dX0_costOfBoth_102 ⟨(Nat.zero_le _), (Nat.zero_le _)⟩) hS (fun q _ h => hf9 q h) hf9 (fun r u t H locs ht hvm hw hB hz1 hk1 hS => ?_)
        obtain ⟨hP, hK9, hD9⟩ := hB
        rw [ht] at hP
        try dsimp only at hw
        subst hw
        have hD := hD9.weaken (fun _ q _ h => hf9 q.1 h)
        refine lv_aload_n hx hb dX0_costOfBoth_105 rfl (lv_at hl 1 rfl) ?_
        refine va_get (D := D) (ci := 0) (v := va_re ad (y15.1.2 a 20)) (C := RX0) (T := TX0) (N := 21) hx hb hts (mus hf_X0) hown hK hP a (wld_o ct ad G y15.1 hc hk (by decide)) rfl 20 (by decide) (hts (.fieldLink RX0 75 "VideoSuite$Coder" "choice" "[I") (mu mw_838)) (fun _ h9 => h9) rfl dX0_costOfBoth_106 ?_
        refine lv_iconst (v := (4 : Int32)) hx hb dX0_costOfBoth_109 (by decide) ?_
        obtain ⟨b16, ho16, hc16, hk16, hF⟩ := dr_some hF
        refine W_st (st' := [.int (4 : Int32), .ref (ad b16), .int y15.2, .int y14.2]) (by rw [va_some ho16]) ?_
        obtain ⟨hvc, hF⟩ := chk_some hF
        refine va_iald hx hb hK hP b16 1 (wld_i ct ad G y15.1 hc16 hk16) rfl hvc dX0_costOfBoth_110 ?_
        obtain ⟨x17, ex17, hF⟩ := ltt_some hF
        refine lv_topi (fun zx17 ezx17 => ?_)
        obtain rfl : x17 = zx17 := ex17.trans ezx17.symm
        refine lv_aload_n hx hb dX0_costOfBoth_111 rfl (lv_at hl 1 rfl) ?_
        refine va_get (D := D) (ci := 0) (v := va_re ad (y15.1.2 a 20)) (C := RX0) (T := TX0) (N := 21) hx hb hts (mus hf_X0) hown hK hP a (wld_o ct ad G y15.1 hc hk (by decide)) rfl 20 (by decide) (hts (.fieldLink RX0 75 "VideoSuite$Coder" "choice" "[I") (mu mw_838)) (fun _ h9 => h9) rfl dX0_costOfBoth_112 ?_
        refine lv_bipush (v := (9 : Int32)) hx hb dX0_costOfBoth_115 (by decide) ?_
        refine W_st (st' := [.int (9 : Int32), .ref (ad b16), .int x17, .int y15.2, .int y14.2]) (by rw [va_some ho16]) ?_
        obtain ⟨hvc, hF⟩ := chk_some hF
        refine va_iald hx hb hK hP b16 1 (wld_i ct ad G y15.1 hc16 hk16) rfl hvc dX0_costOfBoth_117 ?_
        obtain ⟨x18, ex18, hF⟩ := ltt_some hF
        refine lv_topi (fun zx18 ezx18 => ?_)
        obtain rfl : x18 = zx18 := ex18.trans ezx18.symm
        refine lv_iadd hx hb dX0_costOfBoth_118 ?_
        obtain ⟨x19, ex19, hF⟩ := ltt_some hF
        refine lv_topi (fun zx19 ezx19 => ?_)
        obtain rfl : x19 = zx19 := ex19.trans ezx19.symm
        refine lv_imul hx hb dX0_costOfBoth_119 ?_
        obtain ⟨x20, ex20, hF⟩ := ltt_some hF
        refine lv_topi (fun zx20 ezx20 => ?_)
        obtain rfl : x20 = zx20 := ex20.trans ezx20.symm
        refine lv_iadd hx hb dX0_costOfBoth_120 ?_
        obtain ⟨x21, ex21, hF⟩ := ltt_some hF
        refine lv_topi (fun zx21 ezx21 => ?_)
        obtain rfl : x21 = zx21 := ex21.trans ezx21.symm
        obtain rfl := Option.some.inj hF
        exact W.iret (v := x21) hx hb hr (fun t ht hW => ⟨⟨_, (), rfl, rfl, ⟨by rw [ht]; exact hP, va_K.moved hW.alike hK, hD⟩⟩, hS.F ht⟩) hS.2.2 dX0_costOfBoth_121
      clear hF
      refine itr_rule (fun (s8 : Int32 × DD) => ∀ (H : Heap) (locs : List Loc) (ls : Array Slot), va_P D classes (wld ct ad G s8.2) H → va_D A (wld ct ad G s8.2) → va_S A s.heap H locs → lv_has ls 3 [(2, .int s8.1), (0, .ref (ad a)), (1, .int p0)] → W p l e (headSpec wuX0_costOfBoth ({ frames := 4, cells := 0, slots := 0, locals := 113 })).room s m ([.ref (ad a), .int p0] : List Value).toArray below meth c H locs 0 0 (MQ below (va_Qi (fun (q : Int32) (_ : Unit) => q = y.2) (fun _ t => kE D ct ad G A y.1 t) A) ([.ref (ad a), .int p0] : List Value).toArray s 0 0 A) (F0 m 30 ls [])) ?_ _ _ hy7 _ _ _ hP hD hS (lv_sub hl [0, 1, 2] rfl)
      rintro s8 ⟨z22, hF, hwz22⟩ H locs ls hP hD hS hl
      try dsimp only at hF
      refine lv_iload_n hx hb dX0_costOfBoth_30 rfl (lv_at hl 0 rfl) ?_
      refine lv_iconst (v := (2 : Int32)) hx hb dX0_costOfBoth_31 (by decide) ?_
      refine lv_icmp_ge (tgt := 64) hx hb dX0_costOfBoth_32 (by decide) (fun c23 => ?_) (fun c23 => ?_)
      · rw [if_pos c23] at hF
        obtain rfl := Option.some.inj hF
        subst hwz22
        exact K7 _ _ _ hP hD hS (lv_sub hl [0, 1, 2] rfl)
      · rw [if_neg c23] at hF
        refine lv_aload_n hx hb dX0_costOfBoth_35 rfl (lv_at hl 1 rfl) ?_
        refine va_get (D := D) (ci := 0) (v := va_re ad (s8.2.2 a 20)) (C := RX0) (T := TX0) (N := 21) hx hb hts (mus hf_X0) hown hK hP a (wld_o ct ad G s8.2 hc hk (by decide)) rfl 20 (by decide) (hts (.fieldLink RX0 75 "VideoSuite$Coder" "choice" "[I") (mu mw_838)) (fun _ h9 => h9) rfl dX0_costOfBoth_36 ?_
        refine lv_iconst (v := (5 : Int32)) hx hb dX0_costOfBoth_39 (by decide) ?_
        refine lv_iload_n hx hb dX0_costOfBoth_40 rfl (lv_at hl 0 rfl) ?_
        refine lv_imul hx hb dX0_costOfBoth_41 ?_
        obtain ⟨x24, ex24, hF⟩ := ltt_some hF
        refine lv_topi (fun zx24 ezx24 => ?_)
        obtain rfl : x24 = zx24 := ex24.trans ezx24.symm
        refine lv_iconst (v := (1 : Int32)) hx hb dX0_costOfBoth_42 (by decide) ?_
        refine lv_iadd hx hb dX0_costOfBoth_43 ?_
        obtain ⟨x25, ex25, hF⟩ := ltt_some hF
        refine lv_topi (fun zx25 ezx25 => ?_)
        obtain rfl : x25 = zx25 := ex25.trans ezx25.symm
        refine lv_aload_n hx hb dX0_costOfBoth_44 rfl (lv_at hl 1 rfl) ?_
        refine va_get (D := D) (ci := 0) (v := va_re ad (s8.2.2 a 4)) (C := RX0) (T := TX0) (N := 21) hx hb hts (mus hf_X0) hown hK hP a (wld_o ct ad G s8.2 hc hk (by decide)) rfl 4 (by decide) (hts (.fieldLink RX0 43 "VideoSuite$Coder" "samples" "LVideoSuite$Samples;") (mu mw_818)) (fun _ h9 => h9) rfl dX0_costOfBoth_45 ?_
        obtain ⟨b26, ho26, hc26, hk26, hF⟩ := dr_some hF
        refine W_st (st' := [.ref (ad b26), .int x25, va_re ad (s8.2.2 a 20)]) (by rw [va_some ho26]) ?_
        refine va_get (D := D) (ci := 6) (v := va_re ad (s8.2.2 b26 5)) (C := RX6) (T := TX6) (N := 14) hx hb hts (mus hf_X6) hown hK hP b26 (wld_o ct ad G s8.2 hc26 hk26 (by decide)) rfl 5 (by decide) (hts (.fieldLink RX0 491 "VideoSuite$Samples" "motion" "[I") (mu mw_541)) (fun _ h9 => h9) rfl dX0_costOfBoth_48 ?_
        refine lv_iconst (v := (3 : Int32)) hx hb dX0_costOfBoth_51 (by decide) ?_
        refine lv_iload_n hx hb dX0_costOfBoth_52 rfl (lv_at hl 0 rfl) ?_
        refine lv_imul hx hb dX0_costOfBoth_53 ?_
        obtain ⟨x27, ex27, hF⟩ := ltt_some hF
        refine lv_topi (fun zx27 ezx27 => ?_)
        obtain rfl : x27 = zx27 := ex27.trans ezx27.symm
        refine lv_iconst (v := (3 : Int32)) hx hb dX0_costOfBoth_54 (by decide) ?_
        obtain ⟨b28, ho28, hc28, hk28, hF⟩ := dr_some hF
        refine W_st (st' := [.int (3 : Int32), .int x27, va_re ad (s8.2.2 b26 5), .int x25, .ref (ad b28)]) (by rw [va_some ho28]) ?_
        obtain ⟨b29, ho29, hc29, hk29, hF⟩ := dr_some hF
        refine W_st (st' := [.int (3 : Int32), .int x27, .ref (ad b29), .int x25, .ref (ad b28)]) (by rw [va_some ho29]) ?_
        obtain ⟨hv9, hF⟩ := chk_some hF
        refine va_copyi (ty := .int) hx hb (hml.trans hl.1.symm) hown (hts (.methodLink RX0 94 arraycopyName) (mu mw_1115)) (hts (.native arraycopyName) (mu mw_1093)) (hts (.static arraycopyName) (mu mw_1092)) (hts (.initialized "java/lang/System") (mu mw_181)) hK hP hD hS b28 b29 1 1 (wld_i ct ad G s8.2 hc28 hk28) (wld_i ct ad G s8.2 hc29 hk29) rfl rfl rfl hv9.1 hv9.2.1 hv9.2.2.1 hv9.2.2.2.1 hv9.2.2.2.2 (fun _ _ => rfl) (Nat.le_of_ble_eq_true rfl) (by decide +kernel) dX0_costOfBoth_55 (fun H locs hP hD hS => ?_)
        obtain ⟨M30, eM30, hF⟩ := ltt_some hF
        rw [set_ri ct ad G s8.2 hc29 hk29, ← eM30] at hP hD
        obtain ⟨x31, ex31, hF⟩ := ltt_some hF
        refine lv_iinc (v := x31) (lv' := [(2, .int x31), (0, .ref (ad a)), (1, .int p0)]) hx hb dX0_costOfBoth_58 hl (k := 0) rfl (by rw [ex31]; rfl) (by decide) rfl (fun ls hl => ?_)
        refine lv_goto (tgt := 30) hx hb dX0_costOfBoth_61 (by decide) ?_
        obtain rfl := Option.some.inj hF
        exact hwz22 _ _ _ hP hD hS (lv_sub hl [0, 1, 2] rfl)
    · rw [if_pos c6] at hF
      refine lv_ldcw (v := (2147483647 : Int32)) hx hb hown (hts (.constant RX0 435 (2147483647 : Int32)) (mu mw_2529)) dX0_costOfBoth_24 ?_
      obtain rfl := Option.some.inj hF
      exact W.iret (v := (2147483647 : Int32)) hx hb hr (fun t ht hW => ⟨⟨_, (), rfl, rfl, ⟨by rw [ht]; exact hP, va_K.moved hW.alike hK, hD⟩⟩, hS.F ht⟩) hS.2.2 dX0_costOfBoth_27
set_option maxRecDepth 20000 in
theorem gX0_drawMode_X0_draw : GoodIn wuX0_drawMode (wsV RX0 334 RX0 yX0_draw wuX0_draw) := gu_V mw_2470 mw_2472 mw_121 mw_175 mw_2473
set_option maxRecDepth 20000 in
theorem gX0_drawMode_X0_mayBe : GoodIn wuX0_drawMode (va_wsS RX0 349 yX0_mayBe wuX0_mayBe) := gu_S mw_2492 mw_2493 mw_175 mw_2494
set_option maxRecDepth 20000 in
theorem dX0_drawMode_0 : decode cX0_drawMode 0 = .ok (.iconst 0, 1) := by decide +kernel
theorem dX0_drawMode_1 : decode cX0_drawMode 1 = .ok (.istore 4, 2) := by decide +kernel
theorem dX0_drawMode_3 : decode cX0_drawMode 3 = .ok (.iconst 0, 1) := by decide +kernel
theorem dX0_drawMode_4 : decode cX0_drawMode 4 = .ok (.istore 5, 2) := by decide +kernel
theorem dX0_drawMode_6 : decode cX0_drawMode 6 = .ok (.iload 5, 2) := by decide +kernel
theorem dX0_drawMode_8 : decode cX0_drawMode 8 = .ok (.iload_n 2, 1) := by decide +kernel
theorem dX0_drawMode_9 : decode cX0_drawMode 9 = .ok (.if_icmp .ge 29, 3) := by decide +kernel
theorem dX0_drawMode_12 : decode cX0_drawMode 12 = .ok (.iload 4, 2) := by decide +kernel
theorem dX0_drawMode_14 : decode cX0_drawMode 14 = .ok (.iload_n 1, 1) := by decide +kernel
theorem dX0_drawMode_15 : decode cX0_drawMode 15 = .ok (.iload 5, 2) := by decide +kernel
theorem dX0_drawMode_17 : decode cX0_drawMode 17 = .ok (.iload_n 3, 1) := by decide +kernel
theorem dX0_drawMode_18 : decode cX0_drawMode 18 = .ok (.invokestatic 349, 3) := by decide +kernel
theorem dX0_drawMode_21 : decode cX0_drawMode 21 = .ok (.ifCond .eq 7, 3) := by decide +kernel
theorem dX0_drawMode_24 : decode cX0_drawMode 24 = .ok (.iconst 1, 1) := by decide +kernel
theorem dX0_drawMode_25 : decode cX0_drawMode 25 = .ok (.goto 4, 3) := by decide +kernel
theorem dX0_drawMode_28 : decode cX0_drawMode 28 = .ok (.iconst 0, 1) := by decide +kernel
theorem dX0_drawMode_29 : decode cX0_drawMode 29 = .ok (.iadd, 1) := by decide +kernel
theorem dX0_drawMode_30 : decode cX0_drawMode 30 = .ok (.istore 4, 2) := by decide +kernel
theorem dX0_drawMode_32 : decode cX0_drawMode 32 = .ok (.iinc 5 1, 3) := by decide +kernel
theorem dX0_drawMode_35 : decode cX0_drawMode 35 = .ok (.goto (-29), 3) := by decide +kernel
theorem dX0_drawMode_38 : decode cX0_drawMode 38 = .ok (.aload_n 0, 1) := by decide +kernel
theorem dX0_drawMode_39 : decode cX0_drawMode 39 = .ok (.iload 4, 2) := by decide +kernel
theorem dX0_drawMode_41 : decode cX0_drawMode 41 = .ok (.invokevirtual 334, 3) := by decide +kernel
theorem dX0_drawMode_44 : decode cX0_drawMode 44 = .ok (.istore 5, 2) := by decide +kernel
theorem dX0_drawMode_46 : decode cX0_drawMode 46 = .ok (.iconst 0, 1) := by decide +kernel
theorem dX0_drawMode_47 : decode cX0_drawMode 47 = .ok (.istore 6, 2) := by decide +kernel
theorem dX0_drawMode_49 : decode cX0_drawMode 49 = .ok (.iload 6, 2) := by decide +kernel
theorem dX0_drawMode_51 : decode cX0_drawMode 51 = .ok (.iload_n 2, 1) := by decide +kernel
theorem dX0_drawMode_52 : decode cX0_drawMode 52 = .ok (.if_icmp .ge 37, 3) := by decide +kernel
theorem dX0_drawMode_55 : decode cX0_drawMode 55 = .ok (.iload 5, 2) := by decide +kernel
theorem dX0_drawMode_57 : decode cX0_drawMode 57 = .ok (.iload_n 1, 1) := by decide +kernel
theorem dX0_drawMode_58 : decode cX0_drawMode 58 = .ok (.iload 6, 2) := by decide +kernel
theorem dX0_drawMode_60 : decode cX0_drawMode 60 = .ok (.iload_n 3, 1) := by decide +kernel
theorem dX0_drawMode_61 : decode cX0_drawMode 61 = .ok (.invokestatic 349, 3) := by decide +kernel
theorem dX0_drawMode_64 : decode cX0_drawMode 64 = .ok (.ifCond .eq 7, 3) := by decide +kernel
theorem dX0_drawMode_67 : decode cX0_drawMode 67 = .ok (.iconst 1, 1) := by decide +kernel
theorem dX0_drawMode_68 : decode cX0_drawMode 68 = .ok (.goto 4, 3) := by decide +kernel
theorem dX0_drawMode_71 : decode cX0_drawMode 71 = .ok (.iconst 0, 1) := by decide +kernel
theorem dX0_drawMode_72 : decode cX0_drawMode 72 = .ok (.isub, 1) := by decide +kernel
theorem dX0_drawMode_73 : decode cX0_drawMode 73 = .ok (.istore 5, 2) := by decide +kernel
theorem dX0_drawMode_75 : decode cX0_drawMode 75 = .ok (.iload 5, 2) := by decide +kernel
theorem dX0_drawMode_77 : decode cX0_drawMode 77 = .ok (.ifCond .ge 6, 3) := by decide +kernel
theorem dX0_drawMode_80 : decode cX0_drawMode 80 = .ok (.iload 6, 2) := by decide +kernel
theorem dX0_drawMode_82 : decode cX0_drawMode 82 = .ok (.ireturn, 1) := by decide +kernel
theorem dX0_drawMode_83 : decode cX0_drawMode 83 = .ok (.iinc 6 1, 3) := by decide +kernel
theorem dX0_drawMode_86 : decode cX0_drawMode 86 = .ok (.goto (-37), 3) := by decide +kernel
theorem dX0_drawMode_89 : decode cX0_drawMode 89 = .ok (.iconst 0, 1) := by decide +kernel
theorem dX0_drawMode_90 : decode cX0_drawMode 90 = .ok (.ireturn, 1) := by decide +kernel
def FX0_drawMode (G : GG) (M : DD) (a : Nat) (p0 : Int32) (p1 : Int32) (p2 : Int32) : Option (DD × Int32) :=
  bnd (itr (fun (s2 : Int32 × Int32 × DD) => ((if p1 ≤ s2.2.1 then (some (.inr (s2.1, s2.2.1, s2.2.2))) else
  (bnd (FX0_mayBe G s2.2.2 p0 s2.2.1 p2) fun y18 =>
  bnd (if y18.2 = ((0 : Int32)) then (some ((0 : Int32))) else
  (some ((1 : Int32)))) fun (y19 : Int32) =>
  ltt ((s2.1 + y19)) fun x20 =>
  ltt (s2.2.1 + (1 : Int32)) fun x21 =>
  some (.inl (x20, x21, y18.1)))) : Option ((Int32 × Int32 × DD) ⊕ (Int32 × Int32 × DD)))) 1000000 ((0 : Int32), (0 : Int32), M)) fun (y1 : Int32 × Int32 × DD) =>
  bnd (FX0_draw G y1.2.2 a y1.1) fun y4 =>
  bnd (itr (fun (s6 : Int32 × Int32 × DD) => ((if p1 ≤ s6.2.1 then (some (.inr (.inl (s6.1, s6.2.1, s6.2.2)))) else
  (bnd (FX0_mayBe G s6.2.2 p0 s6.2.1 p2) fun y10 =>
  bnd (if y10.2 = ((0 : Int32)) then (some ((0 : Int32))) else
  (some ((1 : Int32)))) fun (y11 : Int32) =>
  ltt ((s6.1 - y11)) fun x12 =>
  if ((0 : Int32)) ≤ x12 then (ltt (s6.2.1 + (1 : Int32)) fun x14 =>
  some (.inl (x12, x14, y10.1))) else
  (some (.inr (.inr (y10.1, s6.2.1)))))) : Option ((Int32 × Int32 × DD) ⊕ ((Int32 × Int32 × DD) ⊕ (DD × Int32))))) 1000000 (y4.2, (0 : Int32), y4.1)) fun (y5 : (Int32 × Int32 × DD) ⊕ (DD × Int32)) =>
  sel y5 (fun (z5k : Int32 × Int32 × DD) =>
  some (z5k.2.2, (0 : Int32))) fun r9 => some r9
set_option maxHeartbeats 4000000 in
set_option maxRecDepth 100000 in
theorem kX0_drawMode (l : Launch) (D : va_G) (ct : CT) (ad : Nat → Nat) (Z : Nat → Nat) (G : GG) (M : DD) (sz : Nat) (a : Nat) (p0 : Int32) (p1 : Int32) (p2 : Int32) (y : DD × Int32) (hc : a < G.1) (hk : G.2.1 a = 0) (hF : FX0_drawMode G M a p0 p1 p2 = some y) : Met l yX0_drawMode wuX0_drawMode ({ frames := 2, cells := 0, slots := 0, locals := 44 }) (va_Pc [.ref (ad a), .int p0, .int p1, .int p2] (kB D ct ad Z G M sz)) (va_Qi (fun (q : Int32) (_ : Unit) => q = y.2) (fun _ t => kE D ct ad G (wA ad G sz) y.1 t) (wA ad G sz)) 0 0 (wA ad G sz) := by
  refine Met.ofW (cc := cX0_drawMode) (maxL := 7) (ret := (some .int)) (by decide) rfl ?_
  intro p e s m args below meth c s₁ B hml hv
  obtain ⟨rfl, hsz, hP, hK, hD0, hZ, hN⟩ := hv
  have hx := B.exec
  have hb := B.bytes
  have hr := B.returns
  have hts := atoms_spec (ws := wuX0_drawMode) B.pre
  have hown : s.vm.findClass RX0 = some m.cls := findClass_of_methodNamed B.named
  have hlocks := B.notSynchronized
  subst hsz
  have hD := wD_self (sz := s.heap.size) hD0
  have hA9 : ∀ q, s.heap.size ≤ q → wA ad G s.heap.size q := fun q h => Or.inr h
  generalize hAe : wA ad G s.heap.size = A at hD hA9 hZ ⊢
  have hS : va_S A s.heap s.heap [] := va_S.rf
  have hl := lv_entry ([.ref (ad a), .int p0, .int p1, .int p2]) (n := 7) (Nat.le_of_ble_eq_true rfl)
  rw [lg_entry_eq]
  generalize (lg_sl ([.ref (ad a), .int p0, .int p1, .int p2]) ++ List.replicate (7 - (lg_sl ([.ref (ad a), .int p0, .int p1, .int p2])).length) Slot.unset).toArray = ls at hl ⊢
  have hl : lv_has ls 7 [(0, .ref (ad a)), (1, .int p0), (2, .int p1), (3, .int p2)] := hl
  unfold FX0_drawMode at hF
  refine lv_iconst (v := (0 : Int32)) hx hb dX0_drawMode_0 (by decide) ?_
  refine lv_istore (lv' := [(4, .int (0 : Int32)), (0, .ref (ad a)), (1, .int p0), (2, .int p1), (3, .int p2)]) hx hb dX0_drawMode_1 hl (by decide) rfl (fun ls hl => ?_)
  refine lv_iconst (v := (0 : Int32)) hx hb dX0_drawMode_3 (by decide) ?_
  refine lv_istore (lv' := [(5, .int (0 : Int32)), (4, .int (0 : Int32)), (0, .ref (ad a)), (1, .int p0), (2, .int p1), (3, .int p2)]) hx hb dX0_drawMode_4 hl (by decide) rfl (fun ls hl => ?_)
  obtain ⟨y1, hy1, hF⟩ := bnd_some hF
  have K1 : ∀ (H : Heap) (locs : List Loc) (ls : Array Slot), va_P D classes (wld ct ad G y1.2.2) H → va_D A (wld ct ad G y1.2.2) → va_S A s.heap H locs → lv_has ls 7 [(5, .int y1.2.1), (4, .int y1.1), (0, .ref (ad a)), (1, .int p0), (2, .int p1), (3, .int p2)] → W p l e (headSpec wuX0_drawMode ({ frames := 2, cells := 0, slots := 0, locals := 44 })).room s m ([.ref (ad a), .int p0, .int p1, .int p2] : List Value).toArray below meth c H locs 0 0 (MQ below (va_Qi (fun (q : Int32) (_ : Unit) => q = y.2) (fun _ t => kE D ct ad G A y.1 t) A) ([.ref (ad a), .int p0, .int p1, .int p2] : List Value).toArray s 0 0 A) (F0 m 38 ls []) := by
    intro H locs ls hP hD hS hl
    refine lv_aload_n hx hb dX0_drawMode_38 rfl (lv_at hl 2 rfl) ?_
    refine lv_iload hx hb dX0_drawMode_39 (lv_at hl 1 rfl) ?_
    obtain ⟨y4, hy4, hF⟩ := bnd_some hF
    have hf9 := wA_in hD hA9 hS
    refine va_calli (va_runV (As := [.int y1.1]) (rest := []) ⟨hx, hb, hml, hown, hts⟩ (kX0_draw l D ct ad Z G y1.2.2 H.size a y1.1 y4 hc hk hy4) (cwV 1 hts gX0_drawMode_X0_draw rfl rfl rfl (by decide +kernel) ⟨Nat.le_of_ble_eq_true rfl, Nat.le_of_ble_eq_true rfl⟩) ⟨fun a U g mk q => by obtain ⟨q0, q1, qP, qK, qD, qZ, qN⟩ := q; exact ⟨q0, q1, qP, va_K.moved (u := U) (U := U.calling g mk a) (Vm.Alike.refl U.vm) qK, qD, sF.moved (u := U) (U := U.calling g mk a) (Vm.Alike.refl U.vm) qZ, nF.same rfl qN⟩, va_recv hK hP (ci := 0) (q0 := a) rfl (wld_o ct ad G y1.2.2 hc hk (by decide)), fun U hU hW => ⟨rfl, by rw [hU], by rw [hU]; exact hP, va_K.moved hW.alike hK, hD.weaken (fun _ _ _ _ => trivial), by rw [hU]; exact ((hZ.kept hS.2.1).narrow hf9).moved hW.alike, hN.warm hW⟩⟩ rfl rfl hl.1 rfl (lv_room (Nat.le_of_ble_eq_true rfl)) dX0_drawMode_41 ⟨(Nat.zero_le _), (Nat.zero_le _)⟩) hS (fun q _ h => hf9 q h) hf9 (fun r u t H locs ht hvm hw hB hz1 hk1 hS => ?_)
    obtain ⟨hP, hK9, hD9⟩ := hB
    rw [ht] at hP
    try dsimp only at hw
    subst hw
    have hD := hD9.weaken (fun _ q _ h => hf9 q.1 h)
    refine lv_istore (lv' := [(5, .int y4.2), (4, .int y1.1), (0, .ref (ad a)), (1, .int p0), (2, .int p1), (3, .int p2)]) hx hb dX0_drawMode_44 hl (by decide) rfl (fun ls hl => ?_)
    refine lv_iconst (v := (0 : Int32)) hx hb dX0_drawMode_46 (by decide) ?_
    refine lv_istore (lv' := [(6, .int (0 : Int32)), (5, .int y4.2), (4, .int y1.1), (0, .ref (ad a)), (1, .int p0), (2, .int p1), (3, .int p2)]) hx hb dX0_drawMode_47 hl (by decide) rfl (fun ls hl => ?_)
    obtain ⟨y5, hy5, hF⟩ := bnd_some hF
    have K5 : ∀ z5k : Int32 × Int32 × DD, y5 = .inl z5k → ∀ (H : Heap) (locs : List Loc) (ls : Array Slot), va_P D classes (wld ct ad G z5k.2.2) H → va_D A (wld ct ad G z5k.2.2) → va_S A s.heap H locs → lv_has ls 7 [(6, .int z5k.2.1), (5, .int z5k.1), (4, .int y1.1), (0, .ref (ad a)), (1, .int p0), (2, .int p1), (3, .int p2)] → W p l e (headSpec wuX0_drawMode ({ frames := 2, cells := 0, slots := 0, locals := 44 })).room s m ([.ref (ad a), .int p0, .int p1, .int p2] : List Value).toArray below meth c H locs 0 0 (MQ below (va_Qi (fun (q : Int32) (_ : Unit) => q = y.2) (fun _ t => kE D ct ad G A y.1 t) A) ([.ref (ad a), .int p0, .int p1, .int p2] : List Value).toArray s 0 0 A) (F0 m 89 ls []) := by
      intro z5k hz5 H locs ls hP hD hS hl
      have hF := sel_inl (hz5 ▸ hF)
      refine lv_iconst (v := (0 : Int32)) hx hb dX0_drawMode_89 (by decide) ?_
      obtain rfl := Option.some.inj hF
      exact W.iret (v := (0 : Int32)) hx hb hr (fun t ht hW => ⟨⟨_, (), rfl, rfl, ⟨by rw [ht]; exact hP, va_K.moved hW.alike hK, hD⟩⟩, hS.F ht⟩) hS.2.2 dX0_drawMode_90
    have hR5 := hF
    clear hF
    refine itr_rule (fun (s6 : Int32 × Int32 × DD) => ∀ (H : Heap) (locs : List Loc) (ls : Array Slot), va_P D classes (wld ct ad G s6.2.2) H → va_D A (wld ct ad G s6.2.2) → va_S A s.heap H locs → lv_has ls 7 [(6, .int s6.2.1), (5, .int s6.1), (4, .int y1.1), (0, .ref (ad a)), (1, .int p0), (2, .int p1), (3, .int p2)] → W p l e (headSpec wuX0_drawMode ({ frames := 2, cells := 0, slots := 0, locals := 44 })).room s m ([.ref (ad a), .int p0, .int p1, .int p2] : List Value).toArray below meth c H locs 0 0 (MQ below (va_Qi (fun (q : Int32) (_ : Unit) => q = y.2) (fun _ t => kE D ct ad G A y.1 t) A) ([.ref (ad a), .int p0, .int p1, .int p2] : List Value).toArray s 0 0 A) (F0 m 49 ls [])) ?_ _ _ hy5 _ _ _ hP hD hS (lv_sub hl [0, 1, 2, 3, 4, 5, 6] rfl)
    rintro s6 ⟨z8, hF, hwz8⟩ H locs ls hP hD hS hl
    try dsimp only at hF
    refine lv_iload hx hb dX0_drawMode_49 (lv_at hl 0 rfl) ?_
    refine lv_iload_n hx hb dX0_drawMode_51 rfl (lv_at hl 5 rfl) ?_
    refine lv_icmp_ge (tgt := 89) hx hb dX0_drawMode_52 (by decide) (fun c9 => ?_) (fun c9 => ?_)
    · rw [if_pos c9] at hF
      obtain rfl := Option.some.inj hF
      exact K5 _ hwz8.symm _ _ _ hP hD hS (lv_sub hl [0, 1, 2, 3, 4, 5, 6] rfl)
    · rw [if_neg c9] at hF
      refine lv_iload hx hb dX0_drawMode_55 (lv_at hl 1 rfl) ?_
      refine lv_iload_n hx hb dX0_drawMode_57 rfl (lv_at hl 4 rfl) ?_
      refine lv_iload hx hb dX0_drawMode_58 (lv_at hl 0 rfl) ?_
      refine lv_iload_n hx hb dX0_drawMode_60 rfl (lv_at hl 6 rfl) ?_
      obtain ⟨y10, hy10, hF⟩ := bnd_some hF
      have hf9 := wA_in hD hA9 hS
      refine va_calli (va_runS (As := [.int p0, .int s6.2.1, .int p2]) (rest := [.int s6.1]) ⟨hx, hb, hml, hown, hts⟩ (kX0_mayBe l D ct ad Z G s6.2.2 H.size p0 s6.2.1 p2 y10 hy10) (va_cwS 3 hts gX0_drawMode_X0_mayBe rfl rfl rfl (by decide +kernel) ⟨Nat.le_of_ble_eq_true rfl, Nat.le_of_ble_eq_true rfl⟩) ⟨fun a U g mk q => by obtain ⟨q0, q1, qP, qK, qD, qZ, qN⟩ := q; exact ⟨q0, q1, qP, va_K.moved (u := U) (U := U.calling g mk a) (Vm.Alike.refl U.vm) qK, qD, sF.moved (u := U) (U := U.calling g mk a) (Vm.Alike.refl U.vm) qZ, nF.same rfl qN⟩, fun U hU hW => ⟨rfl, by rw [hU], by rw [hU]; exact hP, va_K.moved hW.alike hK, hD.weaken (fun _ _ _ _ => trivial), by rw [hU]; exact ((hZ.kept hS.2.1).narrow hf9).moved hW.alike, hN.warm hW⟩⟩ rfl rfl hl.1 rfl (lv_room (Nat.le_of_ble_eq_true rfl)) dX0_drawMode_61 ⟨(Nat.zero_le _), (Nat.zero_le _)⟩) hS (fun q _ h => hf9 q h) hf9 (fun r u t H locs ht hvm hw hB hz1 hk1 hS => ?_)
      obtain ⟨hP, hK9, hD9⟩ := hB
      rw [ht] at hP
      try dsimp only at hw
      subst hw
      have hD := hD9.weaken (fun _ q _ h => hf9 q.1 h)
      obtain ⟨y11, hy11, hF⟩ := bnd_some hF
      have J11 : ∀ (H : Heap) (locs : List Loc) (ls : Array Slot), va_P D classes (wld ct ad G y10.1) H → va_D A (wld ct ad G y10.1) → va_S A s.heap H locs → lv_has ls 7 [(6, .int s6.2.1), (5, .int s6.1), (4, .int y1.1), (0, .ref (ad a)), (1, .int p0), (2, .int p1), (3, .int p2)] → W p l e (headSpec wuX0_drawMode ({ frames := 2, cells := 0, slots := 0, locals := 44 })).room s m ([.ref (ad a), .int p0, .int p1, .int p2] : List Value).toArray below meth c H locs 0 0 (MQ below (va_Qi (fun (q : Int32) (_ : Unit) => q = y.2) (fun _ t => kE D ct ad G A y.1 t) A) ([.ref (ad a), .int p0, .int p1, .int p2] : List Value).toArray s 0 0 A) (F0 m 72 ls [.int y11, .int s6.1]) := by
        intro H locs ls hP hD hS hl
        refine lv_isub hx hb dX0_drawMode_72 ?_
        obtain ⟨x12, ex12, hF⟩ := ltt_some hF
        refine lv_topi (fun zx12 ezx12 => ?_)
        obtain rfl : x12 = zx12 := ex12.trans ezx12.symm
        refine lv_istore (lv' := [(5, .int x12), (6, .int s6.2.1), (4, .int y1.1), (0, .ref (ad a)), (1, .int p0), (2, .int p1), (3, .int p2)]) hx hb dX0_drawMode_73 hl (by decide) rfl (fun ls hl => ?_)
        refine lv_iload hx hb dX0_drawMode_75 (lv_at hl 0 rfl) ?_
        refine lv_if_ge (tgt := 83) hx hb dX0_drawMode_77 (by decide) (fun c13 => ?_) (fun c13 => ?_)
        · rw [if_pos c13] at hF
          obtain ⟨x14, ex14, hF⟩ := ltt_some hF
          refine lv_iinc (v := x14) (lv' := [(6, .int x14), (5, .int x12), (4, .int y1.1), (0, .ref (ad a)), (1, .int p0), (2, .int p1), (3, .int p2)]) hx hb dX0_drawMode_83 hl (k := 1) rfl (by rw [ex14]; rfl) (by decide) rfl (fun ls hl => ?_)
          refine lv_goto (tgt := 49) hx hb dX0_drawMode_86 (by decide) ?_
          obtain rfl := Option.some.inj hF
          exact hwz8 _ _ _ hP hD hS (lv_sub hl [0, 1, 2, 3, 4, 5, 6] rfl)
        · rw [if_neg c13] at hF
          refine lv_iload hx hb dX0_drawMode_80 (lv_at hl 1 rfl) ?_
          obtain rfl := Option.some.inj hF
          have hF := sel_inr (hwz8 ▸ hR5)
          obtain rfl := Option.some.inj hF
          exact W.iret (v := s6.2.1) hx hb hr (fun t ht hW => ⟨⟨_, (), rfl, rfl, ⟨by rw [ht]; exact hP, va_K.moved hW.alike hK, hD⟩⟩, hS.F ht⟩) hS.2.2 dX0_drawMode_82
      clear hF
      have hF := hy11
      clear hy11
      refine lv_if_eq (tgt := 71) hx hb dX0_drawMode_64 (by decide) (fun c15 => ?_) (fun c15 => ?_)
      · rw [if_pos c15] at hF
        refine lv_iconst (v := (0 : Int32)) hx hb dX0_drawMode_71 (by decide) ?_
        obtain rfl := Option.some.inj hF
        exact J11 _ _ _ hP hD hS (lv_sub hl [0, 1, 2, 3, 4, 5, 6] rfl)
      · rw [if_neg c15] at hF
        refine lv_iconst (v := (1 : Int32)) hx hb dX0_drawMode_67 (by decide) ?_
        refine lv_goto (tgt := 72) hx hb dX0_drawMode_68 (by decide) ?_
        obtain rfl := Option.some.inj hF
        exact J11 _ _ _ hP hD hS (lv_sub hl [0, 1, 2, 3, 4, 5, 6] rfl)
  clear hF
  refine itr_rule (fun (s2 : Int32 × Int32 × DD) => ∀ (H : Heap) (locs : List Loc) (ls : Array Slot), va_P D classes (wld ct ad G s2.2.2) H → va_D A (wld ct ad G s2.2.2) → va_S A s.heap H locs → lv_has ls 7 [(5, .int s2.2.1), (4, .int s2.1), (0, .ref (ad a)), (1, .int p0), (2, .int p1), (3, .int p2)] → W p l e (headSpec wuX0_drawMode ({ frames := 2, cells := 0, slots := 0, locals := 44 })).room s m ([.ref (ad a), .int p0, .int p1, .int p2] : List Value).toArray below meth c H locs 0 0 (MQ below (va_Qi (fun (q : Int32) (_ : Unit) => q = y.2) (fun _ t => kE D ct ad G A y.1 t) A) ([.ref (ad a), .int p0, .int p1, .int p2] : List Value).toArray s 0 0 A) (F0 m 6 ls [])) ?_ _ _ hy1 _ _ _ hP hD hS (lv_sub hl [0, 1, 2, 3, 4, 5] rfl)
  rintro s2 ⟨z16, hF, hwz16⟩ H locs ls hP hD hS hl
  try dsimp only at hF
  refine lv_iload hx hb dX0_drawMode_6 (lv_at hl 0 rfl) ?_
  refine lv_iload_n hx hb dX0_drawMode_8 rfl (lv_at hl 4 rfl) ?_
  refine lv_icmp_ge (tgt := 38) hx hb dX0_drawMode_9 (by decide) (fun c17 => ?_) (fun c17 => ?_)
  · rw [if_pos c17] at hF
    obtain rfl := Option.some.inj hF
    subst hwz16
    exact K1 _ _ _ hP hD hS (lv_sub hl [0, 1, 2, 3, 4, 5] rfl)
  · rw [if_neg c17] at hF
    refine lv_iload hx hb dX0_drawMode_12 (lv_at hl 1 rfl) ?_
    refine lv_iload_n hx hb dX0_drawMode_14 rfl (lv_at hl 3 rfl) ?_
    refine lv_iload hx hb dX0_drawMode_15 (lv_at hl 0 rfl) ?_
    refine lv_iload_n hx hb dX0_drawMode_17 rfl (lv_at hl 5 rfl) ?_
    obtain ⟨y18, hy18, hF⟩ := bnd_some hF
    have hf9 := wA_in hD hA9 hS
    refine va_calli (va_runS (As := [.int p0, .int s2.2.1, .int p2]) (rest := [.int s2.1]) ⟨hx, hb, hml, hown, hts⟩ (kX0_mayBe l D ct ad Z G s2.2.2 H.size p0 s2.2.1 p2 y18 hy18) (va_cwS 3 hts gX0_drawMode_X0_mayBe rfl rfl rfl (by decide +kernel) ⟨Nat.le_of_ble_eq_true rfl, Nat.le_of_ble_eq_true rfl⟩) ⟨fun a U g mk q => by obtain ⟨q0, q1, qP, qK, qD, qZ, qN⟩ := q; exact ⟨q0, q1, qP, va_K.moved (u := U) (U := U.calling g mk a) (Vm.Alike.refl U.vm) qK, qD, sF.moved (u := U) (U := U.calling g mk a) (Vm.Alike.refl U.vm) qZ, nF.same rfl qN⟩, fun U hU hW => ⟨rfl, by rw [hU], by rw [hU]; exact hP, va_K.moved hW.alike hK, hD.weaken (fun _ _ _ _ => trivial), by rw [hU]; exact ((hZ.kept hS.2.1).narrow hf9).moved hW.alike, hN.warm hW⟩⟩ rfl rfl hl.1 rfl (lv_room (Nat.le_of_ble_eq_true rfl)) dX0_drawMode_18 ⟨(Nat.zero_le _), (Nat.zero_le _)⟩) hS (fun q _ h => hf9 q h) hf9 (fun r u t H locs ht hvm hw hB hz1 hk1 hS => ?_)
    obtain ⟨hP, hK9, hD9⟩ := hB
    rw [ht] at hP
    try dsimp only at hw
    subst hw
    have hD := hD9.weaken (fun _ q _ h => hf9 q.1 h)
    obtain ⟨y19, hy19, hF⟩ := bnd_some hF
    have J19 : ∀ (H : Heap) (locs : List Loc) (ls : Array Slot), va_P D classes (wld ct ad G y18.1) H → va_D A (wld ct ad G y18.1) → va_S A s.heap H locs → lv_has ls 7 [(5, .int s2.2.1), (4, .int s2.1), (0, .ref (ad a)), (1, .int p0), (2, .int p1), (3, .int p2)] → W p l e (headSpec wuX0_drawMode ({ frames := 2, cells := 0, slots := 0, locals := 44 })).room s m ([.ref (ad a), .int p0, .int p1, .int p2] : List Value).toArray below meth c H locs 0 0 (MQ below (va_Qi (fun (q : Int32) (_ : Unit) => q = y.2) (fun _ t => kE D ct ad G A y.1 t) A) ([.ref (ad a), .int p0, .int p1, .int p2] : List Value).toArray s 0 0 A) (F0 m 29 ls [.int y19, .int s2.1]) := by
      intro H locs ls hP hD hS hl
      refine lv_iadd hx hb dX0_drawMode_29 ?_
      obtain ⟨x20, ex20, hF⟩ := ltt_some hF
      refine lv_topi (fun zx20 ezx20 => ?_)
      obtain rfl : x20 = zx20 := ex20.trans ezx20.symm
      refine lv_istore (lv' := [(4, .int x20), (5, .int s2.2.1), (0, .ref (ad a)), (1, .int p0), (2, .int p1), (3, .int p2)]) hx hb dX0_drawMode_30 hl (by decide) rfl (fun ls hl => ?_)
      obtain ⟨x21, ex21, hF⟩ := ltt_some hF
      refine lv_iinc (v := x21) (lv' := [(5, .int x21), (4, .int x20), (0, .ref (ad a)), (1, .int p0), (2, .int p1), (3, .int p2)]) hx hb dX0_drawMode_32 hl (k := 1) rfl (by rw [ex21]; rfl) (by decide) rfl (fun ls hl => ?_)
      refine lv_goto (tgt := 6) hx hb dX0_drawMode_35 (by decide) ?_
      obtain rfl := Option.some.inj hF
      exact hwz16 _ _ _ hP hD hS (lv_sub hl [0, 1, 2, 3, 4, 5] rfl)
    clear hF
    have hF := hy19
    clear hy19
    refine lv_if_eq (tgt := 28) hx hb dX0_drawMode_21 (by decide) (fun c22 => ?_) (fun c22 => ?_)
    · rw [if_pos c22] at hF
      refine lv_iconst (v := (0 : Int32)) hx hb dX0_drawMode_28 (by decide) ?_
      obtain rfl := Option.some.inj hF
      exact J19 _ _ _ hP hD hS (lv_sub hl [0, 1, 2, 3, 4, 5] rfl)
    · rw [if_neg c22] at hF
      refine lv_iconst (v := (1 : Int32)) hx hb dX0_drawMode_24 (by decide) ?_
      refine lv_goto (tgt := 29) hx hb dX0_drawMode_25 (by decide) ?_
      obtain rfl := Option.some.inj hF
      exact J19 _ _ _ hP hD hS (lv_sub hl [0, 1, 2, 3, 4, 5] rfl)
set_option maxRecDepth 20000 in
theorem gX0_drawVectors_X4_at : GoodIn wuX0_drawVectors (va_wsS RX0 412 yX4_at wuX4_at) := gu_S mw_2517 mw_1796 mw_185 mw_1797
set_option maxRecDepth 20000 in
set_option maxRecDepth 20000 in
theorem gX0_drawVectors_X9_guess : GoodIn wuX0_drawVectors (wsV RX0 415 RX9 yX9_guess wuX9_guess) := gu_V mw_2518 mw_1915 mw_1916 mw_171 mw_1917
set_option maxRecDepth 20000 in
set_option maxRecDepth 20000 in
theorem gX0_drawVectors_X0_draw : GoodIn wuX0_drawVectors (wsV RX0 334 RX0 yX0_draw wuX0_draw) := gu_V mw_2470 mw_2472 mw_121 mw_175 mw_2473
set_option maxRecDepth 20000 in
set_option maxRecDepth 20000 in
theorem gX0_drawVectors_X11_clamp_n286 : GoodIn wuX0_drawVectors wuX11_clamp := gu_P mw_939
set_option maxRecDepth 20000 in
set_option maxRecDepth 20000 in
theorem gX0_drawVectors_X0_setVector : GoodIn wuX0_drawVectors (wsV RX0 425 RX0 yX0_setVector wuX0_setVector) := gu_V mw_2520 mw_2522 mw_128 mw_175 mw_2523
theorem dX0_drawVectors_0 : decode cX0_drawVectors 0 = .ok (.aload_n 0, 1) := by decide +kernel
theorem dX0_drawVectors_1 : decode cX0_drawVectors 1 = .ok (.getfield 36, 3) := by decide +kernel
theorem dX0_drawVectors_4 : decode cX0_drawVectors 4 = .ok (.getfield 403, 3) := by decide +kernel
theorem dX0_drawVectors_7 : decode cX0_drawVectors 7 = .ok (.astore_n 3, 1) := by decide +kernel
theorem dX0_drawVectors_8 : decode cX0_drawVectors 8 = .ok (.iconst 0, 1) := by decide +kernel
theorem dX0_drawVectors_9 : decode cX0_drawVectors 9 = .ok (.istore 4, 2) := by decide +kernel
theorem dX0_drawVectors_11 : decode cX0_drawVectors 11 = .ok (.iload 4, 2) := by decide +kernel
theorem dX0_drawVectors_13 : decode cX0_drawVectors 13 = .ok (.aload_n 0, 1) := by decide +kernel
theorem dX0_drawVectors_14 : decode cX0_drawVectors 14 = .ok (.getfield 36, 3) := by decide +kernel
theorem dX0_drawVectors_17 : decode cX0_drawVectors 17 = .ok (.getfield 406, 3) := by decide +kernel
theorem dX0_drawVectors_20 : decode cX0_drawVectors 20 = .ok (.if_icmp .ge 152, 3) := by decide +kernel
theorem dX0_drawVectors_23 : decode cX0_drawVectors 23 = .ok (.iconst 5, 1) := by decide +kernel
theorem dX0_drawVectors_24 : decode cX0_drawVectors 24 = .ok (.iload 4, 2) := by decide +kernel
theorem dX0_drawVectors_26 : decode cX0_drawVectors 26 = .ok (.imul, 1) := by decide +kernel
theorem dX0_drawVectors_27 : decode cX0_drawVectors 27 = .ok (.istore 5, 2) := by decide +kernel
theorem dX0_drawVectors_29 : decode cX0_drawVectors 29 = .ok (.aload_n 3, 1) := by decide +kernel
theorem dX0_drawVectors_30 : decode cX0_drawVectors 30 = .ok (.iload 5, 2) := by decide +kernel
theorem dX0_drawVectors_32 : decode cX0_drawVectors 32 = .ok (.iconst 3, 1) := by decide +kernel
theorem dX0_drawVectors_33 : decode cX0_drawVectors 33 = .ok (.iadd, 1) := by decide +kernel
theorem dX0_drawVectors_34 : decode cX0_drawVectors 34 = .ok (.iaload, 1) := by decide +kernel
theorem dX0_drawVectors_35 : decode cX0_drawVectors 35 = .ok (.iload_n 2, 1) := by decide +kernel
theorem dX0_drawVectors_36 : decode cX0_drawVectors 36 = .ok (.ishr, 1) := by decide +kernel
theorem dX0_drawVectors_37 : decode cX0_drawVectors 37 = .ok (.iconst 1, 1) := by decide +kernel
theorem dX0_drawVectors_38 : decode cX0_drawVectors 38 = .ok (.iand, 1) := by decide +kernel
theorem dX0_drawVectors_39 : decode cX0_drawVectors 39 = .ok (.ifCond .ne 6, 3) := by decide +kernel
theorem dX0_drawVectors_42 : decode cX0_drawVectors 42 = .ok (.goto 124, 3) := by decide +kernel
theorem dX0_drawVectors_45 : decode cX0_drawVectors 45 = .ok (.aload_n 0, 1) := by decide +kernel
theorem dX0_drawVectors_46 : decode cX0_drawVectors 46 = .ok (.getfield 36, 3) := by decide +kernel
theorem dX0_drawVectors_49 : decode cX0_drawVectors 49 = .ok (.getfield 266, 3) := by decide +kernel
theorem dX0_drawVectors_52 : decode cX0_drawVectors 52 = .ok (.getfield 409, 3) := by decide +kernel
theorem dX0_drawVectors_55 : decode cX0_drawVectors 55 = .ok (.iload_n 2, 1) := by decide +kernel
theorem dX0_drawVectors_56 : decode cX0_drawVectors 56 = .ok (.bipush 16, 2) := by decide +kernel
theorem dX0_drawVectors_58 : decode cX0_drawVectors 58 = .ok (.iload_n 1, 1) := by decide +kernel
theorem dX0_drawVectors_59 : decode cX0_drawVectors 59 = .ok (.imul, 1) := by decide +kernel
theorem dX0_drawVectors_60 : decode cX0_drawVectors 60 = .ok (.aload_n 3, 1) := by decide +kernel
theorem dX0_drawVectors_61 : decode cX0_drawVectors 61 = .ok (.iload 5, 2) := by decide +kernel
theorem dX0_drawVectors_63 : decode cX0_drawVectors 63 = .ok (.iaload, 1) := by decide +kernel
theorem dX0_drawVectors_64 : decode cX0_drawVectors 64 = .ok (.iadd, 1) := by decide +kernel
theorem dX0_drawVectors_65 : decode cX0_drawVectors 65 = .ok (.invokestatic 412, 3) := by decide +kernel
theorem dX0_drawVectors_68 : decode cX0_drawVectors 68 = .ok (.iaload, 1) := by decide +kernel
theorem dX0_drawVectors_69 : decode cX0_drawVectors 69 = .ok (.istore 6, 2) := by decide +kernel
theorem dX0_drawVectors_71 : decode cX0_drawVectors 71 = .ok (.aload_n 0, 1) := by decide +kernel
theorem dX0_drawVectors_72 : decode cX0_drawVectors 72 = .ok (.getfield 36, 3) := by decide +kernel
theorem dX0_drawVectors_75 : decode cX0_drawVectors 75 = .ok (.iload_n 1, 1) := by decide +kernel
theorem dX0_drawVectors_76 : decode cX0_drawVectors 76 = .ok (.iload_n 2, 1) := by decide +kernel
theorem dX0_drawVectors_77 : decode cX0_drawVectors 77 = .ok (.iload 6, 2) := by decide +kernel
theorem dX0_drawVectors_79 : decode cX0_drawVectors 79 = .ok (.aload_n 3, 1) := by decide +kernel
theorem dX0_drawVectors_80 : decode cX0_drawVectors 80 = .ok (.iload 5, 2) := by decide +kernel
theorem dX0_drawVectors_82 : decode cX0_drawVectors 82 = .ok (.iaload, 1) := by decide +kernel
theorem dX0_drawVectors_83 : decode cX0_drawVectors 83 = .ok (.aload_n 3, 1) := by decide +kernel
theorem dX0_drawVectors_84 : decode cX0_drawVectors 84 = .ok (.iload 5, 2) := by decide +kernel
theorem dX0_drawVectors_86 : decode cX0_drawVectors 86 = .ok (.iconst 1, 1) := by decide +kernel
theorem dX0_drawVectors_87 : decode cX0_drawVectors 87 = .ok (.iadd, 1) := by decide +kernel
theorem dX0_drawVectors_88 : decode cX0_drawVectors 88 = .ok (.iaload, 1) := by decide +kernel
theorem dX0_drawVectors_89 : decode cX0_drawVectors 89 = .ok (.aload_n 3, 1) := by decide +kernel
theorem dX0_drawVectors_90 : decode cX0_drawVectors 90 = .ok (.iload 5, 2) := by decide +kernel
theorem dX0_drawVectors_92 : decode cX0_drawVectors 92 = .ok (.iconst 4, 1) := by decide +kernel
theorem dX0_drawVectors_93 : decode cX0_drawVectors 93 = .ok (.iadd, 1) := by decide +kernel
theorem dX0_drawVectors_94 : decode cX0_drawVectors 94 = .ok (.iaload, 1) := by decide +kernel
theorem dX0_drawVectors_95 : decode cX0_drawVectors 95 = .ok (.invokevirtual 415, 3) := by decide +kernel
theorem dX0_drawVectors_98 : decode cX0_drawVectors 98 = .ok (.sipush (-2048), 3) := by decide +kernel
theorem dX0_drawVectors_101 : decode cX0_drawVectors 101 = .ok (.sipush 2047, 3) := by decide +kernel
theorem dX0_drawVectors_104 : decode cX0_drawVectors 104 = .ok (.aload_n 0, 1) := by decide +kernel
theorem dX0_drawVectors_105 : decode cX0_drawVectors 105 = .ok (.getfield 36, 3) := by decide +kernel
theorem dX0_drawVectors_108 : decode cX0_drawVectors 108 = .ok (.getfield 419, 3) := by decide +kernel
theorem dX0_drawVectors_111 : decode cX0_drawVectors 111 = .ok (.aload_n 0, 1) := by decide +kernel
theorem dX0_drawVectors_112 : decode cX0_drawVectors 112 = .ok (.bipush 33, 2) := by decide +kernel
theorem dX0_drawVectors_114 : decode cX0_drawVectors 114 = .ok (.invokevirtual 334, 3) := by decide +kernel
theorem dX0_drawVectors_117 : decode cX0_drawVectors 117 = .ok (.iadd, 1) := by decide +kernel
theorem dX0_drawVectors_118 : decode cX0_drawVectors 118 = .ok (.bipush 16, 2) := by decide +kernel
theorem dX0_drawVectors_120 : decode cX0_drawVectors 120 = .ok (.isub, 1) := by decide +kernel
theorem dX0_drawVectors_121 : decode cX0_drawVectors 121 = .ok (.invokestatic 286, 3) := by decide +kernel
theorem dX0_drawVectors_124 : decode cX0_drawVectors 124 = .ok (.istore 7, 2) := by decide +kernel
theorem dX0_drawVectors_126 : decode cX0_drawVectors 126 = .ok (.sipush (-2048), 3) := by decide +kernel
theorem dX0_drawVectors_129 : decode cX0_drawVectors 129 = .ok (.sipush 2047, 3) := by decide +kernel
theorem dX0_drawVectors_132 : decode cX0_drawVectors 132 = .ok (.aload_n 0, 1) := by decide +kernel
theorem dX0_drawVectors_133 : decode cX0_drawVectors 133 = .ok (.getfield 36, 3) := by decide +kernel
theorem dX0_drawVectors_136 : decode cX0_drawVectors 136 = .ok (.getfield 422, 3) := by decide +kernel
theorem dX0_drawVectors_139 : decode cX0_drawVectors 139 = .ok (.aload_n 0, 1) := by decide +kernel
theorem dX0_drawVectors_140 : decode cX0_drawVectors 140 = .ok (.bipush 33, 2) := by decide +kernel
theorem dX0_drawVectors_142 : decode cX0_drawVectors 142 = .ok (.invokevirtual 334, 3) := by decide +kernel
theorem dX0_drawVectors_145 : decode cX0_drawVectors 145 = .ok (.iadd, 1) := by decide +kernel
theorem dX0_drawVectors_146 : decode cX0_drawVectors 146 = .ok (.bipush 16, 2) := by decide +kernel
theorem dX0_drawVectors_148 : decode cX0_drawVectors 148 = .ok (.isub, 1) := by decide +kernel
theorem dX0_drawVectors_149 : decode cX0_drawVectors 149 = .ok (.invokestatic 286, 3) := by decide +kernel
theorem dX0_drawVectors_152 : decode cX0_drawVectors 152 = .ok (.istore 8, 2) := by decide +kernel
theorem dX0_drawVectors_154 : decode cX0_drawVectors 154 = .ok (.aload_n 0, 1) := by decide +kernel
theorem dX0_drawVectors_155 : decode cX0_drawVectors 155 = .ok (.iload_n 1, 1) := by decide +kernel
theorem dX0_drawVectors_156 : decode cX0_drawVectors 156 = .ok (.iload_n 2, 1) := by decide +kernel
theorem dX0_drawVectors_157 : decode cX0_drawVectors 157 = .ok (.iload 4, 2) := by decide +kernel
theorem dX0_drawVectors_159 : decode cX0_drawVectors 159 = .ok (.iload 7, 2) := by decide +kernel
theorem dX0_drawVectors_161 : decode cX0_drawVectors 161 = .ok (.iload 8, 2) := by decide +kernel
theorem dX0_drawVectors_163 : decode cX0_drawVectors 163 = .ok (.invokevirtual 425, 3) := by decide +kernel
theorem dX0_drawVectors_166 : decode cX0_drawVectors 166 = .ok (.iinc 4 1, 3) := by decide +kernel
theorem dX0_drawVectors_169 : decode cX0_drawVectors 169 = .ok (.goto (-158), 3) := by decide +kernel
theorem dX0_drawVectors_172 : decode cX0_drawVectors 172 = .ok (.return_, 1) := by decide +kernel
def FX0_drawVectors (G : GG) (M : DD) (a : Nat) (p0 : Int32) (p1 : Int32) : Option (DD) :=
  dr G 9 ((M.2 a 3)) fun b2 =>
  bnd (itr (fun (s4 : Int32 × DD) => ((dr G 9 ((s4.2.2 a 3)) fun b7 =>
  ltt (s4.2.1 b7 14) fun x8 =>
  if x8 ≤ s4.1 then (some (.inr (s4.1, s4.2))) else
  (ltt ((((5 : Int32)) * s4.1)) fun x10 =>
  ltt ((x10 + ((3 : Int32)))) fun x11 =>
  dr G 13 ((M.2 b2 13)) fun b12 =>
  chk (¬ (x11 < 0 ∨ G.2.2 b12 ≤ x11.toNatClampNeg)) <|
  ltt (s4.2.1 b12 x11.toNatClampNeg) fun x13 =>
  ltt ((x13 >>> (p1 &&& 31))) fun x14 =>
  ltt ((x14 &&& ((1 : Int32)))) fun x15 =>
  bnd (if x15 = ((0 : Int32)) then (some (s4.2)) else
  (dr G 4 ((s4.2.2 b7 0)) fun b19 =>
  ltt ((((16 : Int32)) * p0)) fun x20 =>
  chk (¬ (x10 < 0 ∨ G.2.2 b12 ≤ x10.toNatClampNeg)) <|
  ltt (s4.2.1 b12 x10.toNatClampNeg) fun x21 =>
  ltt ((x20 + x21)) fun x22 =>
  bnd (FX4_at G s4.2 p1 x22) fun y23 =>
  dr G 13 ((s4.2.2 b19 5)) fun b24 =>
  chk (¬ (y23.2 < 0 ∨ G.2.2 b24 ≤ y23.2.toNatClampNeg)) <|
  ltt (y23.1.1 b24 y23.2.toNatClampNeg) fun x25 =>
  chk (¬ (x10 < 0 ∨ G.2.2 b12 ≤ x10.toNatClampNeg)) <|
  ltt (y23.1.1 b12 x10.toNatClampNeg) fun x26 =>
  ltt ((x10 + ((1 : Int32)))) fun x27 =>
  chk (¬ (x27 < 0 ∨ G.2.2 b12 ≤ x27.toNatClampNeg)) <|
  ltt (y23.1.1 b12 x27.toNatClampNeg) fun x28 =>
  ltt ((x10 + ((4 : Int32)))) fun x29 =>
  chk (¬ (x29 < 0 ∨ G.2.2 b12 ≤ x29.toNatClampNeg)) <|
  ltt (y23.1.1 b12 x29.toNatClampNeg) fun x30 =>
  dr G 9 ((y23.1.2 a 3)) fun b31 =>
  bnd (FX9_guess G y23.1 b31 p0 p1 x25 x26 x28 x30) fun y32 =>
  dr G 9 ((y32.2 a 3)) fun b33 =>
  ltt (y32.1 b33 18) fun x34 =>
  bnd (FX0_draw G y32 a ((33 : Int32))) fun y35 =>
  ltt ((x34 + y35.2)) fun x36 =>
  ltt ((x36 - ((16 : Int32)))) fun x37 =>
  bnd (FX11_clamp G y35.1 ((-2048 : Int32)) ((2047 : Int32)) x37) fun y38 =>
  dr G 9 ((y38.1.2 a 3)) fun b39 =>
  ltt (y38.1.1 b39 19) fun x40 =>
  bnd (FX0_draw G y38.1 a ((33 : Int32))) fun y41 =>
  ltt ((x40 + y41.2)) fun x42 =>
  ltt ((x42 - ((16 : Int32)))) fun x43 =>
  bnd (FX11_clamp G y41.1 ((-2048 : Int32)) ((2047 : Int32)) x43) fun y44 =>
  bnd (FX0_setVector G y44.1 a p0 p1 s4.1 y38.2 y44.2) fun y45 =>
  some (y45))) fun (y16 : DD) =>
  ltt (s4.1 + (1 : Int32)) fun x17 =>
  some (.inl (x17, y16)))) : Option ((Int32 × DD) ⊕ (Int32 × DD)))) 1000000 ((0 : Int32), M)) fun (y3 : Int32 × DD) =>
  some y3.2
set_option maxHeartbeats 4000000 in
set_option maxRecDepth 100000 in
theorem kX0_drawVectors (l : Launch) (D : va_G) (ct : CT) (ad : Nat → Nat) (Z : Nat → Nat) (G : GG) (M : DD) (sz : Nat) (a : Nat) (p0 : Int32) (p1 : Int32) (y : DD) (hc : a < G.1) (hk : G.2.1 a = 0) (hF : FX0_drawVectors G M a p0 p1 = some y) : Met l yX0_drawVectors wuX0_drawVectors ({ frames := 3, cells := 0, slots := 0, locals := 77 }) (va_Pc [.ref (ad a), .int p0, .int p1] (kB D ct ad Z G M sz)) (va_Qv (fun (_ : Unit) => True) (fun _ t => kE D ct ad G (wA ad G sz) y t) (wA ad G sz)) 0 0 (wA ad G sz) := by
  refine Met.ofW (cc := cX0_drawVectors) (maxL := 9) (ret := none) (by decide) rfl ?_
  intro p e s m args below meth c s₁ B hml hv
  obtain ⟨rfl, hsz, hP, hK, hD0, hZ, hN⟩ := hv
  have hx := B.exec
  have hb := B.bytes
  have hr := B.returns
  have hts := atoms_spec (ws := wuX0_drawVectors) B.pre
  have hown : s.vm.findClass RX0 = some m.cls := findClass_of_methodNamed B.named
  have hlocks := B.notSynchronized
  subst hsz
  have hD := wD_self (sz := s.heap.size) hD0
  have hA9 : ∀ q, s.heap.size ≤ q → wA ad G s.heap.size q := fun q h => Or.inr h
  generalize hAe : wA ad G s.heap.size = A at hD hA9 hZ ⊢
  have hS : va_S A s.heap s.heap [] := va_S.rf
  have hl := lv_entry ([.ref (ad a), .int p0, .int p1]) (n := 9) (Nat.le_of_ble_eq_true rfl)
  rw [lg_entry_eq]
  generalize (lg_sl ([.ref (ad a), .int p0, .int p1]) ++ List.replicate (9 - (lg_sl ([.ref (ad a), .int p0, .int p1])).length) Slot.unset).toArray = ls at hl ⊢
  have hl : lv_has ls 9 [(0, .ref (ad a)), (1, .int p0), (2, .int p1)] := hl
  unfold FX0_drawVectors at hF
  refine lv_aload_n hx hb dX0_drawVectors_0 rfl (lv_at hl 0 rfl) ?_
  refine va_get (D := D) (ci := 0) (v := va_re ad (M.2 a 3)) (C := RX0) (T := TX0) (N := 21) hx hb hts (mus hf_X0) hown hK hP a (wld_o ct ad G M hc hk (by decide)) rfl 3 (by decide) (hts (.fieldLink RX0 36 "VideoSuite$Coder" "work" "LVideoSuite$Work;") (mu mw_817)) (fun _ h9 => h9) rfl dX0_drawVectors_1 ?_
  obtain ⟨b2, ho2, hc2, hk2, hF⟩ := dr_some hF
  refine W_st (st' := [.ref (ad b2)]) (by rw [va_some ho2]) ?_
  refine va_get (D := D) (ci := 9) (v := va_re ad (M.2 b2 13)) (C := RX9) (T := TX9) (N := 20) hx hb hts (mus hf_X9) hown hK hP b2 (wld_o ct ad G M hc2 hk2 (by decide)) rfl 13 (by decide) (hts (.fieldLink RX0 403 "VideoSuite$Work" "part" "[I") (mu mw_468)) (fun _ h9 => h9) rfl dX0_drawVectors_4 ?_
  refine lv_astoreq_n (lv' := [(3, va_re ad (M.2 b2 13)), (0, .ref (ad a)), (1, .int p0), (2, .int p1)]) hx hb dX0_drawVectors_7 rfl hl (by decide) rfl (fun ls hl => ?_)
  refine lv_iconst (v := (0 : Int32)) hx hb dX0_drawVectors_8 (by decide) ?_
  refine lv_istore (lv' := [(4, .int (0 : Int32)), (3, va_re ad (M.2 b2 13)), (0, .ref (ad a)), (1, .int p0), (2, .int p1)]) hx hb dX0_drawVectors_9 hl (by decide) (by generalize ((M.2 b2 13)) = o9; cases o9 <;> rfl) (fun ls hl => ?_)
  obtain ⟨y3, hy3, hF⟩ := bnd_some hF
  have K3 : ∀ (H : Heap) (locs : List Loc) (ls : Array Slot), va_P D classes (wld ct ad G y3.2) H → va_D A (wld ct ad G y3.2) → va_S A s.heap H locs → lv_has ls 9 [(4, .int y3.1), (3, va_re ad (M.2 b2 13)), (0, .ref (ad a)), (1, .int p0), (2, .int p1)] → W p l e (headSpec wuX0_drawVectors ({ frames := 3, cells := 0, slots := 0, locals := 77 })).room s m ([.ref (ad a), .int p0, .int p1] : List Value).toArray below meth c H locs 0 0 (MQ below (va_Qv (fun (_ : Unit) => True) (fun _ t => kE D ct ad G A y t) A) ([.ref (ad a), .int p0, .int p1] : List Value).toArray s 0 0 A) (F0 m 172 ls []) := by
    intro H locs ls hP hD hS hl
    obtain rfl := Option.some.inj hF
    exact W.vret hx hb hr (fun t ht hW => ⟨⟨(), rfl, trivial, ⟨by rw [ht]; exact hP, va_K.moved hW.alike hK, hD⟩⟩, hS.F ht⟩) hS.2.2 dX0_drawVectors_172
  clear hF
  refine itr_rule (fun (s4 : Int32 × DD) => ∀ (H : Heap) (locs : List Loc) (ls : Array Slot), va_P D classes (wld ct ad G s4.2) H → va_D A (wld ct ad G s4.2) → va_S A s.heap H locs → lv_has ls 9 [(4, .int s4.1), (3, va_re ad (M.2 b2 13)), (0, .ref (ad a)), (1, .int p0), (2, .int p1)] → W p l e (headSpec wuX0_drawVectors ({ frames := 3, cells := 0, slots := 0, locals := 77 })).room s m ([.ref (ad a), .int p0, .int p1] : List Value).toArray below meth c H locs 0 0 (MQ below (va_Qv (fun (_ : Unit) => True) (fun _ t => kE D ct ad G A y t) A) ([.ref (ad a), .int p0, .int p1] : List Value).toArray s 0 0 A) (F0 m 11 ls [])) ?_ _ _ hy3 _ _ _ hP hD hS (lv_sub hl [0, 1, 2, 3, 4] rfl)
  rintro s4 ⟨z6, hF, hwz6⟩ H locs ls hP hD hS hl
  try dsimp only at hF
  refine lv_iload hx hb dX0_drawVectors_11 (lv_at hl 0 rfl) ?_
  refine lv_aload_n hx hb dX0_drawVectors_13 rfl (lv_at hl 2 rfl) ?_
  refine va_get (D := D) (ci := 0) (v := va_re ad (s4.2.2 a 3)) (C := RX0) (T := TX0) (N := 21) hx hb hts (mus hf_X0) hown hK hP a (wld_o ct ad G s4.2 hc hk (by decide)) rfl 3 (by decide) (hts (.fieldLink RX0 36 "VideoSuite$Coder" "work" "LVideoSuite$Work;") (mu mw_817)) (fun _ h9 => h9) rfl dX0_drawVectors_14 ?_
  obtain ⟨b7, ho7, hc7, hk7, hF⟩ := dr_some hF
  refine W_st (st' := [.ref (ad b7), .int s4.1]) (by rw [va_some ho7]) ?_
  refine va_get (D := D) (ci := 9) (v := .int (s4.2.1 b7 14)) (C := RX9) (T := TX9) (N := 20) hx hb hts (mus hf_X9) hown hK hP b7 (wld_o ct ad G s4.2 hc7 hk7 (by decide)) rfl 14 (by decide) (hts (.fieldLink RX0 406 "VideoSuite$Work" "parts" "I") (mu mw_471)) (fun _ h9 => h9) rfl dX0_drawVectors_17 ?_
  obtain ⟨x8, ex8, hF⟩ := ltt_some hF
  refine lv_topi (fun zx8 ezx8 => ?_)
  obtain rfl : x8 = zx8 := ex8.trans ezx8.symm
  refine lv_icmp_ge (tgt := 172) hx hb dX0_drawVectors_20 (by decide) (fun c9 => ?_) (fun c9 => ?_)
  · rw [if_pos c9] at hF
    obtain rfl := Option.some.inj hF
    subst hwz6
    exact K3 _ _ _ hP hD hS (lv_sub hl [0, 1, 2, 3, 4] rfl)
  · rw [if_neg c9] at hF
    refine lv_iconst (v := (5 : Int32)) hx hb dX0_drawVectors_23 (by decide) ?_
    refine lv_iload hx hb dX0_drawVectors_24 (lv_at hl 0 rfl) ?_
    refine lv_imul hx hb dX0_drawVectors_26 ?_
    obtain ⟨x10, ex10, hF⟩ := ltt_some hF
    refine lv_topi (fun zx10 ezx10 => ?_)
    obtain rfl : x10 = zx10 := ex10.trans ezx10.symm
    refine lv_istore (lv' := [(5, .int x10), (4, .int s4.1), (3, va_re ad (M.2 b2 13)), (0, .ref (ad a)), (1, .int p0), (2, .int p1)]) hx hb dX0_drawVectors_27 hl (by decide) rfl (fun ls hl => ?_)
    refine lv_aloadq_n hx hb dX0_drawVectors_29 rfl (lv_at hl 2 rfl) ?_
    refine lv_iload hx hb dX0_drawVectors_30 (lv_at hl 0 rfl) ?_
    refine lv_iconst (v := (3 : Int32)) hx hb dX0_drawVectors_32 (by decide) ?_
    refine lv_iadd hx hb dX0_drawVectors_33 ?_
    obtain ⟨x11, ex11, hF⟩ := ltt_some hF
    refine lv_topi (fun zx11 ezx11 => ?_)
    obtain rfl : x11 = zx11 := ex11.trans ezx11.symm
    obtain ⟨b12, ho12, hc12, hk12, hF⟩ := dr_some hF
    refine W_st (st' := [.int x11, .ref (ad b12)]) (by rw [va_some ho12]) ?_
    obtain ⟨hvc, hF⟩ := chk_some hF
    refine va_iald hx hb hK hP b12 1 (wld_i ct ad G s4.2 hc12 hk12) rfl hvc dX0_drawVectors_34 ?_
    obtain ⟨x13, ex13, hF⟩ := ltt_some hF
    refine lv_topi (fun zx13 ezx13 => ?_)
    obtain rfl : x13 = zx13 := ex13.trans ezx13.symm
    refine lv_iload_n hx hb dX0_drawVectors_35 rfl (lv_at hl 5 rfl) ?_
    refine lv_ishr hx hb dX0_drawVectors_36 ?_
    obtain ⟨x14, ex14, hF⟩ := ltt_some hF
    refine lv_topi (fun zx14 ezx14 => ?_)
    obtain rfl : x14 = zx14 := ex14.trans ezx14.symm
    refine lv_iconst (v := (1 : Int32)) hx hb dX0_drawVectors_37 (by decide) ?_
    refine lv_iand hx hb dX0_drawVectors_38 ?_
    obtain ⟨x15, ex15, hF⟩ := ltt_some hF
    refine lv_topi (fun zx15 ezx15 => ?_)
    obtain rfl : x15 = zx15 := ex15.trans ezx15.symm
    obtain ⟨y16, hy16, hF⟩ := bnd_some hF
    have J16 : ∀ (H : Heap) (locs : List Loc) (ls : Array Slot), va_P D classes (wld ct ad G y16) H → va_D A (wld ct ad G y16) → va_S A s.heap H locs → lv_has ls 9 [(5, .int x10), (4, .int s4.1), (3, va_re ad (M.2 b2 13)), (0, .ref (ad a)), (1, .int p0), (2, .int p1)] → W p l e (headSpec wuX0_drawVectors ({ frames := 3, cells := 0, slots := 0, locals := 77 })).room s m ([.ref (ad a), .int p0, .int p1] : List Value).toArray below meth c H locs 0 0 (MQ below (va_Qv (fun (_ : Unit) => True) (fun _ t => kE D ct ad G A y t) A) ([.ref (ad a), .int p0, .int p1] : List Value).toArray s 0 0 A) (F0 m 166 ls []) := by
      intro H locs ls hP hD hS hl
      obtain ⟨x17, ex17, hF⟩ := ltt_some hF
      refine lv_iinc (v := x17) (lv' := [(4, .int x17), (5, .int x10), (3, va_re ad (M.2 b2 13)), (0, .ref (ad a)), (1, .int p0), (2, .int p1)]) hx hb dX0_drawVectors_166 hl (k := 1) rfl (by rw [ex17]; rfl) (by decide) (by generalize ((M.2 b2 13)) = o9; cases o9 <;> rfl) (fun ls hl => ?_)
      refine lv_goto (tgt := 11) hx hb dX0_drawVectors_169 (by decide) ?_
      obtain rfl := Option.some.inj hF
      exact hwz6 _ _ _ hP hD hS (lv_sub hl [0, 2, 3, 4, 5] rfl)
    clear hF
    have hF := hy16
    clear hy16
    refine lv_if_ne (tgt := 45) hx hb dX0_drawVectors_39 (by decide) (fun c18 => ?_) (fun c18 => ?_)
    · rw [if_neg c18] at hF
      refine lv_aload_n hx hb dX0_drawVectors_45 rfl (lv_at hl 3 rfl) ?_
      refine va_get (D := D) (ci := 0) (v := va_re ad (s4.2.2 a 3)) (C := RX0) (T := TX0) (N := 21) hx hb hts (mus hf_X0) hown hK hP a (wld_o ct ad G s4.2 hc hk (by decide)) rfl 3 (by decide) (hts (.fieldLink RX0 36 "VideoSuite$Coder" "work" "LVideoSuite$Work;") (mu mw_817)) (fun _ h9 => h9) rfl dX0_drawVectors_46 ?_
      refine W_st (st' := [.ref (ad b7)]) (by rw [va_some ho7]) ?_
      refine va_get (D := D) (ci := 9) (v := va_re ad (s4.2.2 b7 0)) (C := RX9) (T := TX9) (N := 20) hx hb hts (mus hf_X9) hown hK hP b7 (wld_o ct ad G s4.2 hc7 hk7 (by decide)) rfl 0 (by decide) (hts (.fieldLink RX0 266 "VideoSuite$Work" "pic" "LVideoSuite$Picture;") (mu mw_424)) (fun _ h9 => h9) rfl dX0_drawVectors_49 ?_
      obtain ⟨b19, ho19, hc19, hk19, hF⟩ := dr_some hF
      refine W_st (st' := [.ref (ad b19)]) (by rw [va_some ho19]) ?_
      refine va_get (D := D) (ci := 4) (v := va_re ad (s4.2.2 b19 5)) (C := RX4) (T := TX4) (N := 18) hx hb hts (mus hf_X4) hown hK hP b19 (wld_o ct ad G s4.2 hc19 hk19 (by decide)) rfl 5 (by decide) (hts (.fieldLink RX0 409 "VideoSuite$Picture" "reference" "[I") (mu mw_1441)) (fun _ h9 => h9) rfl dX0_drawVectors_52 ?_
      refine lv_iload_n hx hb dX0_drawVectors_55 rfl (lv_at hl 5 rfl) ?_
      refine lv_bipush (v := (16 : Int32)) hx hb dX0_drawVectors_56 (by decide) ?_
      refine lv_iload_n hx hb dX0_drawVectors_58 rfl (lv_at hl 4 rfl) ?_
      refine lv_imul hx hb dX0_drawVectors_59 ?_
      obtain ⟨x20, ex20, hF⟩ := ltt_some hF
      refine lv_topi (fun zx20 ezx20 => ?_)
      obtain rfl : x20 = zx20 := ex20.trans ezx20.symm
      refine lv_aloadq_n hx hb dX0_drawVectors_60 rfl (lv_at hl 2 rfl) ?_
      refine lv_iload hx hb dX0_drawVectors_61 (lv_at hl 0 rfl) ?_
      refine W_st (st' := [.int x10, .ref (ad b12), .int x20, .int p1, va_re ad (s4.2.2 b19 5)]) (by rw [va_some ho12]) ?_
      obtain ⟨hvc, hF⟩ := chk_some hF
      refine va_iald hx hb hK hP b12 1 (wld_i ct ad G s4.2 hc12 hk12) rfl hvc dX0_drawVectors_63 ?_
      obtain ⟨x21, ex21, hF⟩ := ltt_some hF
      refine lv_topi (fun zx21 ezx21 => ?_)
      obtain rfl : x21 = zx21 := ex21.trans ezx21.symm
      refine lv_iadd hx hb dX0_drawVectors_64 ?_
      obtain ⟨x22, ex22, hF⟩ := ltt_some hF
      refine lv_topi (fun zx22 ezx22 => ?_)
      obtain rfl : x22 = zx22 := ex22.trans ezx22.symm
      obtain ⟨y23, hy23, hF⟩ := bnd_some hF
      have hf9 := wA_in hD hA9 hS
      refine va_calli (va_runS (As := [.int p1, .int x22]) (rest := [va_re ad (s4.2.2 b19 5)]) ⟨hx, hb, hml, hown, hts⟩ (kX4_at l D ct ad Z G s4.2 H.size p1 x22 y23 hy23) (va_cwS 2 hts gX0_drawVectors_X4_at rfl rfl rfl (by decide +kernel) ⟨Nat.le_of_ble_eq_true rfl, Nat.le_of_ble_eq_true rfl⟩) ⟨fun a U g mk q => by obtain ⟨q0, q1, qP, qK, qD, qZ, qN⟩ := q; exact ⟨q0, q1, qP, va_K.moved (u := U) (U := U.calling g mk a) (Vm.Alike.refl U.vm) qK, qD, sF.moved (u := U) (U := U.calling g mk a) (Vm.Alike.refl U.vm) qZ, nF.same rfl qN⟩, fun U hU hW => ⟨rfl, by rw [hU], by rw [hU]; exact hP, va_K.moved hW.alike hK, hD.weaken (fun _ _ _ _ => trivial), by rw [hU]; exact ((hZ.kept hS.2.1).narrow hf9).moved hW.alike, hN.warm hW⟩⟩ rfl rfl hl.1 rfl (lv_room (by simp only [List.map, va_re_cat]; exact Nat.le_of_ble_eq_true rfl)) dX0_drawVectors_65 ⟨(Nat.zero_le _), (Nat.zero_le _)⟩) hS (fun q _ h => hf9 q h) hf9 (fun r u t H locs ht hvm hw hB hz1 hk1 hS => ?_)
      obtain ⟨hP, hK9, hD9⟩ := hB
      rw [ht] at hP
      try dsimp only at hw
      subst hw
      have hD := hD9.weaken (fun _ q _ h => hf9 q.1 h)
      obtain ⟨b24, ho24, hc24, hk24, hF⟩ := dr_some hF
      refine W_st (st' := [.int y23.2, .ref (ad b24)]) (by rw [va_some ho24]) ?_
      obtain ⟨hvc, hF⟩ := chk_some hF
      refine va_iald hx hb hK hP b24 1 (wld_i ct ad G y23.1 hc24 hk24) rfl hvc dX0_drawVectors_68 ?_
      obtain ⟨x25, ex25, hF⟩ := ltt_some hF
      refine lv_topi (fun zx25 ezx25 => ?_)
      obtain rfl : x25 = zx25 := ex25.trans ezx25.symm
      refine lv_istore (lv' := [(6, .int x25), (5, .int x10), (4, .int s4.1), (3, va_re ad (M.2 b2 13)), (0, .ref (ad a)), (1, .int p0), (2, .int p1)]) hx hb dX0_drawVectors_69 hl (by decide) rfl (fun ls hl => ?_)
      refine lv_aload_n hx hb dX0_drawVectors_71 rfl (lv_at hl 4 rfl) ?_
      refine va_get (D := D) (ci := 0) (v := va_re ad (y23.1.2 a 3)) (C := RX0) (T := TX0) (N := 21) hx hb hts (mus hf_X0) hown hK hP a (wld_o ct ad G y23.1 hc hk (by decide)) rfl 3 (by decide) (hts (.fieldLink RX0 36 "VideoSuite$Coder" "work" "LVideoSuite$Work;") (mu mw_817)) (fun _ h9 => h9) rfl dX0_drawVectors_72 ?_
      refine lv_iload_n hx hb dX0_drawVectors_75 rfl (lv_at hl 5 rfl) ?_
      refine lv_iload_n hx hb dX0_drawVectors_76 rfl (lv_at hl 6 rfl) ?_
      refine lv_iload hx hb dX0_drawVectors_77 (lv_at hl 0 rfl) ?_
      refine lv_aloadq_n hx hb dX0_drawVectors_79 rfl (lv_at hl 3 rfl) ?_
      refine lv_iload hx hb dX0_drawVectors_80 (lv_at hl 1 rfl) ?_
      refine W_st (st' := [.int x10, .ref (ad b12), .int x25, .int p1, .int p0, va_re ad (y23.1.2 a 3)]) (by rw [va_some ho12]) ?_
      obtain ⟨hvc, hF⟩ := chk_some hF
      refine va_iald hx hb hK hP b12 1 (wld_i ct ad G y23.1 hc12 hk12) rfl hvc dX0_drawVectors_82 ?_
      obtain ⟨x26, ex26, hF⟩ := ltt_some hF
      refine lv_topi (fun zx26 ezx26 => ?_)
      obtain rfl : x26 = zx26 := ex26.trans ezx26.symm
      refine lv_aloadq_n hx hb dX0_drawVectors_83 rfl (lv_at hl 3 rfl) ?_
      refine lv_iload hx hb dX0_drawVectors_84 (lv_at hl 1 rfl) ?_
      refine lv_iconst (v := (1 : Int32)) hx hb dX0_drawVectors_86 (by decide) ?_
      refine lv_iadd hx hb dX0_drawVectors_87 ?_
      obtain ⟨x27, ex27, hF⟩ := ltt_some hF
      refine lv_topi (fun zx27 ezx27 => ?_)
      obtain rfl : x27 = zx27 := ex27.trans ezx27.symm
      refine W_st (st' := [.int x27, .ref (ad b12), .int x26, .int x25, .int p1, .int p0, va_re ad (y23.1.2 a 3)]) (by rw [va_some ho12]) ?_
      obtain ⟨hvc, hF⟩ := chk_some hF
      refine va_iald hx hb hK hP b12 1 (wld_i ct ad G y23.1 hc12 hk12) rfl hvc dX0_drawVectors_88 ?_
      obtain ⟨x28, ex28, hF⟩ := ltt_some hF
      refine lv_topi (fun zx28 ezx28 => ?_)
      obtain rfl : x28 = zx28 := ex28.trans ezx28.symm
      refine lv_aloadq_n hx hb dX0_drawVectors_89 rfl (lv_at hl 3 rfl) ?_
      refine lv_iload hx hb dX0_drawVectors_90 (lv_at hl 1 rfl) ?_
      refine lv_iconst (v := (4 : Int32)) hx hb dX0_drawVectors_92 (by decide) ?_
      refine lv_iadd hx hb dX0_drawVectors_93 ?_
      obtain ⟨x29, ex29, hF⟩ := ltt_some hF
      refine lv_topi (fun zx29 ezx29 => ?_)
      obtain rfl : x29 = zx29 := ex29.trans ezx29.symm
      refine W_st (st' := [.int x29, .ref (ad b12), .int x28, .int x26, .int x25, .int p1, .int p0, va_re ad (y23.1.2 a 3)]) (by rw [va_some ho12]) ?_
      obtain ⟨hvc, hF⟩ := chk_some hF
      refine va_iald hx hb hK hP b12 1 (wld_i ct ad G y23.1 hc12 hk12) rfl hvc dX0_drawVectors_94 ?_
      obtain ⟨x30, ex30, hF⟩ := ltt_some hF
      refine lv_topi (fun zx30 ezx30 => ?_)
      obtain rfl : x30 = zx30 := ex30.trans ezx30.symm
      obtain ⟨b31, ho31, hc31, hk31, hF⟩ := dr_some hF
      refine W_st (st' := [.int x30, .int x28, .int x26, .int x25, .int p1, .int p0, .ref (ad b31)]) (by rw [va_some ho31]) ?_
      obtain ⟨y32, hy32, hF⟩ := bnd_some hF
      have hf9 := wA_in hD hA9 hS
      refine va_callv (va_runV (As := [.int p0, .int p1, .int x25, .int x26, .int x28, .int x30]) (rest := []) ⟨hx, hb, hml, hown, hts⟩ (kX9_guess l D ct ad Z G y23.1 H.size b31 p0 p1 x25 x26 x28 x30 y32 hc31 hk31 hy32) (cwV 6 hts gX0_drawVectors_X9_guess rfl rfl rfl (by decide +kernel) ⟨Nat.le_of_ble_eq_true rfl, Nat.le_of_ble_eq_true rfl⟩) ⟨fun a U g mk q => by obtain ⟨q0, q1, qP, qK, qD, qZ, qN⟩ := q; exact ⟨q0, q1, qP, va_K.moved (u := U) (U := U.calling g mk a) (Vm.Alike.refl U.vm) qK, qD, sF.moved (u := U) (U := U.calling g mk a) (Vm.Alike.refl U.vm) qZ, nF.same rfl qN⟩, va_recv hK hP (ci := 9) (q0 := b31) rfl (wld_o ct ad G y23.1 hc31 hk31 (by decide)), fun U hU hW => ⟨rfl, by rw [hU], by rw [hU]; exact hP, va_K.moved hW.alike hK, hD.weaken (fun _ _ _ _ => trivial), by rw [hU]; exact ((hZ.kept hS.2.1).narrow hf9).moved hW.alike, hN.warm hW⟩⟩ rfl rfl hl.1 rfl (lv_room (Nat.le_of_ble_eq_true rfl)) dX0_drawVectors_95 ⟨(Nat.zero_le _), (Nat.zero_le _)⟩) hS (fun q _ h => hf9 q h) hf9 (fun u t H locs ht hvm hw hB hz1 hk1 hS => ?_)
      obtain ⟨hP, hK9, hD9⟩ := hB
      rw [ht] at hP
      have hD := hD9.weaken (fun _ q _ h => hf9 q.1 h)
      refine lv_sipush (v := (-2048 : Int32)) hx hb dX0_drawVectors_98 (by decide) ?_
      refine lv_sipush (v := (2047 : Int32)) hx hb dX0_drawVectors_101 (by decide) ?_
      refine lv_aload_n hx hb dX0_drawVectors_104 rfl (lv_at hl 4 rfl) ?_
      refine va_get (D := D) (ci := 0) (v := va_re ad (y32.2 a 3)) (C := RX0) (T := TX0) (N := 21) hx hb hts (mus hf_X0) hown hK hP a (wld_o ct ad G y32 hc hk (by decide)) rfl 3 (by decide) (hts (.fieldLink RX0 36 "VideoSuite$Coder" "work" "LVideoSuite$Work;") (mu mw_817)) (fun _ h9 => h9) rfl dX0_drawVectors_105 ?_
      obtain ⟨b33, ho33, hc33, hk33, hF⟩ := dr_some hF
      refine W_st (st' := [.ref (ad b33), .int (2047 : Int32), .int (-2048 : Int32)]) (by rw [va_some ho33]) ?_
      refine va_get (D := D) (ci := 9) (v := .int (y32.1 b33 18)) (C := RX9) (T := TX9) (N := 20) hx hb hts (mus hf_X9) hown hK hP b33 (wld_o ct ad G y32 hc33 hk33 (by decide)) rfl 18 (by decide) (hts (.fieldLink RX0 419 "VideoSuite$Work" "guessX" "I") (mu mw_482)) (fun _ h9 => h9) rfl dX0_drawVectors_108 ?_
      obtain ⟨x34, ex34, hF⟩ := ltt_some hF
      refine lv_topi (fun zx34 ezx34 => ?_)
      obtain rfl : x34 = zx34 := ex34.trans ezx34.symm
      refine lv_aload_n hx hb dX0_drawVectors_111 rfl (lv_at hl 4 rfl) ?_
      refine lv_bipush (v := (33 : Int32)) hx hb dX0_drawVectors_112 (by decide) ?_
      obtain ⟨y35, hy35, hF⟩ := bnd_some hF
      have hf9 := wA_in hD hA9 hS
      refine va_calli (va_runV (As := [.int (33 : Int32)]) (rest := [.int x34, .int (2047 : Int32), .int (-2048 : Int32)]) ⟨hx, hb, hml, hown, hts⟩ (kX0_draw l D ct ad Z G y32 H.size a ((33 : Int32)) y35 hc hk hy35) (cwV 1 hts gX0_drawVectors_X0_draw rfl rfl rfl (by decide +kernel) ⟨Nat.le_of_ble_eq_true rfl, Nat.le_of_ble_eq_true rfl⟩) ⟨fun a U g mk q => by obtain ⟨q0, q1, qP, qK, qD, qZ, qN⟩ := q; exact ⟨q0, q1, qP, va_K.moved (u := U) (U := U.calling g mk a) (Vm.Alike.refl U.vm) qK, qD, sF.moved (u := U) (U := U.calling g mk a) (Vm.Alike.refl U.vm) qZ, nF.same rfl qN⟩, va_recv hK hP (ci := 0) (q0 := a) rfl (wld_o ct ad G y32 hc hk (by decide)), fun U hU hW => ⟨rfl, by rw [hU], by rw [hU]; exact hP, va_K.moved hW.alike hK, hD.weaken (fun _ _ _ _ => trivial), by rw [hU]; exact ((hZ.kept hS.2.1).narrow hf9).moved hW.alike, hN.warm hW⟩⟩ rfl rfl hl.1 rfl (lv_room (Nat.le_of_ble_eq_true rfl)) dX0_drawVectors_114 ⟨(Nat.zero_le _), (Nat.zero_le _)⟩) hS (fun q _ h => hf9 q h) hf9 (fun r u t H locs ht hvm hw hB hz1 hk1 hS => ?_)
      obtain ⟨hP, hK9, hD9⟩ := hB
      rw [ht] at hP
      try dsimp only at hw
      subst hw
      have hD := hD9.weaken (fun _ q _ h => hf9 q.1 h)
      refine lv_iadd hx hb dX0_drawVectors_117 ?_
      obtain ⟨x36, ex36, hF⟩ := ltt_some hF
      refine lv_topi (fun zx36 ezx36 => ?_)
      obtain rfl : x36 = zx36 := ex36.trans ezx36.symm
      refine lv_bipush (v := (16 : Int32)) hx hb dX0_drawVectors_118 (by decide) ?_
      refine lv_isub hx hb dX0_drawVectors_120 ?_
      obtain ⟨x37, ex37, hF⟩ := ltt_some hF
      refine lv_topi (fun zx37 ezx37 => ?_)
      obtain rfl : x37 = zx37 := ex37.trans ezx37.symm
      obtain ⟨y38, hy38, hF⟩ := bnd_some hF
      have hf9 := wA_in hD hA9 hS
      refine va_calli (va_runSN (As := [.int (-2048 : Int32), .int (2047 : Int32), .int x37]) (rest := []) ⟨hx, hb, hml, hown, hts⟩ (kX11_clamp l D ct ad Z G y35.1 H.size ((-2048 : Int32)) ((2047 : Int32)) x37 y38 hy38) ⟨va_cnB 3 hts gX0_drawVectors_X11_clamp_n286 rfl rfl rfl (hN.1 (RX0, 286, yX11_clamp, RX11) (List.mem_of_getElem? (i := 5) rfl)) (hts (.initialized RX11) (mu mw_166)) (by decide +kernel) ⟨Nat.le_of_ble_eq_true rfl, Nat.le_of_ble_eq_true rfl⟩, hts (.static yX11_clamp) (mu mw_938), trivial⟩ ⟨fun a U g mk q => by obtain ⟨q0, q1, qP, qK, qD, qZ, qN⟩ := q; exact ⟨q0, q1, qP, va_K.moved (u := U) (U := U.calling g mk a) (Vm.Alike.refl U.vm) qK, qD, sF.moved (u := U) (U := U.calling g mk a) (Vm.Alike.refl U.vm) qZ, nF.same rfl qN⟩, fun U hU hW => ⟨rfl, by rw [hU], by rw [hU]; exact hP, va_K.moved hW.alike hK, hD.weaken (fun _ _ _ _ => trivial), by rw [hU]; exact ((hZ.kept hS.2.1).narrow hf9).moved hW.alike, hN.warm hW⟩⟩ rfl rfl hl.1 rfl (lv_room (Nat.le_of_ble_eq_true rfl)) dX0_drawVectors_121 ⟨(Nat.zero_le _), (Nat.zero_le _)⟩) hS (fun q _ h => hf9 q h) hf9 (fun r u t H locs ht hvm hw hB hz1 hk1 hS => ?_)
      obtain ⟨hP, hK9, hD9⟩ := hB
      rw [ht] at hP
      try dsimp only at hw
      subst hw
      have hD := hD9.weaken (fun _ q _ h => hf9 q.1 h)
      refine lv_istore (lv' := [(7, .int y38.2), (6, .int x25), (5, .int x10), (4, .int s4.1), (3, va_re ad (M.2 b2 13)), (0, .ref (ad a)), (1, .int p0), (2, .int p1)]) hx hb dX0_drawVectors_124 hl (by decide) rfl (fun ls hl => ?_)
      refine lv_sipush (v := (-2048 : Int32)) hx hb dX0_drawVectors_126 (by decide) ?_
      refine lv_sipush (v := (2047 : Int32)) hx hb dX0_drawVectors_129 (by decide) ?_
      refine lv_aload_n hx hb dX0_drawVectors_132 rfl (lv_at hl 5 rfl) ?_
      refine va_get (D := D) (ci := 0) (v := va_re ad (y38.1.2 a 3)) (C := RX0) (T := TX0) (N := 21) hx hb hts (mus hf_X0) hown hK hP a (wld_o ct ad G y38.1 hc hk (by decide)) rfl 3 (by decide) (hts (.fieldLink RX0 36 "VideoSuite$Coder" "work" "LVideoSuite$Work;") (mu mw_817)) (fun _ h9 => h9) rfl dX0_drawVectors_133 ?_
      obtain ⟨b39, ho39, hc39, hk39, hF⟩ := dr_some hF
      refine W_st (st' := [.ref (ad b39), .int (2047 : Int32), .int (-2048 : Int32)]) (by rw [va_some ho39]) ?_
      refine va_get (D := D) (ci := 9) (v := .int (y38.1.1 b39 19)) (C := RX9) (T := TX9) (N := 20) hx hb hts (mus hf_X9) hown hK hP b39 (wld_o ct ad G y38.1 hc39 hk39 (by decide)) rfl 19 (by decide) (hts (.fieldLink RX0 422 "VideoSuite$Work" "guessY" "I") (mu mw_485)) (fun _ h9 => h9) rfl dX0_drawVectors_136 ?_
      obtain ⟨x40, ex40, hF⟩ := ltt_some hF
      refine lv_topi (fun zx40 ezx40 => ?_)
      obtain rfl : x40 = zx40 := ex40.trans ezx40.symm
      refine lv_aload_n hx hb dX0_drawVectors_139 rfl (lv_at hl 5 rfl) ?_
      refine lv_bipush (v := (33 : Int32)) hx hb dX0_drawVectors_140 (by decide) ?_
      obtain ⟨y41, hy41, hF⟩ := bnd_some hF
      have hf9 := wA_in hD hA9 hS
      refine va_calli (va_runV (As := [.int (33 : Int32)]) (rest := [.int x40, .int (2047 : Int32), .int (-2048 : Int32)]) ⟨hx, hb, hml, hown, hts⟩ (kX0_draw l D ct ad Z G y38.1 H.size a ((33 : Int32)) y41 hc hk hy41) (cwV 1 hts gX0_drawVectors_X0_draw rfl rfl rfl (by decide +kernel) ⟨Nat.le_of_ble_eq_true rfl, Nat.le_of_ble_eq_true rfl⟩) ⟨fun a U g mk q => by obtain ⟨q0, q1, qP, qK, qD, qZ, qN⟩ := q; exact ⟨q0, q1, qP, va_K.moved (u := U) (U := U.calling g mk a) (Vm.Alike.refl U.vm) qK, qD, sF.moved (u := U) (U := U.calling g mk a) (Vm.Alike.refl U.vm) qZ, nF.same rfl qN⟩, va_recv hK hP (ci := 0) (q0 := a) rfl (wld_o ct ad G y38.1 hc hk (by decide)), fun U hU hW => ⟨rfl, by rw [hU], by rw [hU]; exact hP, va_K.moved hW.alike hK, hD.weaken (fun _ _ _ _ => trivial), by rw [hU]; exact ((hZ.kept hS.2.1).narrow hf9).moved hW.alike, hN.warm hW⟩⟩ rfl rfl hl.1 rfl (lv_room (Nat.le_of_ble_eq_true rfl)) dX0_drawVectors_142 ⟨(Nat.zero_le _), (Nat.zero_le _)⟩) hS (fun q _ h => hf9 q h) hf9 (fun r u t H locs ht hvm hw hB hz1 hk1 hS => ?_)
      obtain ⟨hP, hK9, hD9⟩ := hB
      rw [ht] at hP
      try dsimp only at hw
      subst hw
      have hD := hD9.weaken (fun _ q _ h => hf9 q.1 h)
      refine lv_iadd hx hb dX0_drawVectors_145 ?_
      obtain ⟨x42, ex42, hF⟩ := ltt_some hF
      refine lv_topi (fun zx42 ezx42 => ?_)
      obtain rfl : x42 = zx42 := ex42.trans ezx42.symm
      refine lv_bipush (v := (16 : Int32)) hx hb dX0_drawVectors_146 (by decide) ?_
      refine lv_isub hx hb dX0_drawVectors_148 ?_
      obtain ⟨x43, ex43, hF⟩ := ltt_some hF
      refine lv_topi (fun zx43 ezx43 => ?_)
      obtain rfl : x43 = zx43 := ex43.trans ezx43.symm
      obtain ⟨y44, hy44, hF⟩ := bnd_some hF
      have hf9 := wA_in hD hA9 hS
      refine va_calli (va_runSN (As := [.int (-2048 : Int32), .int (2047 : Int32), .int x43]) (rest := []) ⟨hx, hb, hml, hown, hts⟩ (kX11_clamp l D ct ad Z G y41.1 H.size ((-2048 : Int32)) ((2047 : Int32)) x43 y44 hy44) ⟨va_cnB 3 hts gX0_drawVectors_X11_clamp_n286 rfl rfl rfl (hN.1 (RX0, 286, yX11_clamp, RX11) (List.mem_of_getElem? (i := 5) rfl)) (hts (.initialized RX11) (mu mw_166)) (by decide +kernel) ⟨Nat.le_of_ble_eq_true rfl, Nat.le_of_ble_eq_true rfl⟩, hts (.static yX11_clamp) (mu mw_938), trivial⟩ ⟨fun a U g mk q => by obtain ⟨q0, q1, qP, qK, qD, qZ, qN⟩ := q; exact ⟨q0, q1, qP, va_K.moved (u := U) (U := U.calling g mk a) (Vm.Alike.refl U.vm) qK, qD, sF.moved (u := U) (U := U.calling g mk a) (Vm.Alike.refl U.vm) qZ, nF.same rfl qN⟩, fun U hU hW => ⟨rfl, by rw [hU], by rw [hU]; exact hP, va_K.moved hW.alike hK, hD.weaken (fun _ _ _ _ => trivial), by rw [hU]; exact ((hZ.kept hS.2.1).narrow hf9).moved hW.alike, hN.warm hW⟩⟩ rfl rfl hl.1 rfl (lv_room (Nat.le_of_ble_eq_true rfl)) dX0_drawVectors_149 ⟨(Nat.zero_le _), (Nat.zero_le _)⟩) hS (fun q _ h => hf9 q h) hf9 (fun r u t H locs ht hvm hw hB hz1 hk1 hS => ?_)
      obtain ⟨hP, hK9, hD9⟩ := hB
      rw [ht] at hP
      try dsimp only at hw
      subst hw
      have hD := hD9.weaken (fun _ q _ h => hf9 q.1 h)
      refine lv_istore (lv' := [(8, .int y44.2), (7, .int y38.2), (6, .int x25), (5, .int x10), (4, .int s4.1), (3, va_re ad (M.2 b2 13)), (0, .ref (ad a)), (1, .int p0), (2, .int p1)]) hx hb dX0_drawVectors_152 hl (by decide) rfl (fun ls hl => ?_)
      refine lv_aload_n hx hb dX0_drawVectors_154 rfl (lv_at hl 6 rfl) ?_
      refine lv_iload_n hx hb dX0_drawVectors_155 rfl (lv_at hl 7 rfl) ?_
      refine lv_iload_n hx hb dX0_drawVectors_156 rfl (lv_at hl 8 rfl) ?_
      refine lv_iload hx hb dX0_drawVectors_157 (lv_at hl 4 rfl) ?_
      refine lv_iload hx hb dX0_drawVectors_159 (lv_at hl 1 rfl) ?_
      refine lv_iload hx hb dX0_drawVectors_161 (lv_at hl 0 rfl) ?_
      obtain ⟨y45, hy45, hF⟩ := bnd_some hF
      have hf9 := wA_in hD hA9 hS
      refine va_callv (va_runV (As := [.int p0, .int p1, .int s4.1, .int y38.2, .int y44.2]) (rest := []) ⟨hx, hb, hml, hown, hts⟩ (kX0_setVector l D ct ad Z G y44.1 H.size a p0 p1 s4.1 y38.2 y44.2 y45 hc hk hy45) (cwV 5 hts gX0_drawVectors_X0_setVector rfl rfl rfl (by decide +kernel) ⟨Nat.le_of_ble_eq_true rfl, Nat.le_of_ble_eq_true rfl⟩) ⟨fun a U g mk q => by obtain ⟨q0, q1, qP, qK, qD, qZ, qN⟩ := q; exact ⟨q0, q1, qP, va_K.moved (u := U) (U := U.calling g mk a) (Vm.Alike.refl U.vm) qK, qD, sF.moved (u := U) (U := U.calling g mk a) (Vm.Alike.refl U.vm) qZ, nF.same rfl qN⟩, va_recv hK hP (ci := 0) (q0 := a) rfl (wld_o ct ad G y44.1 hc hk (by decide)), fun U hU hW => ⟨rfl, by rw [hU], by rw [hU]; exact hP, va_K.moved hW.alike hK, hD.weaken (fun _ _ _ _ => trivial), by rw [hU]; exact ((hZ.kept hS.2.1).narrow hf9).moved hW.alike, hN.warm hW⟩⟩ rfl rfl hl.1 rfl (lv_room (Nat.le_of_ble_eq_true rfl)) dX0_drawVectors_163 ⟨(Nat.zero_le _), (Nat.zero_le _)⟩) hS (fun q _ h => hf9 q h) hf9 (fun u t H locs ht hvm hw hB hz1 hk1 hS => ?_)
      obtain ⟨hP, hK9, hD9⟩ := hB
      rw [ht] at hP
      have hD := hD9.weaken (fun _ q _ h => hf9 q.1 h)
      obtain rfl := Option.some.inj hF
      exact J16 _ _ _ hP hD hS (lv_sub hl [3, 4, 5, 6, 7, 8] rfl)
    · rw [if_pos c18] at hF
      refine lv_goto (tgt := 166) hx hb dX0_drawVectors_42 (by decide) ?_
      obtain rfl := Option.some.inj hF
      exact J16 _ _ _ hP hD hS (lv_sub hl [0, 1, 2, 3, 4, 5] rfl)
set_option maxRecDepth 20000 in
theorem gX0_flag_X10_code : GoodIn wuX0_flag (wsV RX0 150 RX10 yX10_code wuX10_code) := gu_V mw_1140 mw_1141 mw_1142 mw_176 mw_1143
theorem dX0_flag_0 : decode cX0_flag 0 = .ok (.aload_n 0, 1) := by decide +kernel
theorem dX0_flag_1 : decode cX0_flag 1 = .ok (.getfield 29, 3) := by decide +kernel
theorem dX0_flag_4 : decode cX0_flag 4 = .ok (.iconst 0, 1) := by decide +kernel
theorem dX0_flag_5 : decode cX0_flag 5 = .ok (.iload_n 1, 1) := by decide +kernel
theorem dX0_flag_6 : decode cX0_flag 6 = .ok (.i2l, 1) := by decide +kernel
theorem dX0_flag_7 : decode cX0_flag 7 = .ok (.iconst 1, 1) := by decide +kernel
theorem dX0_flag_8 : decode cX0_flag 8 = .ok (.invokevirtual 150, 3) := by decide +kernel
theorem dX0_flag_11 : decode cX0_flag 11 = .ok (.return_, 1) := by decide +kernel
noncomputable def FX0_flag (G : GG) (M : DD) (a : Nat) (p0 : Int32) : Option (NN × DD) :=
  ltt (p0.toInt64) fun x1 =>
  dr (xt G []) 10 ((M.2 a 2)) fun b2 =>
  bnd (FX10_code (xt G []) M b2 ((0 : Int32)) x1 ((1 : Int32))) fun y3 =>
  app y3.1 <|
  ltt ([] ++ y3.1) fun L5 =>
  some ([], y3.2)
set_option maxHeartbeats 4000000 in
set_option maxRecDepth 100000 in
theorem kX0_flag (l : Launch) (D : va_G) (ct : CT) (ad : Nat → Nat) (Z : Nat → Nat) (G : GG) (M : DD) (sz : Nat) (a : Nat) (p0 : Int32) (y : NN × DD) (hc : a < G.1) (hk : G.2.1 a = 0) (hF : FX0_flag G M a p0 = some y) : Met l yX0_flag wuX0_flag ({ frames := 5, cells := y.1.length, slots := wt y.1, locals := 175 }) (va_Pc [.ref (ad a), .int p0] (kB D ct ad Z G M sz)) (va_Qv (fun (u : Nat → Nat) => agr G.1 ad u) (fun u t => kE D ct u (xt G y.1) (wA ad G sz) y.2 t) (wA ad G sz)) y.1.length (wt y.1) (wA ad G sz) := by
  refine Met.ofW (cc := cX0_flag) (maxL := 2) (ret := none) (by decide) rfl ?_
  intro p e s m args below meth c s₁ B hml hv
  obtain ⟨rfl, hsz, hP, hK, hD0, hZ, hN⟩ := hv
  have hx := B.exec
  have hb := B.bytes
  have hr := B.returns
  have hts := atoms_spec (ws := wuX0_flag) B.pre
  have hown : s.vm.findClass RX0 = some m.cls := findClass_of_methodNamed B.named
  have hlocks := B.notSynchronized
  subst hsz
  have hD := wD_self (sz := s.heap.size) hD0
  have hA9 : ∀ q, s.heap.size ≤ q → wA ad G s.heap.size q := fun q h => Or.inr h
  generalize hAe : wA ad G s.heap.size = A at hD hA9 hZ ⊢
  have hS : va_S A s.heap s.heap [] := va_S.rf
  have hl := lv_entry ([.ref (ad a), .int p0]) (n := 2) (Nat.le_of_ble_eq_true rfl)
  rw [lg_entry_eq]
  generalize (lg_sl ([.ref (ad a), .int p0]) ++ List.replicate (2 - (lg_sl ([.ref (ad a), .int p0])).length) Slot.unset).toArray = ls at hl ⊢
  have hl : lv_has ls 2 [(0, .ref (ad a)), (1, .int p0)] := hl
  unfold FX0_flag at hF
  rw [← wld_0 ct ad G M] at hP hD
  have hk := xt_k0 hc hk
  have hc := xt_l0 hc
  have hag := agr_rf G.1 ad
  obtain ⟨w0, hw0⟩ : ∃ z, z = y := ⟨_, rfl⟩
  rw [← hw0] at hF
  have hT : y.1 = [] ++ w0.1 := by rw [hw0]; rfl
  have h2 : y.2 = w0.2 := by rw [hw0]
  have hbl : y.1.length ≤ y.1.length ∧ wt y.1 ≤ wt y.1 := ⟨Nat.le_refl _, Nat.le_refl _⟩
  refine lv_aload_n hx hb dX0_flag_0 rfl (lv_at hl 0 rfl) ?_
  refine va_get (D := D) (ci := 0) (v := va_re ad (M.2 a 2)) (C := RX0) (T := TX0) (N := 21) hx hb hts (mus hf_X0) hown hK hP a (wld_o ct ad (xt G []) M hc hk (by decide)) rfl 2 (by decide) (hts (.fieldLink RX0 29 "VideoSuite$Coder" "writer" "LVideoSuite$Writer;") (mu mw_815)) (fun _ h9 => h9) rfl dX0_flag_1 ?_
  refine lv_iconst (v := (0 : Int32)) hx hb dX0_flag_4 (by decide) ?_
  refine lv_iload_n hx hb dX0_flag_5 rfl (lv_at hl 1 rfl) ?_
  refine lv_i2l (v := p0.toInt64) hx hb dX0_flag_6 rfl ?_
  obtain ⟨x1, ex1, hF⟩ := ltt_some hF
  refine lv_topl (fun zx1 ezx1 => ?_)
  obtain rfl : x1 = zx1 := ex1.trans ezx1.symm
  refine lv_iconst (v := (1 : Int32)) hx hb dX0_flag_7 (by decide) ?_
  obtain ⟨b2, ho2, hc2, hk2, hF⟩ := dr_some hF
  refine W_st (st' := [.int (1 : Int32), .long x1, .int (0 : Int32), .ref (ad b2)]) (by rw [va_some ho2]) ?_
  obtain ⟨y3, hy3, hF⟩ := bnd_some hF
  obtain ⟨w4, hF, ew4⟩ := app_some hF
  obtain ⟨L5, eL5, hF⟩ := ltt_some hF
  have hT5 : y.1 = ([] ++ y3.1) ++ w4.1 := by rw [hT, ew4]; simp only [List.append_assoc]
  have hf9 := wA_in hD hA9 hS
  refine va_callv (va_runV (As := [.int (0 : Int32), .long x1, .int (1 : Int32)]) (rest := []) ⟨hx, hb, hml, hown, hts⟩ (kX10_code l D ct ad Z (xt G []) M _ b2 ((0 : Int32)) x1 ((1 : Int32)) y3 hc2 hk2 hy3) (cwV 3 hts gX0_flag_X10_code rfl rfl rfl (by decide +kernel) ⟨Nat.le_of_ble_eq_true rfl, Nat.le_of_ble_eq_true rfl⟩) ⟨fun a U g mk q => by obtain ⟨q0, q1, qP, qK, qD, qZ, qN⟩ := q; exact ⟨q0, q1, qP, va_K.moved (u := U) (U := U.calling g mk a) (Vm.Alike.refl U.vm) qK, qD, sF.moved (u := U) (U := U.calling g mk a) (Vm.Alike.refl U.vm) qZ, nF.same rfl qN⟩, va_recv hK hP (ci := 10) (q0 := b2) rfl (wld_o ct ad (xt G []) M hc2 hk2 (by decide)), fun U hU hW => ⟨rfl, by rw [hU], by rw [hU]; exact hP, va_K.moved hW.alike hK, hD.weaken (fun _ _ _ _ => trivial), by rw [hU]; exact ((hZ.kept hS.2.1).narrow hf9).moved hW.alike, hN.warm hW⟩⟩ rfl rfl hl.1 rfl (lv_room (Nat.le_of_ble_eq_true rfl)) dX0_flag_8 (room_s hT5 hbl)) hS (fun q _ h => hf9 q h) hf9 (fun ad6 t H locs ht hvm hw hB hz1 hk1 hS => ?_)
  have hn7 := hw
  obtain ⟨hP, hK9, hD9⟩ := hB
  rw [ht] at hP
  have hD := hD9.weaken (fun _ q _ h => hf9 q.1 h)
  rw [xt_xt, ← eL5] at hP hD
  refine W_cs (k := L5.length) (n := wt L5) (by rw [eL5]; exact (len_s [] y3.1).symm) (by rw [eL5]; exact (wt_app [] y3.1).symm) ?_
  have hT : y.1 = L5 ++ w4.1 := by rw [hT5, eL5]
  have h2 : y.2 = w4.2 := by rw [h2, ew4]
  have hl := lv_sub (l' := []) hl [] rfl
  have hk : (xt G L5).2.1 a = 0 := by rw [eL5]; exact xt_k _ hc hk
  have hc : a < (xt G L5).1 := by rw [eL5]; exact xt_l _ hc
  have hk2 : (xt G L5).2.1 b2 = 10 := by rw [eL5]; exact xt_k _ hc2 hk2
  have hc2 : b2 < (xt G L5).1 := by rw [eL5]; exact xt_l _ hc2
  have hag := agr_t (xt_ge _ _) hag hn7
  obtain rfl := Option.some.inj hF
  have e1 : y.1 = L5 := by rw [hT]; exact List.append_nil _
  have e2 : y.2 = y3.2 := h2
  refine W.widen (k := y.1.length) (n := wt y.1) (Nat.le_of_eq (by rw [e1])) (Nat.le_of_eq (by rw [e1])) ?_
  exact W.vret hx hb hr (fun t ht hW => ⟨⟨ad6, rfl, hag, (by unfold kE; rw [e1, e2]; exact ⟨by rw [ht]; exact hP, va_K.moved hW.alike hK, hD⟩)⟩, hS.F ht⟩) hS.2.2 dX0_flag_11
set_option maxRecDepth 20000 in
theorem gX0_maySkip_X9_guessSkipped : GoodIn wuX0_maySkip (wsV RX0 557 RX9 yX9_guessSkipped wuX9_guessSkipped) := gu_V mw_2647 mw_1936 mw_1937 mw_171 mw_1938
theorem dX0_maySkip_0 : decode cX0_maySkip 0 = .ok (.bipush 8, 2) := by decide +kernel
theorem dX0_maySkip_2 : decode cX0_maySkip 2 = .ok (.iload_n 1, 1) := by decide +kernel
theorem dX0_maySkip_3 : decode cX0_maySkip 3 = .ok (.imul, 1) := by decide +kernel
theorem dX0_maySkip_4 : decode cX0_maySkip 4 = .ok (.istore_n 2, 1) := by decide +kernel
theorem dX0_maySkip_5 : decode cX0_maySkip 5 = .ok (.aload_n 0, 1) := by decide +kernel
theorem dX0_maySkip_6 : decode cX0_maySkip 6 = .ok (.getfield 36, 3) := by decide +kernel
theorem dX0_maySkip_9 : decode cX0_maySkip 9 = .ok (.getfield 216, 3) := by decide +kernel
theorem dX0_maySkip_12 : decode cX0_maySkip 12 = .ok (.iload_n 2, 1) := by decide +kernel
theorem dX0_maySkip_13 : decode cX0_maySkip 13 = .ok (.iconst 0, 1) := by decide +kernel
theorem dX0_maySkip_14 : decode cX0_maySkip 14 = .ok (.iadd, 1) := by decide +kernel
theorem dX0_maySkip_15 : decode cX0_maySkip 15 = .ok (.iaload, 1) := by decide +kernel
theorem dX0_maySkip_16 : decode cX0_maySkip 16 = .ok (.iconst 3, 1) := by decide +kernel
theorem dX0_maySkip_17 : decode cX0_maySkip 17 = .ok (.if_icmp .ne 43, 3) := by decide +kernel
theorem dX0_maySkip_20 : decode cX0_maySkip 20 = .ok (.aload_n 0, 1) := by decide +kernel
theorem dX0_maySkip_21 : decode cX0_maySkip 21 = .ok (.getfield 36, 3) := by decide +kernel
theorem dX0_maySkip_24 : decode cX0_maySkip 24 = .ok (.getfield 216, 3) := by decide +kernel
theorem dX0_maySkip_27 : decode cX0_maySkip 27 = .ok (.iload_n 2, 1) := by decide +kernel
theorem dX0_maySkip_28 : decode cX0_maySkip 28 = .ok (.iconst 1, 1) := by decide +kernel
theorem dX0_maySkip_29 : decode cX0_maySkip 29 = .ok (.iadd, 1) := by decide +kernel
theorem dX0_maySkip_30 : decode cX0_maySkip 30 = .ok (.iaload, 1) := by decide +kernel
theorem dX0_maySkip_31 : decode cX0_maySkip 31 = .ok (.ifCond .ne 29, 3) := by decide +kernel
theorem dX0_maySkip_34 : decode cX0_maySkip 34 = .ok (.aload_n 0, 1) := by decide +kernel
theorem dX0_maySkip_35 : decode cX0_maySkip 35 = .ok (.getfield 36, 3) := by decide +kernel
theorem dX0_maySkip_38 : decode cX0_maySkip 38 = .ok (.getfield 216, 3) := by decide +kernel
theorem dX0_maySkip_41 : decode cX0_maySkip 41 = .ok (.iload_n 2, 1) := by decide +kernel
theorem dX0_maySkip_42 : decode cX0_maySkip 42 = .ok (.iconst 3, 1) := by decide +kernel
theorem dX0_maySkip_43 : decode cX0_maySkip 43 = .ok (.iadd, 1) := by decide +kernel
theorem dX0_maySkip_44 : decode cX0_maySkip 44 = .ok (.iaload, 1) := by decide +kernel
theorem dX0_maySkip_45 : decode cX0_maySkip 45 = .ok (.aload_n 0, 1) := by decide +kernel
theorem dX0_maySkip_46 : decode cX0_maySkip 46 = .ok (.getfield 36, 3) := by decide +kernel
theorem dX0_maySkip_49 : decode cX0_maySkip 49 = .ok (.getfield 216, 3) := by decide +kernel
theorem dX0_maySkip_52 : decode cX0_maySkip 52 = .ok (.iload_n 2, 1) := by decide +kernel
theorem dX0_maySkip_53 : decode cX0_maySkip 53 = .ok (.iconst 4, 1) := by decide +kernel
theorem dX0_maySkip_54 : decode cX0_maySkip 54 = .ok (.iadd, 1) := by decide +kernel
theorem dX0_maySkip_55 : decode cX0_maySkip 55 = .ok (.iaload, 1) := by decide +kernel
theorem dX0_maySkip_56 : decode cX0_maySkip 56 = .ok (.iadd, 1) := by decide +kernel
theorem dX0_maySkip_57 : decode cX0_maySkip 57 = .ok (.ifCond .le 5, 3) := by decide +kernel
theorem dX0_maySkip_60 : decode cX0_maySkip 60 = .ok (.iconst 0, 1) := by decide +kernel
theorem dX0_maySkip_61 : decode cX0_maySkip 61 = .ok (.ireturn, 1) := by decide +kernel
theorem dX0_maySkip_62 : decode cX0_maySkip 62 = .ok (.aload_n 0, 1) := by decide +kernel
theorem dX0_maySkip_63 : decode cX0_maySkip 63 = .ok (.getfield 36, 3) := by decide +kernel
theorem dX0_maySkip_66 : decode cX0_maySkip 66 = .ok (.getfield 81, 3) := by decide +kernel
theorem dX0_maySkip_69 : decode cX0_maySkip 69 = .ok (.getfield 252, 3) := by decide +kernel
theorem dX0_maySkip_72 : decode cX0_maySkip 72 = .ok (.iconst 1, 1) := by decide +kernel
theorem dX0_maySkip_73 : decode cX0_maySkip 73 = .ok (.iaload, 1) := by decide +kernel
theorem dX0_maySkip_74 : decode cX0_maySkip 74 = .ok (.iconst 1, 1) := by decide +kernel
theorem dX0_maySkip_75 : decode cX0_maySkip 75 = .ok (.if_icmp .ne 5, 3) := by decide +kernel
theorem dX0_maySkip_78 : decode cX0_maySkip 78 = .ok (.iconst 1, 1) := by decide +kernel
theorem dX0_maySkip_79 : decode cX0_maySkip 79 = .ok (.ireturn, 1) := by decide +kernel
theorem dX0_maySkip_80 : decode cX0_maySkip 80 = .ok (.aload_n 0, 1) := by decide +kernel
theorem dX0_maySkip_81 : decode cX0_maySkip 81 = .ok (.getfield 36, 3) := by decide +kernel
theorem dX0_maySkip_84 : decode cX0_maySkip 84 = .ok (.iload_n 1, 1) := by decide +kernel
theorem dX0_maySkip_85 : decode cX0_maySkip 85 = .ok (.invokevirtual 557, 3) := by decide +kernel
theorem dX0_maySkip_88 : decode cX0_maySkip 88 = .ok (.bipush 16, 2) := by decide +kernel
theorem dX0_maySkip_90 : decode cX0_maySkip 90 = .ok (.iload_n 1, 1) := by decide +kernel
theorem dX0_maySkip_91 : decode cX0_maySkip 91 = .ok (.imul, 1) := by decide +kernel
theorem dX0_maySkip_92 : decode cX0_maySkip 92 = .ok (.istore_n 3, 1) := by decide +kernel
theorem dX0_maySkip_93 : decode cX0_maySkip 93 = .ok (.aload_n 0, 1) := by decide +kernel
theorem dX0_maySkip_94 : decode cX0_maySkip 94 = .ok (.getfield 36, 3) := by decide +kernel
theorem dX0_maySkip_97 : decode cX0_maySkip 97 = .ok (.getfield 266, 3) := by decide +kernel
theorem dX0_maySkip_100 : decode cX0_maySkip 100 = .ok (.getfield 409, 3) := by decide +kernel
theorem dX0_maySkip_103 : decode cX0_maySkip 103 = .ok (.iload_n 3, 1) := by decide +kernel
theorem dX0_maySkip_104 : decode cX0_maySkip 104 = .ok (.iaload, 1) := by decide +kernel
theorem dX0_maySkip_105 : decode cX0_maySkip 105 = .ok (.ifCond .ne 57, 3) := by decide +kernel
theorem dX0_maySkip_108 : decode cX0_maySkip 108 = .ok (.aload_n 0, 1) := by decide +kernel
theorem dX0_maySkip_109 : decode cX0_maySkip 109 = .ok (.getfield 36, 3) := by decide +kernel
theorem dX0_maySkip_112 : decode cX0_maySkip 112 = .ok (.getfield 266, 3) := by decide +kernel
theorem dX0_maySkip_115 : decode cX0_maySkip 115 = .ok (.getfield 560, 3) := by decide +kernel
theorem dX0_maySkip_118 : decode cX0_maySkip 118 = .ok (.iconst 2, 1) := by decide +kernel
theorem dX0_maySkip_119 : decode cX0_maySkip 119 = .ok (.iload_n 3, 1) := by decide +kernel
theorem dX0_maySkip_120 : decode cX0_maySkip 120 = .ok (.imul, 1) := by decide +kernel
theorem dX0_maySkip_121 : decode cX0_maySkip 121 = .ok (.iaload, 1) := by decide +kernel
theorem dX0_maySkip_122 : decode cX0_maySkip 122 = .ok (.aload_n 0, 1) := by decide +kernel
theorem dX0_maySkip_123 : decode cX0_maySkip 123 = .ok (.getfield 36, 3) := by decide +kernel
theorem dX0_maySkip_126 : decode cX0_maySkip 126 = .ok (.getfield 419, 3) := by decide +kernel
theorem dX0_maySkip_129 : decode cX0_maySkip 129 = .ok (.if_icmp .ne 33, 3) := by decide +kernel
theorem dX0_maySkip_132 : decode cX0_maySkip 132 = .ok (.aload_n 0, 1) := by decide +kernel
theorem dX0_maySkip_133 : decode cX0_maySkip 133 = .ok (.getfield 36, 3) := by decide +kernel
theorem dX0_maySkip_136 : decode cX0_maySkip 136 = .ok (.getfield 266, 3) := by decide +kernel
theorem dX0_maySkip_139 : decode cX0_maySkip 139 = .ok (.getfield 560, 3) := by decide +kernel
theorem dX0_maySkip_142 : decode cX0_maySkip 142 = .ok (.iconst 2, 1) := by decide +kernel
theorem dX0_maySkip_143 : decode cX0_maySkip 143 = .ok (.iload_n 3, 1) := by decide +kernel
theorem dX0_maySkip_144 : decode cX0_maySkip 144 = .ok (.imul, 1) := by decide +kernel
theorem dX0_maySkip_145 : decode cX0_maySkip 145 = .ok (.iconst 1, 1) := by decide +kernel
theorem dX0_maySkip_146 : decode cX0_maySkip 146 = .ok (.iadd, 1) := by decide +kernel
theorem dX0_maySkip_147 : decode cX0_maySkip 147 = .ok (.iaload, 1) := by decide +kernel
theorem dX0_maySkip_148 : decode cX0_maySkip 148 = .ok (.aload_n 0, 1) := by decide +kernel
theorem dX0_maySkip_149 : decode cX0_maySkip 149 = .ok (.getfield 36, 3) := by decide +kernel
theorem dX0_maySkip_152 : decode cX0_maySkip 152 = .ok (.getfield 422, 3) := by decide +kernel
theorem dX0_maySkip_155 : decode cX0_maySkip 155 = .ok (.if_icmp .ne 7, 3) := by decide +kernel
theorem dX0_maySkip_158 : decode cX0_maySkip 158 = .ok (.iconst 1, 1) := by decide +kernel
theorem dX0_maySkip_159 : decode cX0_maySkip 159 = .ok (.goto 4, 3) := by decide +kernel
theorem dX0_maySkip_162 : decode cX0_maySkip 162 = .ok (.iconst 0, 1) := by decide +kernel
theorem dX0_maySkip_163 : decode cX0_maySkip 163 = .ok (.ireturn, 1) := by decide +kernel
def FX0_maySkip (G : GG) (M : DD) (a : Nat) (p0 : Int32) : Option (DD × Int32) :=
  ltt ((((8 : Int32)) * p0)) fun x1 =>
  dr G 9 ((M.2 a 3)) fun b2 =>
  ltt ((x1 + ((0 : Int32)))) fun x3 =>
  dr G 13 ((M.2 b2 6)) fun b4 =>
  chk (¬ (x3 < 0 ∨ G.2.2 b4 ≤ x3.toNatClampNeg)) <|
  ltt (M.1 b4 x3.toNatClampNeg) fun x5 =>
  if x5 = ((3 : Int32)) then (ltt ((x1 + ((1 : Int32)))) fun x7 =>
  chk (¬ (x7 < 0 ∨ G.2.2 b4 ≤ x7.toNatClampNeg)) <|
  ltt (M.1 b4 x7.toNatClampNeg) fun x8 =>
  if x8 = ((0 : Int32)) then (ltt ((x1 + ((3 : Int32)))) fun x10 =>
  chk (¬ (x10 < 0 ∨ G.2.2 b4 ≤ x10.toNatClampNeg)) <|
  ltt (M.1 b4 x10.toNatClampNeg) fun x11 =>
  ltt ((x1 + ((4 : Int32)))) fun x12 =>
  chk (¬ (x12 < 0 ∨ G.2.2 b4 ≤ x12.toNatClampNeg)) <|
  ltt (M.1 b4 x12.toNatClampNeg) fun x13 =>
  ltt ((x11 + x13)) fun x14 =>
  if x14 ≤ ((0 : Int32)) then (dr G 3 ((M.2 b2 1)) fun b16 =>
  dr G 13 ((M.2 b16 0)) fun b17 =>
  chk (¬ (((1 : Int32)) < 0 ∨ G.2.2 b17 ≤ ((1 : Int32)).toNatClampNeg)) <|
  ltt (M.1 b17 ((1 : Int32)).toNatClampNeg) fun x18 =>
  if x18 = ((1 : Int32)) then (chk (((1 : Int32)) = 0 ∨ ((1 : Int32)) = 1) <|
  some (M, (1 : Int32))) else
  (bnd (FX9_guessSkipped G M b2 p0) fun y20 =>
  ltt ((((16 : Int32)) * p0)) fun x21 =>
  dr G 9 ((y20.2 a 3)) fun b22 =>
  dr G 4 ((y20.2 b22 0)) fun b23 =>
  dr G 13 ((y20.2 b23 5)) fun b24 =>
  chk (¬ (x21 < 0 ∨ G.2.2 b24 ≤ x21.toNatClampNeg)) <|
  ltt (y20.1 b24 x21.toNatClampNeg) fun x25 =>
  bnd (if x25 = ((0 : Int32)) then (ltt ((((2 : Int32)) * x21)) fun x28 =>
  dr G 13 ((y20.2 b23 7)) fun b29 =>
  chk (¬ (x28 < 0 ∨ G.2.2 b29 ≤ x28.toNatClampNeg)) <|
  ltt (y20.1 b29 x28.toNatClampNeg) fun x30 =>
  ltt (y20.1 b22 18) fun x31 =>
  bnd (if x30 = x31 then (ltt ((((2 : Int32)) * x21)) fun x34 =>
  ltt ((x34 + ((1 : Int32)))) fun x35 =>
  chk (¬ (x35 < 0 ∨ G.2.2 b29 ≤ x35.toNatClampNeg)) <|
  ltt (y20.1 b29 x35.toNatClampNeg) fun x36 =>
  ltt (y20.1 b22 19) fun x37 =>
  bnd (if x36 = x37 then (some ((1 : Int32))) else
  (some ((0 : Int32)))) fun (y38 : Int32) =>
  some (y38)) else
  (some ((0 : Int32)))) fun (y32 : Int32) =>
  some (y32)) else
  (some ((0 : Int32)))) fun (y26 : Int32) =>
  chk (y26 = 0 ∨ y26 = 1) <|
  some (y20, y26))) else
  (chk (((0 : Int32)) = 0 ∨ ((0 : Int32)) = 1) <|
  some (M, (0 : Int32)))) else
  (chk (((0 : Int32)) = 0 ∨ ((0 : Int32)) = 1) <|
  some (M, (0 : Int32)))) else
  (chk (((0 : Int32)) = 0 ∨ ((0 : Int32)) = 1) <|
  some (M, (0 : Int32)))
set_option maxHeartbeats 4000000 in
set_option maxRecDepth 100000 in
theorem kX0_maySkip (l : Launch) (D : va_G) (ct : CT) (ad : Nat → Nat) (Z : Nat → Nat) (G : GG) (M : DD) (sz : Nat) (a : Nat) (p0 : Int32) (y : DD × Int32) (hc : a < G.1) (hk : G.2.1 a = 0) (hF : FX0_maySkip G M a p0 = some y) : Met l yX0_maySkip wuX0_maySkip ({ frames := 3, cells := 0, slots := 0, locals := 92 }) (va_Pc [.ref (ad a), .int p0] (kB D ct ad Z G M sz)) (va_Qi (fun (q : Int32) (_ : Unit) => q = y.2) (fun _ t => kE D ct ad G (wA ad G sz) y.1 t) (wA ad G sz)) 0 0 (wA ad G sz) := by
  refine Met.ofW (cc := cX0_maySkip) (maxL := 4) (ret := (some .boolean)) (by decide) rfl ?_
  intro p e s m args below meth c s₁ B hml hv
  obtain ⟨rfl, hsz, hP, hK, hD0, hZ, hN⟩ := hv
  have hx := B.exec
  have hb := B.bytes
  have hr := B.returns
  have hts := atoms_spec (ws := wuX0_maySkip) B.pre
  have hown : s.vm.findClass RX0 = some m.cls := findClass_of_methodNamed B.named
  have hlocks := B.notSynchronized
  subst hsz
  have hD := wD_self (sz := s.heap.size) hD0
  have hA9 : ∀ q, s.heap.size ≤ q → wA ad G s.heap.size q := fun q h => Or.inr h
  generalize hAe : wA ad G s.heap.size = A at hD hA9 hZ ⊢
  have hS : va_S A s.heap s.heap [] := va_S.rf
  have hl := lv_entry ([.ref (ad a), .int p0]) (n := 4) (Nat.le_of_ble_eq_true rfl)
  rw [lg_entry_eq]
  generalize (lg_sl ([.ref (ad a), .int p0]) ++ List.replicate (4 - (lg_sl ([.ref (ad a), .int p0])).length) Slot.unset).toArray = ls at hl ⊢
  have hl : lv_has ls 4 [(0, .ref (ad a)), (1, .int p0)] := hl
  unfold FX0_maySkip at hF
  refine lv_bipush (v := (8 : Int32)) hx hb dX0_maySkip_0 (by decide) ?_
  refine lv_iload_n hx hb dX0_maySkip_2 rfl (lv_at hl 1 rfl) ?_
  refine lv_imul hx hb dX0_maySkip_3 ?_
  obtain ⟨x1, ex1, hF⟩ := ltt_some hF
  refine lv_topi (fun zx1 ezx1 => ?_)
  obtain rfl : x1 = zx1 := ex1.trans ezx1.symm
  refine lv_istore_n (lv' := [(2, .int x1), (0, .ref (ad a)), (1, .int p0)]) hx hb dX0_maySkip_4 rfl hl (by decide) rfl (fun ls hl => ?_)
  refine lv_aload_n hx hb dX0_maySkip_5 rfl (lv_at hl 1 rfl) ?_
  refine va_get (D := D) (ci := 0) (v := va_re ad (M.2 a 3)) (C := RX0) (T := TX0) (N := 21) hx hb hts (mus hf_X0) hown hK hP a (wld_o ct ad G M hc hk (by decide)) rfl 3 (by decide) (hts (.fieldLink RX0 36 "VideoSuite$Coder" "work" "LVideoSuite$Work;") (mu mw_817)) (fun _ h9 => h9) rfl dX0_maySkip_6 ?_
  obtain ⟨b2, ho2, hc2, hk2, hF⟩ := dr_some hF
  refine W_st (st' := [.ref (ad b2)]) (by rw [va_some ho2]) ?_
  refine va_get (D := D) (ci := 9) (v := va_re ad (M.2 b2 6)) (C := RX9) (T := TX9) (N := 20) hx hb hts (mus hf_X9) hown hK hP b2 (wld_o ct ad G M hc2 hk2 (by decide)) rfl 6 (by decide) (hts (.fieldLink RX0 216 "VideoSuite$Work" "info" "[I") (mu mw_445)) (fun _ h9 => h9) rfl dX0_maySkip_9 ?_
  refine lv_iload_n hx hb dX0_maySkip_12 rfl (lv_at hl 0 rfl) ?_
  refine lv_iconst (v := (0 : Int32)) hx hb dX0_maySkip_13 (by decide) ?_
  refine lv_iadd hx hb dX0_maySkip_14 ?_
  obtain ⟨x3, ex3, hF⟩ := ltt_some hF
  refine lv_topi (fun zx3 ezx3 => ?_)
  obtain rfl : x3 = zx3 := ex3.trans ezx3.symm
  obtain ⟨b4, ho4, hc4, hk4, hF⟩ := dr_some hF
  refine W_st (st' := [.int x3, .ref (ad b4)]) (by rw [va_some ho4]) ?_
  obtain ⟨hvc, hF⟩ := chk_some hF
  refine va_iald hx hb hK hP b4 1 (wld_i ct ad G M hc4 hk4) rfl hvc dX0_maySkip_15 ?_
  obtain ⟨x5, ex5, hF⟩ := ltt_some hF
  refine lv_topi (fun zx5 ezx5 => ?_)
  obtain rfl : x5 = zx5 := ex5.trans ezx5.symm
  refine lv_iconst (v := (3 : Int32)) hx hb dX0_maySkip_16 (by decide) ?_
  refine lv_icmp_ne (tgt := 60) hx hb dX0_maySkip_17 (by decide) (fun c6 => ?_) (fun c6 => ?_)
  · rw [if_neg c6] at hF
    refine lv_iconst (v := (0 : Int32)) hx hb dX0_maySkip_60 (by decide) ?_
    obtain ⟨hz9, hF⟩ := chk_some hF
    obtain rfl := Option.some.inj hF
    exact W.zret (v := (0 : Int32)) (ty := .boolean) hx hb hr (nar_z hz9).1 (fun t ht hW => ⟨⟨_, (), rfl, rfl, ⟨by rw [ht]; exact hP, va_K.moved hW.alike hK, hD⟩⟩, hS.F ht⟩) hS.2.2 dX0_maySkip_61
  · rw [if_pos c6] at hF
    refine lv_aload_n hx hb dX0_maySkip_20 rfl (lv_at hl 1 rfl) ?_
    refine va_get (D := D) (ci := 0) (v := va_re ad (M.2 a 3)) (C := RX0) (T := TX0) (N := 21) hx hb hts (mus hf_X0) hown hK hP a (wld_o ct ad G M hc hk (by decide)) rfl 3 (by decide) (hts (.fieldLink RX0 36 "VideoSuite$Coder" "work" "LVideoSuite$Work;") (mu mw_817)) (fun _ h9 => h9) rfl dX0_maySkip_21 ?_
    refine W_st (st' := [.ref (ad b2)]) (by rw [va_some ho2]) ?_
    refine va_get (D := D) (ci := 9) (v := va_re ad (M.2 b2 6)) (C := RX9) (T := TX9) (N := 20) hx hb hts (mus hf_X9) hown hK hP b2 (wld_o ct ad G M hc2 hk2 (by decide)) rfl 6 (by decide) (hts (.fieldLink RX0 216 "VideoSuite$Work" "info" "[I") (mu mw_445)) (fun _ h9 => h9) rfl dX0_maySkip_24 ?_
    refine lv_iload_n hx hb dX0_maySkip_27 rfl (lv_at hl 0 rfl) ?_
    refine lv_iconst (v := (1 : Int32)) hx hb dX0_maySkip_28 (by decide) ?_
    refine lv_iadd hx hb dX0_maySkip_29 ?_
    obtain ⟨x7, ex7, hF⟩ := ltt_some hF
    refine lv_topi (fun zx7 ezx7 => ?_)
    obtain rfl : x7 = zx7 := ex7.trans ezx7.symm
    refine W_st (st' := [.int x7, .ref (ad b4)]) (by rw [va_some ho4]) ?_
    obtain ⟨hvc, hF⟩ := chk_some hF
    refine va_iald hx hb hK hP b4 1 (wld_i ct ad G M hc4 hk4) rfl hvc dX0_maySkip_30 ?_
    obtain ⟨x8, ex8, hF⟩ := ltt_some hF
    refine lv_topi (fun zx8 ezx8 => ?_)
    obtain rfl : x8 = zx8 := ex8.trans ezx8.symm
    refine lv_if_ne (tgt := 60) hx hb dX0_maySkip_31 (by decide) (fun c9 => ?_) (fun c9 => ?_)
    · rw [if_neg c9] at hF
      refine lv_iconst (v := (0 : Int32)) hx hb dX0_maySkip_60 (by decide) ?_
      obtain ⟨hz9, hF⟩ := chk_some hF
      obtain rfl := Option.some.inj hF
      exact W.zret (v := (0 : Int32)) (ty := .boolean) hx hb hr (nar_z hz9).1 (fun t ht hW => ⟨⟨_, (), rfl, rfl, ⟨by rw [ht]; exact hP, va_K.moved hW.alike hK, hD⟩⟩, hS.F ht⟩) hS.2.2 dX0_maySkip_61
    · rw [if_pos c9] at hF
      refine lv_aload_n hx hb dX0_maySkip_34 rfl (lv_at hl 1 rfl) ?_
      refine va_get (D := D) (ci := 0) (v := va_re ad (M.2 a 3)) (C := RX0) (T := TX0) (N := 21) hx hb hts (mus hf_X0) hown hK hP a (wld_o ct ad G M hc hk (by decide)) rfl 3 (by decide) (hts (.fieldLink RX0 36 "VideoSuite$Coder" "work" "LVideoSuite$Work;") (mu mw_817)) (fun _ h9 => h9) rfl dX0_maySkip_35 ?_
      refine W_st (st' := [.ref (ad b2)]) (by rw [va_some ho2]) ?_
      refine va_get (D := D) (ci := 9) (v := va_re ad (M.2 b2 6)) (C := RX9) (T := TX9) (N := 20) hx hb hts (mus hf_X9) hown hK hP b2 (wld_o ct ad G M hc2 hk2 (by decide)) rfl 6 (by decide) (hts (.fieldLink RX0 216 "VideoSuite$Work" "info" "[I") (mu mw_445)) (fun _ h9 => h9) rfl dX0_maySkip_38 ?_
      refine lv_iload_n hx hb dX0_maySkip_41 rfl (lv_at hl 0 rfl) ?_
      refine lv_iconst (v := (3 : Int32)) hx hb dX0_maySkip_42 (by decide) ?_
      refine lv_iadd hx hb dX0_maySkip_43 ?_
      obtain ⟨x10, ex10, hF⟩ := ltt_some hF
      refine lv_topi (fun zx10 ezx10 => ?_)
      obtain rfl : x10 = zx10 := ex10.trans ezx10.symm
      refine W_st (st' := [.int x10, .ref (ad b4)]) (by rw [va_some ho4]) ?_
      obtain ⟨hvc, hF⟩ := chk_some hF
      refine va_iald hx hb hK hP b4 1 (wld_i ct ad G M hc4 hk4) rfl hvc dX0_maySkip_44 ?_
      obtain ⟨x11, ex11, hF⟩ := ltt_some hF
      refine lv_topi (fun zx11 ezx11 => ?_)
      obtain rfl : x11 = zx11 := ex11.trans ezx11.symm
      refine lv_aload_n hx hb dX0_maySkip_45 rfl (lv_at hl 1 rfl) ?_
      refine va_get (D := D) (ci := 0) (v := va_re ad (M.2 a 3)) (C := RX0) (T := TX0) (N := 21) hx hb hts (mus hf_X0) hown hK hP a (wld_o ct ad G M hc hk (by decide)) rfl 3 (by decide) (hts (.fieldLink RX0 36 "VideoSuite$Coder" "work" "LVideoSuite$Work;") (mu mw_817)) (fun _ h9 => h9) rfl dX0_maySkip_46 ?_
      refine W_st (st' := [.ref (ad b2), .int x11]) (by rw [va_some ho2]) ?_
      refine va_get (D := D) (ci := 9) (v := va_re ad (M.2 b2 6)) (C := RX9) (T := TX9) (N := 20) hx hb hts (mus hf_X9) hown hK hP b2 (wld_o ct ad G M hc2 hk2 (by decide)) rfl 6 (by decide) (hts (.fieldLink RX0 216 "VideoSuite$Work" "info" "[I") (mu mw_445)) (fun _ h9 => h9) rfl dX0_maySkip_49 ?_
      refine lv_iload_n hx hb dX0_maySkip_52 rfl (lv_at hl 0 rfl) ?_
      refine lv_iconst (v := (4 : Int32)) hx hb dX0_maySkip_53 (by decide) ?_
      refine lv_iadd hx hb dX0_maySkip_54 ?_
      obtain ⟨x12, ex12, hF⟩ := ltt_some hF
      refine lv_topi (fun zx12 ezx12 => ?_)
      obtain rfl : x12 = zx12 := ex12.trans ezx12.symm
      refine W_st (st' := [.int x12, .ref (ad b4), .int x11]) (by rw [va_some ho4]) ?_
      obtain ⟨hvc, hF⟩ := chk_some hF
      refine va_iald hx hb hK hP b4 1 (wld_i ct ad G M hc4 hk4) rfl hvc dX0_maySkip_55 ?_
      obtain ⟨x13, ex13, hF⟩ := ltt_some hF
      refine lv_topi (fun zx13 ezx13 => ?_)
      obtain rfl : x13 = zx13 := ex13.trans ezx13.symm
      refine lv_iadd hx hb dX0_maySkip_56 ?_
      obtain ⟨x14, ex14, hF⟩ := ltt_some hF
      refine lv_topi (fun zx14 ezx14 => ?_)
      obtain rfl : x14 = zx14 := ex14.trans ezx14.symm
      refine lv_if_le (tgt := 62) hx hb dX0_maySkip_57 (by decide) (fun c15 => ?_) (fun c15 => ?_)
      · rw [if_pos c15] at hF
        refine lv_aload_n hx hb dX0_maySkip_62 rfl (lv_at hl 1 rfl) ?_
        refine va_get (D := D) (ci := 0) (v := va_re ad (M.2 a 3)) (C := RX0) (T := TX0) (N := 21) hx hb hts (mus hf_X0) hown hK hP a (wld_o ct ad G M hc hk (by decide)) rfl 3 (by decide) (hts (.fieldLink RX0 36 "VideoSuite$Coder" "work" "LVideoSuite$Work;") (mu mw_817)) (fun _ h9 => h9) rfl dX0_maySkip_63 ?_
        refine W_st (st' := [.ref (ad b2)]) (by rw [va_some ho2]) ?_
        refine va_get (D := D) (ci := 9) (v := va_re ad (M.2 b2 1)) (C := RX9) (T := TX9) (N := 20) hx hb hts (mus hf_X9) hown hK hP b2 (wld_o ct ad G M hc2 hk2 (by decide)) rfl 1 (by decide) (hts (.fieldLink RX0 81 "VideoSuite$Work" "head" "LVideoSuite$Header;") (mu mw_425)) (fun _ h9 => h9) rfl dX0_maySkip_66 ?_
        obtain ⟨b16, ho16, hc16, hk16, hF⟩ := dr_some hF
        refine W_st (st' := [.ref (ad b16)]) (by rw [va_some ho16]) ?_
        refine va_get (D := D) (ci := 3) (v := va_re ad (M.2 b16 0)) (C := RX3) (T := TX3) (N := 4) hx hb hts (mus hf_X3) hown hK hP b16 (wld_o ct ad G M hc16 hk16 (by decide)) rfl 0 (by decide) (hts (.fieldLink RX0 252 "VideoSuite$Header" "v" "[I") (mu mw_620)) (fun _ h9 => h9) rfl dX0_maySkip_69 ?_
        refine lv_iconst (v := (1 : Int32)) hx hb dX0_maySkip_72 (by decide) ?_
        obtain ⟨b17, ho17, hc17, hk17, hF⟩ := dr_some hF
        refine W_st (st' := [.int (1 : Int32), .ref (ad b17)]) (by rw [va_some ho17]) ?_
        obtain ⟨hvc, hF⟩ := chk_some hF
        refine va_iald hx hb hK hP b17 1 (wld_i ct ad G M hc17 hk17) rfl hvc dX0_maySkip_73 ?_
        obtain ⟨x18, ex18, hF⟩ := ltt_some hF
        refine lv_topi (fun zx18 ezx18 => ?_)
        obtain rfl : x18 = zx18 := ex18.trans ezx18.symm
        refine lv_iconst (v := (1 : Int32)) hx hb dX0_maySkip_74 (by decide) ?_
        refine lv_icmp_ne (tgt := 80) hx hb dX0_maySkip_75 (by decide) (fun c19 => ?_) (fun c19 => ?_)
        · rw [if_neg c19] at hF
          refine lv_aload_n hx hb dX0_maySkip_80 rfl (lv_at hl 1 rfl) ?_
          refine va_get (D := D) (ci := 0) (v := va_re ad (M.2 a 3)) (C := RX0) (T := TX0) (N := 21) hx hb hts (mus hf_X0) hown hK hP a (wld_o ct ad G M hc hk (by decide)) rfl 3 (by decide) (hts (.fieldLink RX0 36 "VideoSuite$Coder" "work" "LVideoSuite$Work;") (mu mw_817)) (fun _ h9 => h9) rfl dX0_maySkip_81 ?_
          refine lv_iload_n hx hb dX0_maySkip_84 rfl (lv_at hl 2 rfl) ?_
          refine W_st (st' := [.int p0, .ref (ad b2)]) (by rw [va_some ho2]) ?_
          obtain ⟨y20, hy20, hF⟩ := bnd_some hF
          have hf9 := wA_in hD hA9 hS
          refine va_callv (va_runV (As := [.int p0]) (rest := []) ⟨hx, hb, hml, hown, hts⟩ (kX9_guessSkipped l D ct ad Z G M s.heap.size b2 p0 y20 hc2 hk2 hy20) (cwV 1 hts gX0_maySkip_X9_guessSkipped rfl rfl rfl (by decide +kernel) ⟨Nat.le_of_ble_eq_true rfl, Nat.le_of_ble_eq_true rfl⟩) ⟨fun a U g mk q => by obtain ⟨q0, q1, qP, qK, qD, qZ, qN⟩ := q; exact ⟨q0, q1, qP, va_K.moved (u := U) (U := U.calling g mk a) (Vm.Alike.refl U.vm) qK, qD, sF.moved (u := U) (U := U.calling g mk a) (Vm.Alike.refl U.vm) qZ, nF.same rfl qN⟩, va_recv hK hP (ci := 9) (q0 := b2) rfl (wld_o ct ad G M hc2 hk2 (by decide)), fun U hU hW => ⟨rfl, by rw [hU], by rw [hU]; exact hP, va_K.moved hW.alike hK, hD.weaken (fun _ _ _ _ => trivial), by rw [hU]; exact ((hZ.kept hS.2.1).narrow hf9).moved hW.alike, hN.warm hW⟩⟩ rfl rfl hl.1 rfl (lv_room (Nat.le_of_ble_eq_true rfl)) dX0_maySkip_85 ⟨(Nat.zero_le _), (Nat.zero_le _)⟩) hS (fun q _ h => hf9 q h) hf9 (fun u t H locs ht hvm hw hB hz1 hk1 hS => ?_)
          obtain ⟨hP, hK9, hD9⟩ := hB
          rw [ht] at hP
          have hD := hD9.weaken (fun _ q _ h => hf9 q.1 h)
          refine lv_bipush (v := (16 : Int32)) hx hb dX0_maySkip_88 (by decide) ?_
          refine lv_iload_n hx hb dX0_maySkip_90 rfl (lv_at hl 2 rfl) ?_
          refine lv_imul hx hb dX0_maySkip_91 ?_
          obtain ⟨x21, ex21, hF⟩ := ltt_some hF
          refine lv_topi (fun zx21 ezx21 => ?_)
          obtain rfl : x21 = zx21 := ex21.trans ezx21.symm
          refine lv_istore_n (lv' := [(3, .int x21), (2, .int x1), (0, .ref (ad a)), (1, .int p0)]) hx hb dX0_maySkip_92 rfl hl (by decide) rfl (fun ls hl => ?_)
          refine lv_aload_n hx hb dX0_maySkip_93 rfl (lv_at hl 2 rfl) ?_
          refine va_get (D := D) (ci := 0) (v := va_re ad (y20.2 a 3)) (C := RX0) (T := TX0) (N := 21) hx hb hts (mus hf_X0) hown hK hP a (wld_o ct ad G y20 hc hk (by decide)) rfl 3 (by decide) (hts (.fieldLink RX0 36 "VideoSuite$Coder" "work" "LVideoSuite$Work;") (mu mw_817)) (fun _ h9 => h9) rfl dX0_maySkip_94 ?_
          obtain ⟨b22, ho22, hc22, hk22, hF⟩ := dr_some hF
          refine W_st (st' := [.ref (ad b22)]) (by rw [va_some ho22]) ?_
          refine va_get (D := D) (ci := 9) (v := va_re ad (y20.2 b22 0)) (C := RX9) (T := TX9) (N := 20) hx hb hts (mus hf_X9) hown hK hP b22 (wld_o ct ad G y20 hc22 hk22 (by decide)) rfl 0 (by decide) (hts (.fieldLink RX0 266 "VideoSuite$Work" "pic" "LVideoSuite$Picture;") (mu mw_424)) (fun _ h9 => h9) rfl dX0_maySkip_97 ?_
          obtain ⟨b23, ho23, hc23, hk23, hF⟩ := dr_some hF
          refine W_st (st' := [.ref (ad b23)]) (by rw [va_some ho23]) ?_
          refine va_get (D := D) (ci := 4) (v := va_re ad (y20.2 b23 5)) (C := RX4) (T := TX4) (N := 18) hx hb hts (mus hf_X4) hown hK hP b23 (wld_o ct ad G y20 hc23 hk23 (by decide)) rfl 5 (by decide) (hts (.fieldLink RX0 409 "VideoSuite$Picture" "reference" "[I") (mu mw_1441)) (fun _ h9 => h9) rfl dX0_maySkip_100 ?_
          refine lv_iload_n hx hb dX0_maySkip_103 rfl (lv_at hl 0 rfl) ?_
          obtain ⟨b24, ho24, hc24, hk24, hF⟩ := dr_some hF
          refine W_st (st' := [.int x21, .ref (ad b24)]) (by rw [va_some ho24]) ?_
          obtain ⟨hvc, hF⟩ := chk_some hF
          refine va_iald hx hb hK hP b24 1 (wld_i ct ad G y20 hc24 hk24) rfl hvc dX0_maySkip_104 ?_
          obtain ⟨x25, ex25, hF⟩ := ltt_some hF
          refine lv_topi (fun zx25 ezx25 => ?_)
          obtain rfl : x25 = zx25 := ex25.trans ezx25.symm
          obtain ⟨y26, hy26, hF⟩ := bnd_some hF
          have J26 : ∀ (H : Heap) (locs : List Loc) (ls : Array Slot), va_P D classes (wld ct ad G y20) H → va_D A (wld ct ad G y20) → va_S A s.heap H locs → lv_has ls 4 [(3, .int x21), (2, .int x1), (0, .ref (ad a)), (1, .int p0)] → W p l e (headSpec wuX0_maySkip ({ frames := 3, cells := 0, slots := 0, locals := 92 })).room s m ([.ref (ad a), .int p0] : List Value).toArray below meth c H locs 0 0 (MQ below (va_Qi (fun (q : Int32) (_ : Unit) => q = y.2) (fun _ t => kE D ct ad G A y.1 t) A) ([.ref (ad a), .int p0] : List Value).toArray s 0 0 A) (F0 m 163 ls [.int y26]) := by
            intro H locs ls hP hD hS hl
            obtain ⟨hz9, hF⟩ := chk_some hF
            obtain rfl := Option.some.inj hF
            exact W.zret (v := y26) (ty := .boolean) hx hb hr (nar_z hz9).1 (fun t ht hW => ⟨⟨_, (), rfl, rfl, ⟨by rw [ht]; exact hP, va_K.moved hW.alike hK, hD⟩⟩, hS.F ht⟩) hS.2.2 dX0_maySkip_163
          clear hF
          have hF := hy26
          clear hy26
          refine lv_if_ne (tgt := 162) hx hb dX0_maySkip_105 (by decide) (fun c27 => ?_) (fun c27 => ?_)
          · rw [if_neg c27] at hF
            refine lv_iconst (v := (0 : Int32)) hx hb dX0_maySkip_162 (by decide) ?_
            obtain rfl := Option.some.inj hF
            exact J26 _ _ _ hP hD hS (lv_sub hl [0, 1, 2, 3] rfl)
          · rw [if_pos c27] at hF
            refine lv_aload_n hx hb dX0_maySkip_108 rfl (lv_at hl 2 rfl) ?_
            refine va_get (D := D) (ci := 0) (v := va_re ad (y20.2 a 3)) (C := RX0) (T := TX0) (N := 21) hx hb hts (mus hf_X0) hown hK hP a (wld_o ct ad G y20 hc hk (by decide)) rfl 3 (by decide) (hts (.fieldLink RX0 36 "VideoSuite$Coder" "work" "LVideoSuite$Work;") (mu mw_817)) (fun _ h9 => h9) rfl dX0_maySkip_109 ?_
            refine W_st (st' := [.ref (ad b22)]) (by rw [va_some ho22]) ?_
            refine va_get (D := D) (ci := 9) (v := va_re ad (y20.2 b22 0)) (C := RX9) (T := TX9) (N := 20) hx hb hts (mus hf_X9) hown hK hP b22 (wld_o ct ad G y20 hc22 hk22 (by decide)) rfl 0 (by decide) (hts (.fieldLink RX0 266 "VideoSuite$Work" "pic" "LVideoSuite$Picture;") (mu mw_424)) (fun _ h9 => h9) rfl dX0_maySkip_112 ?_
            refine W_st (st' := [.ref (ad b23)]) (by rw [va_some ho23]) ?_
            refine va_get (D := D) (ci := 4) (v := va_re ad (y20.2 b23 7)) (C := RX4) (T := TX4) (N := 18) hx hb hts (mus hf_X4) hown hK hP b23 (wld_o ct ad G y20 hc23 hk23 (by decide)) rfl 7 (by decide) (hts (.fieldLink RX0 560 "VideoSuite$Picture" "move" "[I") (mu mw_1448)) (fun _ h9 => h9) rfl dX0_maySkip_115 ?_
            refine lv_iconst (v := (2 : Int32)) hx hb dX0_maySkip_118 (by decide) ?_
            refine lv_iload_n hx hb dX0_maySkip_119 rfl (lv_at hl 0 rfl) ?_
            refine lv_imul hx hb dX0_maySkip_120 ?_
            obtain ⟨x28, ex28, hF⟩ := ltt_some hF
            refine lv_topi (fun zx28 ezx28 => ?_)
            obtain rfl : x28 = zx28 := ex28.trans ezx28.symm
            obtain ⟨b29, ho29, hc29, hk29, hF⟩ := dr_some hF
            refine W_st (st' := [.int x28, .ref (ad b29)]) (by rw [va_some ho29]) ?_
            obtain ⟨hvc, hF⟩ := chk_some hF
            refine va_iald hx hb hK hP b29 1 (wld_i ct ad G y20 hc29 hk29) rfl hvc dX0_maySkip_121 ?_
            obtain ⟨x30, ex30, hF⟩ := ltt_some hF
            refine lv_topi (fun zx30 ezx30 => ?_)
            obtain rfl : x30 = zx30 := ex30.trans ezx30.symm
            refine lv_aload_n hx hb dX0_maySkip_122 rfl (lv_at hl 2 rfl) ?_
            refine va_get (D := D) (ci := 0) (v := va_re ad (y20.2 a 3)) (C := RX0) (T := TX0) (N := 21) hx hb hts (mus hf_X0) hown hK hP a (wld_o ct ad G y20 hc hk (by decide)) rfl 3 (by decide) (hts (.fieldLink RX0 36 "VideoSuite$Coder" "work" "LVideoSuite$Work;") (mu mw_817)) (fun _ h9 => h9) rfl dX0_maySkip_123 ?_
            refine W_st (st' := [.ref (ad b22), .int x30]) (by rw [va_some ho22]) ?_
            refine va_get (D := D) (ci := 9) (v := .int (y20.1 b22 18)) (C := RX9) (T := TX9) (N := 20) hx hb hts (mus hf_X9) hown hK hP b22 (wld_o ct ad G y20 hc22 hk22 (by decide)) rfl 18 (by decide) (hts (.fieldLink RX0 419 "VideoSuite$Work" "guessX" "I") (mu mw_482)) (fun _ h9 => h9) rfl dX0_maySkip_126 ?_
            obtain ⟨x31, ex31, hF⟩ := ltt_some hF
            refine lv_topi (fun zx31 ezx31 => ?_)
            obtain rfl : x31 = zx31 := ex31.trans ezx31.symm
            obtain ⟨y32, hy32, hF⟩ := bnd_some hF
            have J32 : ∀ (H : Heap) (locs : List Loc) (ls : Array Slot), va_P D classes (wld ct ad G y20) H → va_D A (wld ct ad G y20) → va_S A s.heap H locs → lv_has ls 4 [(3, .int x21), (2, .int x1), (0, .ref (ad a)), (1, .int p0)] → W p l e (headSpec wuX0_maySkip ({ frames := 3, cells := 0, slots := 0, locals := 92 })).room s m ([.ref (ad a), .int p0] : List Value).toArray below meth c H locs 0 0 (MQ below (va_Qi (fun (q : Int32) (_ : Unit) => q = y.2) (fun _ t => kE D ct ad G A y.1 t) A) ([.ref (ad a), .int p0] : List Value).toArray s 0 0 A) (F0 m 163 ls [.int y32]) := by
              intro H locs ls hP hD hS hl
              obtain rfl := Option.some.inj hF
              exact J26 _ _ _ hP hD hS (lv_sub hl [0, 1, 2, 3] rfl)
            clear hF
            have hF := hy32
            clear hy32
            refine lv_icmp_ne (tgt := 162) hx hb dX0_maySkip_129 (by decide) (fun c33 => ?_) (fun c33 => ?_)
            · rw [if_neg c33] at hF
              refine lv_iconst (v := (0 : Int32)) hx hb dX0_maySkip_162 (by decide) ?_
              obtain rfl := Option.some.inj hF
              exact J32 _ _ _ hP hD hS (lv_sub hl [0, 1, 2, 3] rfl)
            · rw [if_pos c33] at hF
              refine lv_aload_n hx hb dX0_maySkip_132 rfl (lv_at hl 2 rfl) ?_
              refine va_get (D := D) (ci := 0) (v := va_re ad (y20.2 a 3)) (C := RX0) (T := TX0) (N := 21) hx hb hts (mus hf_X0) hown hK hP a (wld_o ct ad G y20 hc hk (by decide)) rfl 3 (by decide) (hts (.fieldLink RX0 36 "VideoSuite$Coder" "work" "LVideoSuite$Work;") (mu mw_817)) (fun _ h9 => h9) rfl dX0_maySkip_133 ?_
              refine W_st (st' := [.ref (ad b22)]) (by rw [va_some ho22]) ?_
              refine va_get (D := D) (ci := 9) (v := va_re ad (y20.2 b22 0)) (C := RX9) (T := TX9) (N := 20) hx hb hts (mus hf_X9) hown hK hP b22 (wld_o ct ad G y20 hc22 hk22 (by decide)) rfl 0 (by decide) (hts (.fieldLink RX0 266 "VideoSuite$Work" "pic" "LVideoSuite$Picture;") (mu mw_424)) (fun _ h9 => h9) rfl dX0_maySkip_136 ?_
              refine W_st (st' := [.ref (ad b23)]) (by rw [va_some ho23]) ?_
              refine va_get (D := D) (ci := 4) (v := va_re ad (y20.2 b23 7)) (C := RX4) (T := TX4) (N := 18) hx hb hts (mus hf_X4) hown hK hP b23 (wld_o ct ad G y20 hc23 hk23 (by decide)) rfl 7 (by decide) (hts (.fieldLink RX0 560 "VideoSuite$Picture" "move" "[I") (mu mw_1448)) (fun _ h9 => h9) rfl dX0_maySkip_139 ?_
              refine lv_iconst (v := (2 : Int32)) hx hb dX0_maySkip_142 (by decide) ?_
              refine lv_iload_n hx hb dX0_maySkip_143 rfl (lv_at hl 0 rfl) ?_
              refine lv_imul hx hb dX0_maySkip_144 ?_
              obtain ⟨x34, ex34, hF⟩ := ltt_some hF
              refine lv_topi (fun zx34 ezx34 => ?_)
              obtain rfl : x34 = zx34 := ex34.trans ezx34.symm
              refine lv_iconst (v := (1 : Int32)) hx hb dX0_maySkip_145 (by decide) ?_
              refine lv_iadd hx hb dX0_maySkip_146 ?_
              obtain ⟨x35, ex35, hF⟩ := ltt_some hF
              refine lv_topi (fun zx35 ezx35 => ?_)
              obtain rfl : x35 = zx35 := ex35.trans ezx35.symm
              refine W_st (st' := [.int x35, .ref (ad b29)]) (by rw [va_some ho29]) ?_
              obtain ⟨hvc, hF⟩ := chk_some hF
              refine va_iald hx hb hK hP b29 1 (wld_i ct ad G y20 hc29 hk29) rfl hvc dX0_maySkip_147 ?_
              obtain ⟨x36, ex36, hF⟩ := ltt_some hF
              refine lv_topi (fun zx36 ezx36 => ?_)
              obtain rfl : x36 = zx36 := ex36.trans ezx36.symm
              refine lv_aload_n hx hb dX0_maySkip_148 rfl (lv_at hl 2 rfl) ?_
              refine va_get (D := D) (ci := 0) (v := va_re ad (y20.2 a 3)) (C := RX0) (T := TX0) (N := 21) hx hb hts (mus hf_X0) hown hK hP a (wld_o ct ad G y20 hc hk (by decide)) rfl 3 (by decide) (hts (.fieldLink RX0 36 "VideoSuite$Coder" "work" "LVideoSuite$Work;") (mu mw_817)) (fun _ h9 => h9) rfl dX0_maySkip_149 ?_
              refine W_st (st' := [.ref (ad b22), .int x36]) (by rw [va_some ho22]) ?_
              refine va_get (D := D) (ci := 9) (v := .int (y20.1 b22 19)) (C := RX9) (T := TX9) (N := 20) hx hb hts (mus hf_X9) hown hK hP b22 (wld_o ct ad G y20 hc22 hk22 (by decide)) rfl 19 (by decide) (hts (.fieldLink RX0 422 "VideoSuite$Work" "guessY" "I") (mu mw_485)) (fun _ h9 => h9) rfl dX0_maySkip_152 ?_
              obtain ⟨x37, ex37, hF⟩ := ltt_some hF
              refine lv_topi (fun zx37 ezx37 => ?_)
              obtain rfl : x37 = zx37 := ex37.trans ezx37.symm
              obtain ⟨y38, hy38, hF⟩ := bnd_some hF
              have J38 : ∀ (H : Heap) (locs : List Loc) (ls : Array Slot), va_P D classes (wld ct ad G y20) H → va_D A (wld ct ad G y20) → va_S A s.heap H locs → lv_has ls 4 [(3, .int x21), (2, .int x1), (0, .ref (ad a)), (1, .int p0)] → W p l e (headSpec wuX0_maySkip ({ frames := 3, cells := 0, slots := 0, locals := 92 })).room s m ([.ref (ad a), .int p0] : List Value).toArray below meth c H locs 0 0 (MQ below (va_Qi (fun (q : Int32) (_ : Unit) => q = y.2) (fun _ t => kE D ct ad G A y.1 t) A) ([.ref (ad a), .int p0] : List Value).toArray s 0 0 A) (F0 m 163 ls [.int y38]) := by
                intro H locs ls hP hD hS hl
                obtain rfl := Option.some.inj hF
                exact J32 _ _ _ hP hD hS (lv_sub hl [0, 1, 2, 3] rfl)
              clear hF
              have hF := hy38
              clear hy38
              refine lv_icmp_ne (tgt := 162) hx hb dX0_maySkip_155 (by decide) (fun c39 => ?_) (fun c39 => ?_)
              · rw [if_neg c39] at hF
                refine lv_iconst (v := (0 : Int32)) hx hb dX0_maySkip_162 (by decide) ?_
                obtain rfl := Option.some.inj hF
                exact J38 _ _ _ hP hD hS (lv_sub hl [0, 1, 2, 3] rfl)
              · rw [if_pos c39] at hF
                refine lv_iconst (v := (1 : Int32)) hx hb dX0_maySkip_158 (by decide) ?_
                refine lv_goto (tgt := 163) hx hb dX0_maySkip_159 (by decide) ?_
                obtain rfl := Option.some.inj hF
                exact J38 _ _ _ hP hD hS (lv_sub hl [0, 1, 2, 3] rfl)
        · rw [if_pos c19] at hF
          refine lv_iconst (v := (1 : Int32)) hx hb dX0_maySkip_78 (by decide) ?_
          obtain ⟨hz9, hF⟩ := chk_some hF
          obtain rfl := Option.some.inj hF
          exact W.zret (v := (1 : Int32)) (ty := .boolean) hx hb hr (nar_z hz9).1 (fun t ht hW => ⟨⟨_, (), rfl, rfl, ⟨by rw [ht]; exact hP, va_K.moved hW.alike hK, hD⟩⟩, hS.F ht⟩) hS.2.2 dX0_maySkip_79
      · rw [if_neg c15] at hF
        refine lv_iconst (v := (0 : Int32)) hx hb dX0_maySkip_60 (by decide) ?_
        obtain ⟨hz9, hF⟩ := chk_some hF
        obtain rfl := Option.some.inj hF
        exact W.zret (v := (0 : Int32)) (ty := .boolean) hx hb hr (nar_z hz9).1 (fun t ht hW => ⟨⟨_, (), rfl, rfl, ⟨by rw [ht]; exact hP, va_K.moved hW.alike hK, hD⟩⟩, hS.F ht⟩) hS.2.2 dX0_maySkip_61
set_option maxRecDepth 20000 in
theorem gX0_noteBest_X0_bitsOf : GoodIn wuX0_noteBest (wsV RX0 478 RX0 yX0_bitsOf wuX0_bitsOf) := gu_V mw_2547 mw_2549 mw_133 mw_175 mw_2550
theorem dX0_noteBest_0 : decode cX0_noteBest 0 = .ok (.iconst 5, 1) := by decide +kernel
theorem dX0_noteBest_1 : decode cX0_noteBest 1 = .ok (.iload_n 1, 1) := by decide +kernel
theorem dX0_noteBest_2 : decode cX0_noteBest 2 = .ok (.imul, 1) := by decide +kernel
theorem dX0_noteBest_3 : decode cX0_noteBest 3 = .ok (.istore 6, 2) := by decide +kernel
theorem dX0_noteBest_5 : decode cX0_noteBest 5 = .ok (.iload_n 2, 1) := by decide +kernel
theorem dX0_noteBest_6 : decode cX0_noteBest 6 = .ok (.aload_n 0, 1) := by decide +kernel
theorem dX0_noteBest_7 : decode cX0_noteBest 7 = .ok (.getfield 75, 3) := by decide +kernel
theorem dX0_noteBest_10 : decode cX0_noteBest 10 = .ok (.iload 6, 2) := by decide +kernel
theorem dX0_noteBest_12 : decode cX0_noteBest 12 = .ok (.iaload, 1) := by decide +kernel
theorem dX0_noteBest_13 : decode cX0_noteBest 13 = .ok (.if_icmp .ge 62, 3) := by decide +kernel
theorem dX0_noteBest_16 : decode cX0_noteBest 16 = .ok (.aload_n 0, 1) := by decide +kernel
theorem dX0_noteBest_17 : decode cX0_noteBest 17 = .ok (.getfield 75, 3) := by decide +kernel
theorem dX0_noteBest_20 : decode cX0_noteBest 20 = .ok (.iload 6, 2) := by decide +kernel
theorem dX0_noteBest_22 : decode cX0_noteBest 22 = .ok (.iload_n 2, 1) := by decide +kernel
theorem dX0_noteBest_23 : decode cX0_noteBest 23 = .ok (.iastore, 1) := by decide +kernel
theorem dX0_noteBest_24 : decode cX0_noteBest 24 = .ok (.aload_n 0, 1) := by decide +kernel
theorem dX0_noteBest_25 : decode cX0_noteBest 25 = .ok (.getfield 75, 3) := by decide +kernel
theorem dX0_noteBest_28 : decode cX0_noteBest 28 = .ok (.iload 6, 2) := by decide +kernel
theorem dX0_noteBest_30 : decode cX0_noteBest 30 = .ok (.iconst 1, 1) := by decide +kernel
theorem dX0_noteBest_31 : decode cX0_noteBest 31 = .ok (.iadd, 1) := by decide +kernel
theorem dX0_noteBest_32 : decode cX0_noteBest 32 = .ok (.iload_n 3, 1) := by decide +kernel
theorem dX0_noteBest_33 : decode cX0_noteBest 33 = .ok (.iastore, 1) := by decide +kernel
theorem dX0_noteBest_34 : decode cX0_noteBest 34 = .ok (.aload_n 0, 1) := by decide +kernel
theorem dX0_noteBest_35 : decode cX0_noteBest 35 = .ok (.getfield 75, 3) := by decide +kernel
theorem dX0_noteBest_38 : decode cX0_noteBest 38 = .ok (.iload 6, 2) := by decide +kernel
theorem dX0_noteBest_40 : decode cX0_noteBest 40 = .ok (.iconst 2, 1) := by decide +kernel
theorem dX0_noteBest_41 : decode cX0_noteBest 41 = .ok (.iadd, 1) := by decide +kernel
theorem dX0_noteBest_42 : decode cX0_noteBest 42 = .ok (.iload 4, 2) := by decide +kernel
theorem dX0_noteBest_44 : decode cX0_noteBest 44 = .ok (.iastore, 1) := by decide +kernel
theorem dX0_noteBest_45 : decode cX0_noteBest 45 = .ok (.aload_n 0, 1) := by decide +kernel
theorem dX0_noteBest_46 : decode cX0_noteBest 46 = .ok (.getfield 75, 3) := by decide +kernel
theorem dX0_noteBest_49 : decode cX0_noteBest 49 = .ok (.iload 6, 2) := by decide +kernel
theorem dX0_noteBest_51 : decode cX0_noteBest 51 = .ok (.iconst 3, 1) := by decide +kernel
theorem dX0_noteBest_52 : decode cX0_noteBest 52 = .ok (.iadd, 1) := by decide +kernel
theorem dX0_noteBest_53 : decode cX0_noteBest 53 = .ok (.iload 5, 2) := by decide +kernel
theorem dX0_noteBest_55 : decode cX0_noteBest 55 = .ok (.iastore, 1) := by decide +kernel
theorem dX0_noteBest_56 : decode cX0_noteBest 56 = .ok (.aload_n 0, 1) := by decide +kernel
theorem dX0_noteBest_57 : decode cX0_noteBest 57 = .ok (.getfield 75, 3) := by decide +kernel
theorem dX0_noteBest_60 : decode cX0_noteBest 60 = .ok (.iload 6, 2) := by decide +kernel
theorem dX0_noteBest_62 : decode cX0_noteBest 62 = .ok (.iconst 4, 1) := by decide +kernel
theorem dX0_noteBest_63 : decode cX0_noteBest 63 = .ok (.iadd, 1) := by decide +kernel
theorem dX0_noteBest_64 : decode cX0_noteBest 64 = .ok (.aload_n 0, 1) := by decide +kernel
theorem dX0_noteBest_65 : decode cX0_noteBest 65 = .ok (.iload_n 1, 1) := by decide +kernel
theorem dX0_noteBest_66 : decode cX0_noteBest 66 = .ok (.iload_n 3, 1) := by decide +kernel
theorem dX0_noteBest_67 : decode cX0_noteBest 67 = .ok (.iload 4, 2) := by decide +kernel
theorem dX0_noteBest_69 : decode cX0_noteBest 69 = .ok (.iload 5, 2) := by decide +kernel
theorem dX0_noteBest_71 : decode cX0_noteBest 71 = .ok (.invokevirtual 478, 3) := by decide +kernel
theorem dX0_noteBest_74 : decode cX0_noteBest 74 = .ok (.iastore, 1) := by decide +kernel
theorem dX0_noteBest_75 : decode cX0_noteBest 75 = .ok (.return_, 1) := by decide +kernel
def FX0_noteBest (G : GG) (M : DD) (a : Nat) (p0 : Int32) (p1 : Int32) (p2 : Int32) (p3 : Int32) (p4 : Int32) : Option (DD) :=
  ltt ((((5 : Int32)) * p0)) fun x1 =>
  dr G 13 ((M.2 a 20)) fun b2 =>
  chk (¬ (x1 < 0 ∨ G.2.2 b2 ≤ x1.toNatClampNeg)) <|
  ltt (M.1 b2 x1.toNatClampNeg) fun x3 =>
  bnd (if x3 ≤ p1 then (some (M)) else
  (chk (¬ (x1 < 0 ∨ G.2.2 b2 ≤ x1.toNatClampNeg)) <|
  ltt (uI M b2 x1.toNatClampNeg p1) fun M6 =>
  ltt ((x1 + ((1 : Int32)))) fun x7 =>
  dr G 13 ((M6.2 a 20)) fun b8 =>
  chk (¬ (x7 < 0 ∨ G.2.2 b8 ≤ x7.toNatClampNeg)) <|
  ltt (uI M6 b8 x7.toNatClampNeg p2) fun M9 =>
  ltt ((x1 + ((2 : Int32)))) fun x10 =>
  dr G 13 ((M9.2 a 20)) fun b11 =>
  chk (¬ (x10 < 0 ∨ G.2.2 b11 ≤ x10.toNatClampNeg)) <|
  ltt (uI M9 b11 x10.toNatClampNeg p3) fun M12 =>
  ltt ((x1 + ((3 : Int32)))) fun x13 =>
  dr G 13 ((M12.2 a 20)) fun b14 =>
  chk (¬ (x13 < 0 ∨ G.2.2 b14 ≤ x13.toNatClampNeg)) <|
  ltt (uI M12 b14 x13.toNatClampNeg p4) fun M15 =>
  ltt ((x1 + ((4 : Int32)))) fun x16 =>
  bnd (FX0_bitsOf G M15 a p0 p2 p3 p4) fun y17 =>
  dr G 13 ((M15.2 a 20)) fun b18 =>
  chk (¬ (x16 < 0 ∨ G.2.2 b18 ≤ x16.toNatClampNeg)) <|
  ltt (uI y17.1 b18 x16.toNatClampNeg y17.2) fun M19 =>
  some (M19))) fun (y4 : DD) =>
  some y4
set_option maxHeartbeats 4000000 in
set_option maxRecDepth 100000 in
theorem kX0_noteBest (l : Launch) (D : va_G) (ct : CT) (ad : Nat → Nat) (Z : Nat → Nat) (G : GG) (M : DD) (sz : Nat) (a : Nat) (p0 : Int32) (p1 : Int32) (p2 : Int32) (p3 : Int32) (p4 : Int32) (y : DD) (hc : a < G.1) (hk : G.2.1 a = 0) (hF : FX0_noteBest G M a p0 p1 p2 p3 p4 = some y) : Met l yX0_noteBest wuX0_noteBest ({ frames := 3, cells := 0, slots := 0, locals := 67 }) (va_Pc [.ref (ad a), .int p0, .int p1, .int p2, .int p3, .int p4] (kB D ct ad Z G M sz)) (va_Qv (fun (_ : Unit) => True) (fun _ t => kE D ct ad G (wA ad G sz) y t) (wA ad G sz)) 0 0 (wA ad G sz) := by
  refine Met.ofW (cc := cX0_noteBest) (maxL := 7) (ret := none) (by decide) rfl ?_
  intro p e s m args below meth c s₁ B hml hv
  obtain ⟨rfl, hsz, hP, hK, hD0, hZ, hN⟩ := hv
  have hx := B.exec
  have hb := B.bytes
  have hr := B.returns
  have hts := atoms_spec (ws := wuX0_noteBest) B.pre
  have hown : s.vm.findClass RX0 = some m.cls := findClass_of_methodNamed B.named
  have hlocks := B.notSynchronized
  subst hsz
  have hD := wD_self (sz := s.heap.size) hD0
  have hA9 : ∀ q, s.heap.size ≤ q → wA ad G s.heap.size q := fun q h => Or.inr h
  generalize hAe : wA ad G s.heap.size = A at hD hA9 hZ ⊢
  have hS : va_S A s.heap s.heap [] := va_S.rf
  have hl := lv_entry ([.ref (ad a), .int p0, .int p1, .int p2, .int p3, .int p4]) (n := 7) (Nat.le_of_ble_eq_true rfl)
  rw [lg_entry_eq]
  generalize (lg_sl ([.ref (ad a), .int p0, .int p1, .int p2, .int p3, .int p4]) ++ List.replicate (7 - (lg_sl ([.ref (ad a), .int p0, .int p1, .int p2, .int p3, .int p4])).length) Slot.unset).toArray = ls at hl ⊢
  have hl : lv_has ls 7 [(0, .ref (ad a)), (1, .int p0), (2, .int p1), (3, .int p2), (4, .int p3), (5, .int p4)] := hl
  unfold FX0_noteBest at hF
  refine lv_iconst (v := (5 : Int32)) hx hb dX0_noteBest_0 (by decide) ?_
  refine lv_iload_n hx hb dX0_noteBest_1 rfl (lv_at hl 1 rfl) ?_
  refine lv_imul hx hb dX0_noteBest_2 ?_
  obtain ⟨x1, ex1, hF⟩ := ltt_some hF
  refine lv_topi (fun zx1 ezx1 => ?_)
  obtain rfl : x1 = zx1 := ex1.trans ezx1.symm
  refine lv_istore (lv' := [(6, .int x1), (0, .ref (ad a)), (1, .int p0), (2, .int p1), (3, .int p2), (4, .int p3), (5, .int p4)]) hx hb dX0_noteBest_3 hl (by decide) rfl (fun ls hl => ?_)
  refine lv_iload_n hx hb dX0_noteBest_5 rfl (lv_at hl 3 rfl) ?_
  refine lv_aload_n hx hb dX0_noteBest_6 rfl (lv_at hl 1 rfl) ?_
  refine va_get (D := D) (ci := 0) (v := va_re ad (M.2 a 20)) (C := RX0) (T := TX0) (N := 21) hx hb hts (mus hf_X0) hown hK hP a (wld_o ct ad G M hc hk (by decide)) rfl 20 (by decide) (hts (.fieldLink RX0 75 "VideoSuite$Coder" "choice" "[I") (mu mw_838)) (fun _ h9 => h9) rfl dX0_noteBest_7 ?_
  refine lv_iload hx hb dX0_noteBest_10 (lv_at hl 0 rfl) ?_
  obtain ⟨b2, ho2, hc2, hk2, hF⟩ := dr_some hF
  refine W_st (st' := [.int x1, .ref (ad b2), .int p1]) (by rw [va_some ho2]) ?_
  obtain ⟨hvc, hF⟩ := chk_some hF
  refine va_iald hx hb hK hP b2 1 (wld_i ct ad G M hc2 hk2) rfl hvc dX0_noteBest_12 ?_
  obtain ⟨x3, ex3, hF⟩ := ltt_some hF
  refine lv_topi (fun zx3 ezx3 => ?_)
  obtain rfl : x3 = zx3 := ex3.trans ezx3.symm
  obtain ⟨y4, hy4, hF⟩ := bnd_some hF
  have J4 : ∀ (H : Heap) (locs : List Loc) (ls : Array Slot), va_P D classes (wld ct ad G y4) H → va_D A (wld ct ad G y4) → va_S A s.heap H locs → lv_has ls 7 [(6, .int x1), (0, .ref (ad a)), (1, .int p0), (2, .int p1), (3, .int p2), (4, .int p3), (5, .int p4)] → W p l e (headSpec wuX0_noteBest ({ frames := 3, cells := 0, slots := 0, locals := 67 })).room s m ([.ref (ad a), .int p0, .int p1, .int p2, .int p3, .int p4] : List Value).toArray below meth c H locs 0 0 (MQ below (va_Qv (fun (_ : Unit) => True) (fun _ t => kE D ct ad G A y t) A) ([.ref (ad a), .int p0, .int p1, .int p2, .int p3, .int p4] : List Value).toArray s 0 0 A) (F0 m 75 ls []) := by
    intro H locs ls hP hD hS hl
    obtain rfl := Option.some.inj hF
    exact W.vret hx hb hr (fun t ht hW => ⟨⟨(), rfl, trivial, ⟨by rw [ht]; exact hP, va_K.moved hW.alike hK, hD⟩⟩, hS.F ht⟩) hS.2.2 dX0_noteBest_75
  clear hF
  have hF := hy4
  clear hy4
  refine lv_icmp_ge (tgt := 75) hx hb dX0_noteBest_13 (by decide) (fun c5 => ?_) (fun c5 => ?_)
  · rw [if_pos c5] at hF
    obtain rfl := Option.some.inj hF
    exact J4 _ _ _ hP hD hS (lv_sub hl [0, 1, 2, 3, 4, 5, 6] rfl)
  · rw [if_neg c5] at hF
    refine lv_aload_n hx hb dX0_noteBest_16 rfl (lv_at hl 1 rfl) ?_
    refine va_get (D := D) (ci := 0) (v := va_re ad (M.2 a 20)) (C := RX0) (T := TX0) (N := 21) hx hb hts (mus hf_X0) hown hK hP a (wld_o ct ad G M hc hk (by decide)) rfl 20 (by decide) (hts (.fieldLink RX0 75 "VideoSuite$Coder" "choice" "[I") (mu mw_838)) (fun _ h9 => h9) rfl dX0_noteBest_17 ?_
    refine lv_iload hx hb dX0_noteBest_20 (lv_at hl 0 rfl) ?_
    refine lv_iload_n hx hb dX0_noteBest_22 rfl (lv_at hl 3 rfl) ?_
    refine W_st (st' := [.int p1, .int x1, .ref (ad b2)]) (by rw [va_some ho2]) ?_
    obtain ⟨hvc, hF⟩ := chk_some hF
    refine va_iast hx hb hK hP hD hS b2 1 (wld_i ct ad G M hc2 hk2) rfl hvc dX0_noteBest_23 (fun H locs hP hD hS => ?_)
    obtain ⟨M6, eM6, hF⟩ := ltt_some hF
    rw [set_i ct ad G M hc2 hk2, ← eM6] at hP hD
    refine lv_aload_n hx hb dX0_noteBest_24 rfl (lv_at hl 1 rfl) ?_
    refine va_get (D := D) (ci := 0) (v := va_re ad (M6.2 a 20)) (C := RX0) (T := TX0) (N := 21) hx hb hts (mus hf_X0) hown hK hP a (wld_o ct ad G M6 hc hk (by decide)) rfl 20 (by decide) (hts (.fieldLink RX0 75 "VideoSuite$Coder" "choice" "[I") (mu mw_838)) (fun _ h9 => h9) rfl dX0_noteBest_25 ?_
    refine lv_iload hx hb dX0_noteBest_28 (lv_at hl 0 rfl) ?_
    refine lv_iconst (v := (1 : Int32)) hx hb dX0_noteBest_30 (by decide) ?_
    refine lv_iadd hx hb dX0_noteBest_31 ?_
    obtain ⟨x7, ex7, hF⟩ := ltt_some hF
    refine lv_topi (fun zx7 ezx7 => ?_)
    obtain rfl : x7 = zx7 := ex7.trans ezx7.symm
    refine lv_iload_n hx hb dX0_noteBest_32 rfl (lv_at hl 4 rfl) ?_
    obtain ⟨b8, ho8, hc8, hk8, hF⟩ := dr_some hF
    refine W_st (st' := [.int p2, .int x7, .ref (ad b8)]) (by rw [va_some ho8]) ?_
    obtain ⟨hvc, hF⟩ := chk_some hF
    refine va_iast hx hb hK hP hD hS b8 1 (wld_i ct ad G M6 hc8 hk8) rfl hvc dX0_noteBest_33 (fun H locs hP hD hS => ?_)
    obtain ⟨M9, eM9, hF⟩ := ltt_some hF
    rw [set_i ct ad G M6 hc8 hk8, ← eM9] at hP hD
    refine lv_aload_n hx hb dX0_noteBest_34 rfl (lv_at hl 1 rfl) ?_
    refine va_get (D := D) (ci := 0) (v := va_re ad (M9.2 a 20)) (C := RX0) (T := TX0) (N := 21) hx hb hts (mus hf_X0) hown hK hP a (wld_o ct ad G M9 hc hk (by decide)) rfl 20 (by decide) (hts (.fieldLink RX0 75 "VideoSuite$Coder" "choice" "[I") (mu mw_838)) (fun _ h9 => h9) rfl dX0_noteBest_35 ?_
    refine lv_iload hx hb dX0_noteBest_38 (lv_at hl 0 rfl) ?_
    refine lv_iconst (v := (2 : Int32)) hx hb dX0_noteBest_40 (by decide) ?_
    refine lv_iadd hx hb dX0_noteBest_41 ?_
    obtain ⟨x10, ex10, hF⟩ := ltt_some hF
    refine lv_topi (fun zx10 ezx10 => ?_)
    obtain rfl : x10 = zx10 := ex10.trans ezx10.symm
    refine lv_iload hx hb dX0_noteBest_42 (lv_at hl 5 rfl) ?_
    obtain ⟨b11, ho11, hc11, hk11, hF⟩ := dr_some hF
    refine W_st (st' := [.int p3, .int x10, .ref (ad b11)]) (by rw [va_some ho11]) ?_
    obtain ⟨hvc, hF⟩ := chk_some hF
    refine va_iast hx hb hK hP hD hS b11 1 (wld_i ct ad G M9 hc11 hk11) rfl hvc dX0_noteBest_44 (fun H locs hP hD hS => ?_)
    obtain ⟨M12, eM12, hF⟩ := ltt_some hF
    rw [set_i ct ad G M9 hc11 hk11, ← eM12] at hP hD
    refine lv_aload_n hx hb dX0_noteBest_45 rfl (lv_at hl 1 rfl) ?_
    refine va_get (D := D) (ci := 0) (v := va_re ad (M12.2 a 20)) (C := RX0) (T := TX0) (N := 21) hx hb hts (mus hf_X0) hown hK hP a (wld_o ct ad G M12 hc hk (by decide)) rfl 20 (by decide) (hts (.fieldLink RX0 75 "VideoSuite$Coder" "choice" "[I") (mu mw_838)) (fun _ h9 => h9) rfl dX0_noteBest_46 ?_
    refine lv_iload hx hb dX0_noteBest_49 (lv_at hl 0 rfl) ?_
    refine lv_iconst (v := (3 : Int32)) hx hb dX0_noteBest_51 (by decide) ?_
    refine lv_iadd hx hb dX0_noteBest_52 ?_
    obtain ⟨x13, ex13, hF⟩ := ltt_some hF
    refine lv_topi (fun zx13 ezx13 => ?_)
    obtain rfl : x13 = zx13 := ex13.trans ezx13.symm
    refine lv_iload hx hb dX0_noteBest_53 (lv_at hl 6 rfl) ?_
    obtain ⟨b14, ho14, hc14, hk14, hF⟩ := dr_some hF
    refine W_st (st' := [.int p4, .int x13, .ref (ad b14)]) (by rw [va_some ho14]) ?_
    obtain ⟨hvc, hF⟩ := chk_some hF
    refine va_iast hx hb hK hP hD hS b14 1 (wld_i ct ad G M12 hc14 hk14) rfl hvc dX0_noteBest_55 (fun H locs hP hD hS => ?_)
    obtain ⟨M15, eM15, hF⟩ := ltt_some hF
    rw [set_i ct ad G M12 hc14 hk14, ← eM15] at hP hD
    refine lv_aload_n hx hb dX0_noteBest_56 rfl (lv_at hl 1 rfl) ?_
    refine va_get (D := D) (ci := 0) (v := va_re ad (M15.2 a 20)) (C := RX0) (T := TX0) (N := 21) hx hb hts (mus hf_X0) hown hK hP a (wld_o ct ad G M15 hc hk (by decide)) rfl 20 (by decide) (hts (.fieldLink RX0 75 "VideoSuite$Coder" "choice" "[I") (mu mw_838)) (fun _ h9 => h9) rfl dX0_noteBest_57 ?_
    refine lv_iload hx hb dX0_noteBest_60 (lv_at hl 0 rfl) ?_
    refine lv_iconst (v := (4 : Int32)) hx hb dX0_noteBest_62 (by decide) ?_
    refine lv_iadd hx hb dX0_noteBest_63 ?_
    obtain ⟨x16, ex16, hF⟩ := ltt_some hF
    refine lv_topi (fun zx16 ezx16 => ?_)
    obtain rfl : x16 = zx16 := ex16.trans ezx16.symm
    refine lv_aload_n hx hb dX0_noteBest_64 rfl (lv_at hl 1 rfl) ?_
    refine lv_iload_n hx hb dX0_noteBest_65 rfl (lv_at hl 2 rfl) ?_
    refine lv_iload_n hx hb dX0_noteBest_66 rfl (lv_at hl 4 rfl) ?_
    refine lv_iload hx hb dX0_noteBest_67 (lv_at hl 5 rfl) ?_
    refine lv_iload hx hb dX0_noteBest_69 (lv_at hl 6 rfl) ?_
    obtain ⟨y17, hy17, hF⟩ := bnd_some hF
    have hf9 := wA_in hD hA9 hS
    refine va_calli (va_runV (As := [.int p0, .int p2, .int p3, .int p4]) (rest := [.int x16, va_re ad (M15.2 a 20)]) ⟨hx, hb, hml, hown, hts⟩ (kX0_bitsOf l D ct ad Z G M15 H.size a p0 p2 p3 p4 y17 hc hk hy17) (cwV 4 hts gX0_noteBest_X0_bitsOf rfl rfl rfl (by decide +kernel) ⟨Nat.le_of_ble_eq_true rfl, Nat.le_of_ble_eq_true rfl⟩) ⟨fun a U g mk q => by obtain ⟨q0, q1, qP, qK, qD, qZ, qN⟩ := q; exact ⟨q0, q1, qP, va_K.moved (u := U) (U := U.calling g mk a) (Vm.Alike.refl U.vm) qK, qD, sF.moved (u := U) (U := U.calling g mk a) (Vm.Alike.refl U.vm) qZ, nF.same rfl qN⟩, va_recv hK hP (ci := 0) (q0 := a) rfl (wld_o ct ad G M15 hc hk (by decide)), fun U hU hW => ⟨rfl, by rw [hU], by rw [hU]; exact hP, va_K.moved hW.alike hK, hD.weaken (fun _ _ _ _ => trivial), by rw [hU]; exact ((hZ.kept hS.2.1).narrow hf9).moved hW.alike, hN.warm hW⟩⟩ rfl rfl hl.1 rfl (lv_room (by simp only [List.map, va_re_cat]; exact Nat.le_of_ble_eq_true rfl)) dX0_noteBest_71 ⟨(Nat.zero_le _), (Nat.zero_le _)⟩) hS (fun q _ h => hf9 q h) hf9 (fun r u t H locs ht hvm hw hB hz1 hk1 hS => ?_)
    obtain ⟨hP, hK9, hD9⟩ := hB
    rw [ht] at hP
    try dsimp only at hw
    subst hw
    have hD := hD9.weaken (fun _ q _ h => hf9 q.1 h)
    obtain ⟨b18, ho18, hc18, hk18, hF⟩ := dr_some hF
    refine W_st (st' := [.int y17.2, .int x16, .ref (ad b18)]) (by rw [va_some ho18]) ?_
    obtain ⟨hvc, hF⟩ := chk_some hF
    refine va_iast hx hb hK hP hD hS b18 1 (wld_i ct ad G y17.1 hc18 hk18) rfl hvc dX0_noteBest_74 (fun H locs hP hD hS => ?_)
    obtain ⟨M19, eM19, hF⟩ := ltt_some hF
    rw [set_i ct ad G y17.1 hc18 hk18, ← eM19] at hP hD
    obtain rfl := Option.some.inj hF
    exact J4 _ _ _ hP hD hS (lv_sub hl [0, 1, 2, 3, 4, 5, 6] rfl)
set_option maxRecDepth 20000 in
theorem gX0_searchList_X9_guess : GoodIn wuX0_searchList (wsV RX0 415 RX9 yX9_guess wuX9_guess) := gu_V mw_2518 mw_1915 mw_1916 mw_171 mw_1917
set_option maxRecDepth 20000 in
set_option maxRecDepth 20000 in
theorem gX0_searchList_X0_noteBest : GoodIn wuX0_searchList (wsV RX0 475 RX0 yX0_noteBest wuX0_noteBest) := gu_V mw_2556 mw_2558 mw_134 mw_175 mw_2559
set_option maxRecDepth 20000 in
theorem gX0_searchList_X0_costOf : GoodIn wuX0_searchList (wsV RX0 471 RX0 yX0_costOf wuX0_costOf) := gu_V mw_2534 mw_2536 mw_131 mw_175 mw_2537
set_option maxRecDepth 20000 in
theorem dX0_searchList_0 : decode cX0_searchList 0 = .ok (.aload_n 0, 1) := by decide +kernel
theorem dX0_searchList_1 : decode cX0_searchList 1 = .ok (.getfield 75, 3) := by decide +kernel
theorem dX0_searchList_4 : decode cX0_searchList 4 = .ok (.iconst 5, 1) := by decide +kernel
theorem dX0_searchList_5 : decode cX0_searchList 5 = .ok (.iload_n 2, 1) := by decide +kernel
theorem dX0_searchList_6 : decode cX0_searchList 6 = .ok (.imul, 1) := by decide +kernel
theorem dX0_searchList_7 : decode cX0_searchList 7 = .ok (.ldc_w 435, 3) := by decide +kernel
theorem dX0_searchList_10 : decode cX0_searchList 10 = .ok (.iastore, 1) := by decide +kernel
theorem dX0_searchList_11 : decode cX0_searchList 11 = .ok (.iconst 0, 1) := by decide +kernel
theorem dX0_searchList_12 : decode cX0_searchList 12 = .ok (.istore_n 3, 1) := by decide +kernel
theorem dX0_searchList_13 : decode cX0_searchList 13 = .ok (.iload_n 3, 1) := by decide +kernel
theorem dX0_searchList_14 : decode cX0_searchList 14 = .ok (.aload_n 0, 1) := by decide +kernel
theorem dX0_searchList_15 : decode cX0_searchList 15 = .ok (.getfield 36, 3) := by decide +kernel
theorem dX0_searchList_18 : decode cX0_searchList 18 = .ok (.getfield 81, 3) := by decide +kernel
theorem dX0_searchList_21 : decode cX0_searchList 21 = .ok (.getfield 252, 3) := by decide +kernel
theorem dX0_searchList_24 : decode cX0_searchList 24 = .ok (.bipush 9, 2) := by decide +kernel
theorem dX0_searchList_26 : decode cX0_searchList 26 = .ok (.iload_n 2, 1) := by decide +kernel
theorem dX0_searchList_27 : decode cX0_searchList 27 = .ok (.iadd, 1) := by decide +kernel
theorem dX0_searchList_28 : decode cX0_searchList 28 = .ok (.iaload, 1) := by decide +kernel
theorem dX0_searchList_29 : decode cX0_searchList 29 = .ok (.if_icmp .ge 296, 3) := by decide +kernel
theorem dX0_searchList_32 : decode cX0_searchList 32 = .ok (.aload_n 0, 1) := by decide +kernel
theorem dX0_searchList_33 : decode cX0_searchList 33 = .ok (.getfield 36, 3) := by decide +kernel
theorem dX0_searchList_36 : decode cX0_searchList 36 = .ok (.iload_n 1, 1) := by decide +kernel
theorem dX0_searchList_37 : decode cX0_searchList 37 = .ok (.iload_n 2, 1) := by decide +kernel
theorem dX0_searchList_38 : decode cX0_searchList 38 = .ok (.iload_n 3, 1) := by decide +kernel
theorem dX0_searchList_39 : decode cX0_searchList 39 = .ok (.iconst 0, 1) := by decide +kernel
theorem dX0_searchList_40 : decode cX0_searchList 40 = .ok (.bipush 16, 2) := by decide +kernel
theorem dX0_searchList_42 : decode cX0_searchList 42 = .ok (.iconst 0, 1) := by decide +kernel
theorem dX0_searchList_43 : decode cX0_searchList 43 = .ok (.invokevirtual 415, 3) := by decide +kernel
theorem dX0_searchList_46 : decode cX0_searchList 46 = .ok (.aload_n 0, 1) := by decide +kernel
theorem dX0_searchList_47 : decode cX0_searchList 47 = .ok (.getfield 36, 3) := by decide +kernel
theorem dX0_searchList_50 : decode cX0_searchList 50 = .ok (.getfield 419, 3) := by decide +kernel
theorem dX0_searchList_53 : decode cX0_searchList 53 = .ok (.iconst 2, 1) := by decide +kernel
theorem dX0_searchList_54 : decode cX0_searchList 54 = .ok (.iadd, 1) := by decide +kernel
theorem dX0_searchList_55 : decode cX0_searchList 55 = .ok (.iconst 2, 1) := by decide +kernel
theorem dX0_searchList_56 : decode cX0_searchList 56 = .ok (.ishr, 1) := by decide +kernel
theorem dX0_searchList_57 : decode cX0_searchList 57 = .ok (.istore 4, 2) := by decide +kernel
theorem dX0_searchList_59 : decode cX0_searchList 59 = .ok (.aload_n 0, 1) := by decide +kernel
theorem dX0_searchList_60 : decode cX0_searchList 60 = .ok (.getfield 36, 3) := by decide +kernel
theorem dX0_searchList_63 : decode cX0_searchList 63 = .ok (.getfield 422, 3) := by decide +kernel
theorem dX0_searchList_66 : decode cX0_searchList 66 = .ok (.iconst 2, 1) := by decide +kernel
theorem dX0_searchList_67 : decode cX0_searchList 67 = .ok (.iadd, 1) := by decide +kernel
theorem dX0_searchList_68 : decode cX0_searchList 68 = .ok (.iconst 2, 1) := by decide +kernel
theorem dX0_searchList_69 : decode cX0_searchList 69 = .ok (.ishr, 1) := by decide +kernel
theorem dX0_searchList_70 : decode cX0_searchList 70 = .ok (.istore 5, 2) := by decide +kernel
theorem dX0_searchList_72 : decode cX0_searchList 72 = .ok (.aload_n 0, 1) := by decide +kernel
theorem dX0_searchList_73 : decode cX0_searchList 73 = .ok (.getfield 23, 3) := by decide +kernel
theorem dX0_searchList_76 : decode cX0_searchList 76 = .ok (.bipush 10, 2) := by decide +kernel
theorem dX0_searchList_78 : decode cX0_searchList 78 = .ok (.iaload, 1) := by decide +kernel
theorem dX0_searchList_79 : decode cX0_searchList 79 = .ok (.istore 6, 2) := by decide +kernel
theorem dX0_searchList_81 : decode cX0_searchList 81 = .ok (.ldc_w 435, 3) := by decide +kernel
theorem dX0_searchList_84 : decode cX0_searchList 84 = .ok (.istore 7, 2) := by decide +kernel
theorem dX0_searchList_86 : decode cX0_searchList 86 = .ok (.iconst 0, 1) := by decide +kernel
theorem dX0_searchList_87 : decode cX0_searchList 87 = .ok (.istore 8, 2) := by decide +kernel
theorem dX0_searchList_89 : decode cX0_searchList 89 = .ok (.iconst 0, 1) := by decide +kernel
theorem dX0_searchList_90 : decode cX0_searchList 90 = .ok (.istore 9, 2) := by decide +kernel
theorem dX0_searchList_92 : decode cX0_searchList 92 = .ok (.iconst 0, 1) := by decide +kernel
theorem dX0_searchList_93 : decode cX0_searchList 93 = .ok (.istore 10, 2) := by decide +kernel
theorem dX0_searchList_95 : decode cX0_searchList 95 = .ok (.iload 10, 2) := by decide +kernel
theorem dX0_searchList_97 : decode cX0_searchList 97 = .ok (.iconst 2, 1) := by decide +kernel
theorem dX0_searchList_98 : decode cX0_searchList 98 = .ok (.iload 6, 2) := by decide +kernel
theorem dX0_searchList_100 : decode cX0_searchList 100 = .ok (.imul, 1) := by decide +kernel
theorem dX0_searchList_101 : decode cX0_searchList 101 = .ok (.iconst 1, 1) := by decide +kernel
theorem dX0_searchList_102 : decode cX0_searchList 102 = .ok (.iadd, 1) := by decide +kernel
theorem dX0_searchList_103 : decode cX0_searchList 103 = .ok (.iconst 2, 1) := by decide +kernel
theorem dX0_searchList_104 : decode cX0_searchList 104 = .ok (.iload 6, 2) := by decide +kernel
theorem dX0_searchList_106 : decode cX0_searchList 106 = .ok (.imul, 1) := by decide +kernel
theorem dX0_searchList_107 : decode cX0_searchList 107 = .ok (.iconst 1, 1) := by decide +kernel
theorem dX0_searchList_108 : decode cX0_searchList 108 = .ok (.iadd, 1) := by decide +kernel
theorem dX0_searchList_109 : decode cX0_searchList 109 = .ok (.imul, 1) := by decide +kernel
theorem dX0_searchList_110 : decode cX0_searchList 110 = .ok (.if_icmp .ge 79, 3) := by decide +kernel
theorem dX0_searchList_113 : decode cX0_searchList 113 = .ok (.iconst 4, 1) := by decide +kernel
theorem dX0_searchList_114 : decode cX0_searchList 114 = .ok (.iload 4, 2) := by decide +kernel
theorem dX0_searchList_116 : decode cX0_searchList 116 = .ok (.iload 10, 2) := by decide +kernel
theorem dX0_searchList_118 : decode cX0_searchList 118 = .ok (.iconst 2, 1) := by decide +kernel
theorem dX0_searchList_119 : decode cX0_searchList 119 = .ok (.iload 6, 2) := by decide +kernel
theorem dX0_searchList_121 : decode cX0_searchList 121 = .ok (.imul, 1) := by decide +kernel
theorem dX0_searchList_122 : decode cX0_searchList 122 = .ok (.iconst 1, 1) := by decide +kernel
theorem dX0_searchList_123 : decode cX0_searchList 123 = .ok (.iadd, 1) := by decide +kernel
theorem dX0_searchList_124 : decode cX0_searchList 124 = .ok (.irem, 1) := by decide +kernel
theorem dX0_searchList_125 : decode cX0_searchList 125 = .ok (.iadd, 1) := by decide +kernel
theorem dX0_searchList_126 : decode cX0_searchList 126 = .ok (.iload 6, 2) := by decide +kernel
theorem dX0_searchList_128 : decode cX0_searchList 128 = .ok (.isub, 1) := by decide +kernel
theorem dX0_searchList_129 : decode cX0_searchList 129 = .ok (.imul, 1) := by decide +kernel
theorem dX0_searchList_130 : decode cX0_searchList 130 = .ok (.istore 11, 2) := by decide +kernel
theorem dX0_searchList_132 : decode cX0_searchList 132 = .ok (.iconst 4, 1) := by decide +kernel
theorem dX0_searchList_133 : decode cX0_searchList 133 = .ok (.iload 5, 2) := by decide +kernel
theorem dX0_searchList_135 : decode cX0_searchList 135 = .ok (.iload 10, 2) := by decide +kernel
theorem dX0_searchList_137 : decode cX0_searchList 137 = .ok (.iconst 2, 1) := by decide +kernel
theorem dX0_searchList_138 : decode cX0_searchList 138 = .ok (.iload 6, 2) := by decide +kernel
theorem dX0_searchList_140 : decode cX0_searchList 140 = .ok (.imul, 1) := by decide +kernel
theorem dX0_searchList_141 : decode cX0_searchList 141 = .ok (.iconst 1, 1) := by decide +kernel
theorem dX0_searchList_142 : decode cX0_searchList 142 = .ok (.iadd, 1) := by decide +kernel
theorem dX0_searchList_143 : decode cX0_searchList 143 = .ok (.idiv, 1) := by decide +kernel
theorem dX0_searchList_144 : decode cX0_searchList 144 = .ok (.iadd, 1) := by decide +kernel
theorem dX0_searchList_145 : decode cX0_searchList 145 = .ok (.iload 6, 2) := by decide +kernel
theorem dX0_searchList_147 : decode cX0_searchList 147 = .ok (.isub, 1) := by decide +kernel
theorem dX0_searchList_148 : decode cX0_searchList 148 = .ok (.imul, 1) := by decide +kernel
theorem dX0_searchList_149 : decode cX0_searchList 149 = .ok (.istore 12, 2) := by decide +kernel
theorem dX0_searchList_151 : decode cX0_searchList 151 = .ok (.aload_n 0, 1) := by decide +kernel
theorem dX0_searchList_152 : decode cX0_searchList 152 = .ok (.iload_n 1, 1) := by decide +kernel
theorem dX0_searchList_153 : decode cX0_searchList 153 = .ok (.iload_n 2, 1) := by decide +kernel
theorem dX0_searchList_154 : decode cX0_searchList 154 = .ok (.iload_n 3, 1) := by decide +kernel
theorem dX0_searchList_155 : decode cX0_searchList 155 = .ok (.iload 11, 2) := by decide +kernel
theorem dX0_searchList_157 : decode cX0_searchList 157 = .ok (.iload 12, 2) := by decide +kernel
theorem dX0_searchList_159 : decode cX0_searchList 159 = .ok (.invokevirtual 471, 3) := by decide +kernel
theorem dX0_searchList_162 : decode cX0_searchList 162 = .ok (.istore 13, 2) := by decide +kernel
theorem dX0_searchList_164 : decode cX0_searchList 164 = .ok (.iload 13, 2) := by decide +kernel
theorem dX0_searchList_166 : decode cX0_searchList 166 = .ok (.iload 7, 2) := by decide +kernel
theorem dX0_searchList_168 : decode cX0_searchList 168 = .ok (.if_icmp .ge 15, 3) := by decide +kernel
theorem dX0_searchList_171 : decode cX0_searchList 171 = .ok (.iload 13, 2) := by decide +kernel
theorem dX0_searchList_173 : decode cX0_searchList 173 = .ok (.istore 7, 2) := by decide +kernel
theorem dX0_searchList_175 : decode cX0_searchList 175 = .ok (.iload 11, 2) := by decide +kernel
theorem dX0_searchList_177 : decode cX0_searchList 177 = .ok (.istore 8, 2) := by decide +kernel
theorem dX0_searchList_179 : decode cX0_searchList 179 = .ok (.iload 12, 2) := by decide +kernel
theorem dX0_searchList_181 : decode cX0_searchList 181 = .ok (.istore 9, 2) := by decide +kernel
theorem dX0_searchList_183 : decode cX0_searchList 183 = .ok (.iinc 10 1, 3) := by decide +kernel
theorem dX0_searchList_186 : decode cX0_searchList 186 = .ok (.goto (-91), 3) := by decide +kernel
theorem dX0_searchList_189 : decode cX0_searchList 189 = .ok (.iconst 2, 1) := by decide +kernel
theorem dX0_searchList_190 : decode cX0_searchList 190 = .ok (.istore 10, 2) := by decide +kernel
theorem dX0_searchList_192 : decode cX0_searchList 192 = .ok (.iload 10, 2) := by decide +kernel
theorem dX0_searchList_194 : decode cX0_searchList 194 = .ok (.ifCond .le 113, 3) := by decide +kernel
theorem dX0_searchList_197 : decode cX0_searchList 197 = .ok (.iload 7, 2) := by decide +kernel
theorem dX0_searchList_199 : decode cX0_searchList 199 = .ok (.ldc_w 435, 3) := by decide +kernel
theorem dX0_searchList_202 : decode cX0_searchList 202 = .ok (.if_icmp .ge 105, 3) := by decide +kernel
theorem dX0_searchList_205 : decode cX0_searchList 205 = .ok (.iload 8, 2) := by decide +kernel
theorem dX0_searchList_207 : decode cX0_searchList 207 = .ok (.istore 11, 2) := by decide +kernel
theorem dX0_searchList_209 : decode cX0_searchList 209 = .ok (.iload 9, 2) := by decide +kernel
theorem dX0_searchList_211 : decode cX0_searchList 211 = .ok (.istore 12, 2) := by decide +kernel
theorem dX0_searchList_213 : decode cX0_searchList 213 = .ok (.iconst 0, 1) := by decide +kernel
theorem dX0_searchList_214 : decode cX0_searchList 214 = .ok (.istore 13, 2) := by decide +kernel
theorem dX0_searchList_216 : decode cX0_searchList 216 = .ok (.iload 13, 2) := by decide +kernel
theorem dX0_searchList_218 : decode cX0_searchList 218 = .ok (.bipush 9, 2) := by decide +kernel
theorem dX0_searchList_220 : decode cX0_searchList 220 = .ok (.if_icmp .ge 81, 3) := by decide +kernel
theorem dX0_searchList_223 : decode cX0_searchList 223 = .ok (.iload 11, 2) := by decide +kernel
theorem dX0_searchList_225 : decode cX0_searchList 225 = .ok (.iload 10, 2) := by decide +kernel
theorem dX0_searchList_227 : decode cX0_searchList 227 = .ok (.iload 13, 2) := by decide +kernel
theorem dX0_searchList_229 : decode cX0_searchList 229 = .ok (.iconst 3, 1) := by decide +kernel
theorem dX0_searchList_230 : decode cX0_searchList 230 = .ok (.irem, 1) := by decide +kernel
theorem dX0_searchList_231 : decode cX0_searchList 231 = .ok (.iconst 1, 1) := by decide +kernel
theorem dX0_searchList_232 : decode cX0_searchList 232 = .ok (.isub, 1) := by decide +kernel
theorem dX0_searchList_233 : decode cX0_searchList 233 = .ok (.imul, 1) := by decide +kernel
theorem dX0_searchList_234 : decode cX0_searchList 234 = .ok (.iadd, 1) := by decide +kernel
theorem dX0_searchList_235 : decode cX0_searchList 235 = .ok (.istore 14, 2) := by decide +kernel
theorem dX0_searchList_237 : decode cX0_searchList 237 = .ok (.iload 12, 2) := by decide +kernel
theorem dX0_searchList_239 : decode cX0_searchList 239 = .ok (.iload 10, 2) := by decide +kernel
theorem dX0_searchList_241 : decode cX0_searchList 241 = .ok (.iload 13, 2) := by decide +kernel
theorem dX0_searchList_243 : decode cX0_searchList 243 = .ok (.iconst 3, 1) := by decide +kernel
theorem dX0_searchList_244 : decode cX0_searchList 244 = .ok (.idiv, 1) := by decide +kernel
theorem dX0_searchList_245 : decode cX0_searchList 245 = .ok (.iconst 1, 1) := by decide +kernel
theorem dX0_searchList_246 : decode cX0_searchList 246 = .ok (.isub, 1) := by decide +kernel
theorem dX0_searchList_247 : decode cX0_searchList 247 = .ok (.imul, 1) := by decide +kernel
theorem dX0_searchList_248 : decode cX0_searchList 248 = .ok (.iadd, 1) := by decide +kernel
theorem dX0_searchList_249 : decode cX0_searchList 249 = .ok (.istore 15, 2) := by decide +kernel
theorem dX0_searchList_251 : decode cX0_searchList 251 = .ok (.iload 13, 2) := by decide +kernel
theorem dX0_searchList_253 : decode cX0_searchList 253 = .ok (.iconst 4, 1) := by decide +kernel
theorem dX0_searchList_254 : decode cX0_searchList 254 = .ok (.if_icmp .ne 9, 3) := by decide +kernel
theorem dX0_searchList_257 : decode cX0_searchList 257 = .ok (.ldc_w 435, 3) := by decide +kernel
theorem dX0_searchList_260 : decode cX0_searchList 260 = .ok (.goto 14, 3) := by decide +kernel
theorem dX0_searchList_263 : decode cX0_searchList 263 = .ok (.aload_n 0, 1) := by decide +kernel
theorem dX0_searchList_264 : decode cX0_searchList 264 = .ok (.iload_n 1, 1) := by decide +kernel
theorem dX0_searchList_265 : decode cX0_searchList 265 = .ok (.iload_n 2, 1) := by decide +kernel
theorem dX0_searchList_266 : decode cX0_searchList 266 = .ok (.iload_n 3, 1) := by decide +kernel
theorem dX0_searchList_267 : decode cX0_searchList 267 = .ok (.iload 14, 2) := by decide +kernel
theorem dX0_searchList_269 : decode cX0_searchList 269 = .ok (.iload 15, 2) := by decide +kernel
theorem dX0_searchList_271 : decode cX0_searchList 271 = .ok (.invokevirtual 471, 3) := by decide +kernel
theorem dX0_searchList_274 : decode cX0_searchList 274 = .ok (.istore 16, 2) := by decide +kernel
theorem dX0_searchList_276 : decode cX0_searchList 276 = .ok (.iload 16, 2) := by decide +kernel
theorem dX0_searchList_278 : decode cX0_searchList 278 = .ok (.iload 7, 2) := by decide +kernel
theorem dX0_searchList_280 : decode cX0_searchList 280 = .ok (.if_icmp .ge 15, 3) := by decide +kernel
theorem dX0_searchList_283 : decode cX0_searchList 283 = .ok (.iload 16, 2) := by decide +kernel
theorem dX0_searchList_285 : decode cX0_searchList 285 = .ok (.istore 7, 2) := by decide +kernel
theorem dX0_searchList_287 : decode cX0_searchList 287 = .ok (.iload 14, 2) := by decide +kernel
theorem dX0_searchList_289 : decode cX0_searchList 289 = .ok (.istore 8, 2) := by decide +kernel
theorem dX0_searchList_291 : decode cX0_searchList 291 = .ok (.iload 15, 2) := by decide +kernel
theorem dX0_searchList_293 : decode cX0_searchList 293 = .ok (.istore 9, 2) := by decide +kernel
theorem dX0_searchList_295 : decode cX0_searchList 295 = .ok (.iinc 13 1, 3) := by decide +kernel
theorem dX0_searchList_298 : decode cX0_searchList 298 = .ok (.goto (-82), 3) := by decide +kernel
theorem dX0_searchList_301 : decode cX0_searchList 301 = .ok (.iinc 10 (-1), 3) := by decide +kernel
theorem dX0_searchList_304 : decode cX0_searchList 304 = .ok (.goto (-112), 3) := by decide +kernel
theorem dX0_searchList_307 : decode cX0_searchList 307 = .ok (.aload_n 0, 1) := by decide +kernel
theorem dX0_searchList_308 : decode cX0_searchList 308 = .ok (.iload_n 2, 1) := by decide +kernel
theorem dX0_searchList_309 : decode cX0_searchList 309 = .ok (.iload 7, 2) := by decide +kernel
theorem dX0_searchList_311 : decode cX0_searchList 311 = .ok (.iload_n 3, 1) := by decide +kernel
theorem dX0_searchList_312 : decode cX0_searchList 312 = .ok (.iload 8, 2) := by decide +kernel
theorem dX0_searchList_314 : decode cX0_searchList 314 = .ok (.iload 9, 2) := by decide +kernel
theorem dX0_searchList_316 : decode cX0_searchList 316 = .ok (.invokevirtual 475, 3) := by decide +kernel
theorem dX0_searchList_319 : decode cX0_searchList 319 = .ok (.iinc 3 1, 3) := by decide +kernel
theorem dX0_searchList_322 : decode cX0_searchList 322 = .ok (.goto (-309), 3) := by decide +kernel
theorem dX0_searchList_325 : decode cX0_searchList 325 = .ok (.return_, 1) := by decide +kernel
def FX0_searchList (G : GG) (M : DD) (a : Nat) (p0 : Int32) (p1 : Int32) : Option (DD) :=
  ltt ((((5 : Int32)) * p1)) fun x1 =>
  dr G 13 ((M.2 a 20)) fun b2 =>
  chk (¬ (x1 < 0 ∨ G.2.2 b2 ≤ x1.toNatClampNeg)) <|
  ltt (uI M b2 x1.toNatClampNeg ((2147483647 : Int32))) fun M3 =>
  bnd (itr (fun (s5 : Int32 × DD) => ((dr G 9 ((s5.2.2 a 3)) fun b8 =>
  dr G 3 ((s5.2.2 b8 1)) fun b9 =>
  ltt ((((9 : Int32)) + p1)) fun x10 =>
  dr G 13 ((s5.2.2 b9 0)) fun b11 =>
  chk (¬ (x10 < 0 ∨ G.2.2 b11 ≤ x10.toNatClampNeg)) <|
  ltt (s5.2.1 b11 x10.toNatClampNeg) fun x12 =>
  if x12 ≤ s5.1 then (some (.inr (s5.1, s5.2))) else
  (bnd (FX9_guess G s5.2 b8 p0 p1 s5.1 ((0 : Int32)) ((16 : Int32)) ((0 : Int32))) fun y14 =>
  dr G 9 ((y14.2 a 3)) fun b15 =>
  ltt (y14.1 b15 18) fun x16 =>
  ltt ((x16 + ((2 : Int32)))) fun x17 =>
  ltt ((x17 >>> (((2 : Int32)) &&& 31))) fun x18 =>
  ltt (y14.1 b15 19) fun x19 =>
  ltt ((x19 + ((2 : Int32)))) fun x20 =>
  ltt ((x20 >>> (((2 : Int32)) &&& 31))) fun x21 =>
  dr G 13 ((y14.2 a 1)) fun b22 =>
  chk (¬ (((10 : Int32)) < 0 ∨ G.2.2 b22 ≤ ((10 : Int32)).toNatClampNeg)) <|
  ltt (y14.1 b22 ((10 : Int32)).toNatClampNeg) fun x23 =>
  bnd (itr (fun (s25 : Int32 × Int32 × Int32 × Int32 × DD) => ((ltt ((((2 : Int32)) * x23)) fun x56 =>
  ltt ((x56 + ((1 : Int32)))) fun x57 =>
  ltt ((((2 : Int32)) * x23)) fun x58 =>
  ltt ((x58 + ((1 : Int32)))) fun x59 =>
  ltt ((x57 * x59)) fun x60 =>
  if x60 ≤ s25.2.2.2.1 then (some (.inr (s25.1, s25.2.1, s25.2.2.1, s25.2.2.2.1, s25.2.2.2.2))) else
  (ltt ((((2 : Int32)) * x23)) fun x62 =>
  ltt ((x62 + ((1 : Int32)))) fun x63 =>
  chk (¬ x63 = 0) <|
  ltt (s25.2.2.2.1 - s25.2.2.2.1 / x63 * x63) fun x64 =>
  ltt ((x18 + x64)) fun x65 =>
  ltt ((x65 - x23)) fun x66 =>
  ltt ((((4 : Int32)) * x66)) fun x67 =>
  ltt ((((2 : Int32)) * x23)) fun x68 =>
  ltt ((x68 + ((1 : Int32)))) fun x69 =>
  chk (¬ x69 = 0) <|
  ltt (s25.2.2.2.1 / x69) fun x70 =>
  ltt ((x21 + x70)) fun x71 =>
  ltt ((x71 - x23)) fun x72 =>
  ltt ((((4 : Int32)) * x72)) fun x73 =>
  bnd (FX0_costOf G s25.2.2.2.2 a p0 p1 s5.1 x67 x73) fun y74 =>
  bnd (if s25.1 ≤ y74.2 then (some (s25.1, s25.2.1, s25.2.2.1)) else
  (some (y74.2, x67, x73))) fun (y75 : Int32 × Int32 × Int32) =>
  ltt (s25.2.2.2.1 + (1 : Int32)) fun x76 =>
  some (.inl (y75.1, y75.2.1, y75.2.2, x76, y74.1)))) : Option ((Int32 × Int32 × Int32 × Int32 × DD) ⊕ (Int32 × Int32 × Int32 × Int32 × DD)))) 1000000 ((2147483647 : Int32), (0 : Int32), (0 : Int32), (0 : Int32), y14)) fun (y24 : Int32 × Int32 × Int32 × Int32 × DD) =>
  bnd (itr (fun (s28 : Int32 × Int32 × Int32 × Int32 × DD) => ((if s28.2.2.2.1 ≤ ((0 : Int32)) then (some (.inr (s28.1, s28.2.1, s28.2.2.1, s28.2.2.2.1, s28.2.2.2.2))) else
  (if ((2147483647 : Int32)) ≤ s28.1 then (some (.inr (s28.1, s28.2.1, s28.2.2.1, s28.2.2.2.1, s28.2.2.2.2))) else
  (bnd (itr (fun (s36 : Int32 × Int32 × Int32 × Int32 × DD) => ((if ((9 : Int32)) ≤ s36.2.2.2.1 then (some (.inr (s36.1, s36.2.1, s36.2.2.1, s36.2.2.2.1, s36.2.2.2.2))) else
  (ltt (s36.2.2.2.1 - s36.2.2.2.1 / ((3 : Int32)) * ((3 : Int32))) fun x41 =>
  ltt ((x41 - ((1 : Int32)))) fun x42 =>
  ltt ((s28.2.2.2.1 * x42)) fun x43 =>
  ltt ((s28.2.1 + x43)) fun x44 =>
  ltt (s36.2.2.2.1 / ((3 : Int32))) fun x45 =>
  ltt ((x45 - ((1 : Int32)))) fun x46 =>
  ltt ((s28.2.2.2.1 * x46)) fun x47 =>
  ltt ((s28.2.2.1 + x47)) fun x48 =>
  bnd (if s36.2.2.2.1 = ((4 : Int32)) then (some ((2147483647 : Int32), s36.2.2.2.2)) else
  (bnd (FX0_costOf G s36.2.2.2.2 a p0 p1 s5.1 x44 x48) fun y54 =>
  some (y54.2, y54.1))) fun (y49 : Int32 × DD) =>
  bnd (if s36.1 ≤ y49.1 then (some (s36.1, s36.2.1, s36.2.2.1)) else
  (some (y49.1, x44, x48))) fun (y50 : Int32 × Int32 × Int32) =>
  ltt (s36.2.2.2.1 + (1 : Int32)) fun x51 =>
  some (.inl (y50.1, y50.2.1, y50.2.2, x51, y49.2)))) : Option ((Int32 × Int32 × Int32 × Int32 × DD) ⊕ (Int32 × Int32 × Int32 × Int32 × DD)))) 1000000 (s28.1, s28.2.1, s28.2.2.1, (0 : Int32), s28.2.2.2.2)) fun (y35 : Int32 × Int32 × Int32 × Int32 × DD) =>
  ltt (s28.2.2.2.1 + (-1 : Int32)) fun x38 =>
  some (.inl (y35.1, y35.2.1, y35.2.2.1, x38, y35.2.2.2.2))))) : Option ((Int32 × Int32 × Int32 × Int32 × DD) ⊕ (Int32 × Int32 × Int32 × Int32 × DD)))) 1000000 (y24.1, y24.2.1, y24.2.2.1, (2 : Int32), y24.2.2.2.2)) fun (y27 : Int32 × Int32 × Int32 × Int32 × DD) =>
  bnd (FX0_noteBest G y27.2.2.2.2 a p1 y27.1 s5.1 y27.2.1 y27.2.2.1) fun y30 =>
  ltt (s5.1 + (1 : Int32)) fun x31 =>
  some (.inl (x31, y30)))) : Option ((Int32 × DD) ⊕ (Int32 × DD)))) 1000000 ((0 : Int32), M3)) fun (y4 : Int32 × DD) =>
  some y4.2
set_option maxHeartbeats 4000000 in
set_option maxRecDepth 100000 in
theorem kX0_searchList (l : Launch) (D : va_G) (ct : CT) (ad : Nat → Nat) (Z : Nat → Nat) (G : GG) (M : DD) (sz : Nat) (a : Nat) (p0 : Int32) (p1 : Int32) (y : DD) (hc : a < G.1) (hk : G.2.1 a = 0) (hF : FX0_searchList G M a p0 p1 = some y) : Met l yX0_searchList wuX0_searchList ({ frames := 5, cells := 0, slots := 0, locals := 139 }) (va_Pc [.ref (ad a), .int p0, .int p1] (kB D ct ad Z G M sz)) (va_Qv (fun (_ : Unit) => True) (fun _ t => kE D ct ad G (wA ad G sz) y t) (wA ad G sz)) 0 0 (wA ad G sz) := by
  refine Met.ofW (cc := cX0_searchList) (maxL := 17) (ret := none) (by decide) rfl ?_
  intro p e s m args below meth c s₁ B hml hv
  obtain ⟨rfl, hsz, hP, hK, hD0, hZ, hN⟩ := hv
  have hx := B.exec
  have hb := B.bytes
  have hr := B.returns
  have hts := atoms_spec (ws := wuX0_searchList) B.pre
  have hown : s.vm.findClass RX0 = some m.cls := findClass_of_methodNamed B.named
  have hlocks := B.notSynchronized
  subst hsz
  have hD := wD_self (sz := s.heap.size) hD0
  have hA9 : ∀ q, s.heap.size ≤ q → wA ad G s.heap.size q := fun q h => Or.inr h
  generalize hAe : wA ad G s.heap.size = A at hD hA9 hZ ⊢
  have hS : va_S A s.heap s.heap [] := va_S.rf
  have hl := lv_entry ([.ref (ad a), .int p0, .int p1]) (n := 17) (Nat.le_of_ble_eq_true rfl)
  rw [lg_entry_eq]
  generalize (lg_sl ([.ref (ad a), .int p0, .int p1]) ++ List.replicate (17 - (lg_sl ([.ref (ad a), .int p0, .int p1])).length) Slot.unset).toArray = ls at hl ⊢
  have hl : lv_has ls 17 [(0, .ref (ad a)), (1, .int p0), (2, .int p1)] := hl
  unfold FX0_searchList at hF
  refine lv_aload_n hx hb dX0_searchList_0 rfl (lv_at hl 0 rfl) ?_
  refine va_get (D := D) (ci := 0) (v := va_re ad (M.2 a 20)) (C := RX0) (T := TX0) (N := 21) hx hb hts (mus hf_X0) hown hK hP a (wld_o ct ad G M hc hk (by decide)) rfl 20 (by decide) (hts (.fieldLink RX0 75 "VideoSuite$Coder" "choice" "[I") (mu mw_838)) (fun _ h9 => h9) rfl dX0_searchList_1 ?_
  refine lv_iconst (v := (5 : Int32)) hx hb dX0_searchList_4 (by decide) ?_
  refine lv_iload_n hx hb dX0_searchList_5 rfl (lv_at hl 2 rfl) ?_
  refine lv_imul hx hb dX0_searchList_6 ?_
  obtain ⟨x1, ex1, hF⟩ := ltt_some hF
  refine lv_topi (fun zx1 ezx1 => ?_)
  obtain rfl : x1 = zx1 := ex1.trans ezx1.symm
  refine lv_ldcw (v := (2147483647 : Int32)) hx hb hown (hts (.constant RX0 435 (2147483647 : Int32)) (mu mw_2529)) dX0_searchList_7 ?_
  obtain ⟨b2, ho2, hc2, hk2, hF⟩ := dr_some hF
  refine W_st (st' := [.int (2147483647 : Int32), .int x1, .ref (ad b2)]) (by rw [va_some ho2]) ?_
  obtain ⟨hvc, hF⟩ := chk_some hF
  refine va_iast hx hb hK hP hD hS b2 1 (wld_i ct ad G M hc2 hk2) rfl hvc dX0_searchList_10 (fun H locs hP hD hS => ?_)
  obtain ⟨M3, eM3, hF⟩ := ltt_some hF
  rw [set_i ct ad G M hc2 hk2, ← eM3] at hP hD
  refine lv_iconst (v := (0 : Int32)) hx hb dX0_searchList_11 (by decide) ?_
  refine lv_istore_n (lv' := [(3, .int (0 : Int32)), (0, .ref (ad a)), (1, .int p0), (2, .int p1)]) hx hb dX0_searchList_12 rfl hl (by decide) rfl (fun ls hl => ?_)
  obtain ⟨y4, hy4, hF⟩ := bnd_some hF
  have K4 : ∀ (H : Heap) (locs : List Loc) (ls : Array Slot), va_P D classes (wld ct ad G y4.2) H → va_D A (wld ct ad G y4.2) → va_S A s.heap H locs → lv_has ls 17 [(3, .int y4.1), (0, .ref (ad a)), (1, .int p0), (2, .int p1)] → W p l e (headSpec wuX0_searchList ({ frames := 5, cells := 0, slots := 0, locals := 139 })).room s m ([.ref (ad a), .int p0, .int p1] : List Value).toArray below meth c H locs 0 0 (MQ below (va_Qv (fun (_ : Unit) => True) (fun _ t => kE D ct ad G A y t) A) ([.ref (ad a), .int p0, .int p1] : List Value).toArray s 0 0 A) (F0 m 325 ls []) := by
    intro H locs ls hP hD hS hl
    obtain rfl := Option.some.inj hF
    exact W.vret hx hb hr (fun t ht hW => ⟨⟨(), rfl, trivial, ⟨by rw [ht]; exact hP, va_K.moved hW.alike hK, hD⟩⟩, hS.F ht⟩) hS.2.2 dX0_searchList_325
  clear hF
  refine itr_rule (fun (s5 : Int32 × DD) => ∀ (H : Heap) (locs : List Loc) (ls : Array Slot), va_P D classes (wld ct ad G s5.2) H → va_D A (wld ct ad G s5.2) → va_S A s.heap H locs → lv_has ls 17 [(3, .int s5.1), (0, .ref (ad a)), (1, .int p0), (2, .int p1)] → W p l e (headSpec wuX0_searchList ({ frames := 5, cells := 0, slots := 0, locals := 139 })).room s m ([.ref (ad a), .int p0, .int p1] : List Value).toArray below meth c H locs 0 0 (MQ below (va_Qv (fun (_ : Unit) => True) (fun _ t => kE D ct ad G A y t) A) ([.ref (ad a), .int p0, .int p1] : List Value).toArray s 0 0 A) (F0 m 13 ls [])) ?_ _ _ hy4 _ _ _ hP hD hS (lv_sub hl [0, 1, 2, 3] rfl)
  rintro s5 ⟨z7, hF, hwz7⟩ H locs ls hP hD hS hl
  try dsimp only at hF
  refine lv_iload_n hx hb dX0_searchList_13 rfl (lv_at hl 0 rfl) ?_
  refine lv_aload_n hx hb dX0_searchList_14 rfl (lv_at hl 1 rfl) ?_
  refine va_get (D := D) (ci := 0) (v := va_re ad (s5.2.2 a 3)) (C := RX0) (T := TX0) (N := 21) hx hb hts (mus hf_X0) hown hK hP a (wld_o ct ad G s5.2 hc hk (by decide)) rfl 3 (by decide) (hts (.fieldLink RX0 36 "VideoSuite$Coder" "work" "LVideoSuite$Work;") (mu mw_817)) (fun _ h9 => h9) rfl dX0_searchList_15 ?_
  obtain ⟨b8, ho8, hc8, hk8, hF⟩ := dr_some hF
  refine W_st (st' := [.ref (ad b8), .int s5.1]) (by rw [va_some ho8]) ?_
  refine va_get (D := D) (ci := 9) (v := va_re ad (s5.2.2 b8 1)) (C := RX9) (T := TX9) (N := 20) hx hb hts (mus hf_X9) hown hK hP b8 (wld_o ct ad G s5.2 hc8 hk8 (by decide)) rfl 1 (by decide) (hts (.fieldLink RX0 81 "VideoSuite$Work" "head" "LVideoSuite$Header;") (mu mw_425)) (fun _ h9 => h9) rfl dX0_searchList_18 ?_
  obtain ⟨b9, ho9, hc9, hk9, hF⟩ := dr_some hF
  refine W_st (st' := [.ref (ad b9), .int s5.1]) (by rw [va_some ho9]) ?_
  refine va_get (D := D) (ci := 3) (v := va_re ad (s5.2.2 b9 0)) (C := RX3) (T := TX3) (N := 4) hx hb hts (mus hf_X3) hown hK hP b9 (wld_o ct ad G s5.2 hc9 hk9 (by decide)) rfl 0 (by decide) (hts (.fieldLink RX0 252 "VideoSuite$Header" "v" "[I") (mu mw_620)) (fun _ h9 => h9) rfl dX0_searchList_21 ?_
  refine lv_bipush (v := (9 : Int32)) hx hb dX0_searchList_24 (by decide) ?_
  refine lv_iload_n hx hb dX0_searchList_26 rfl (lv_at hl 3 rfl) ?_
  refine lv_iadd hx hb dX0_searchList_27 ?_
  obtain ⟨x10, ex10, hF⟩ := ltt_some hF
  refine lv_topi (fun zx10 ezx10 => ?_)
  obtain rfl : x10 = zx10 := ex10.trans ezx10.symm
  obtain ⟨b11, ho11, hc11, hk11, hF⟩ := dr_some hF
  refine W_st (st' := [.int x10, .ref (ad b11), .int s5.1]) (by rw [va_some ho11]) ?_
  obtain ⟨hvc, hF⟩ := chk_some hF
  refine va_iald hx hb hK hP b11 1 (wld_i ct ad G s5.2 hc11 hk11) rfl hvc dX0_searchList_28 ?_
  obtain ⟨x12, ex12, hF⟩ := ltt_some hF
  refine lv_topi (fun zx12 ezx12 => ?_)
  obtain rfl : x12 = zx12 := ex12.trans ezx12.symm
  refine lv_icmp_ge (tgt := 325) hx hb dX0_searchList_29 (by decide) (fun c13 => ?_) (fun c13 => ?_)
  · rw [if_pos c13] at hF
    obtain rfl := Option.some.inj hF
    subst hwz7
    exact K4 _ _ _ hP hD hS (lv_sub hl [0, 1, 2, 3] rfl)
  · rw [if_neg c13] at hF
    refine lv_aload_n hx hb dX0_searchList_32 rfl (lv_at hl 1 rfl) ?_
    refine va_get (D := D) (ci := 0) (v := va_re ad (s5.2.2 a 3)) (C := RX0) (T := TX0) (N := 21) hx hb hts (mus hf_X0) hown hK hP a (wld_o ct ad G s5.2 hc hk (by decide)) rfl 3 (by decide) (hts (.fieldLink RX0 36 "VideoSuite$Coder" "work" "LVideoSuite$Work;") (mu mw_817)) (fun _ h9 => h9) rfl dX0_searchList_33 ?_
    refine lv_iload_n hx hb dX0_searchList_36 rfl (lv_at hl 2 rfl) ?_
    refine lv_iload_n hx hb dX0_searchList_37 rfl (lv_at hl 3 rfl) ?_
    refine lv_iload_n hx hb dX0_searchList_38 rfl (lv_at hl 0 rfl) ?_
    refine lv_iconst (v := (0 : Int32)) hx hb dX0_searchList_39 (by decide) ?_
    refine lv_bipush (v := (16 : Int32)) hx hb dX0_searchList_40 (by decide) ?_
    refine lv_iconst (v := (0 : Int32)) hx hb dX0_searchList_42 (by decide) ?_
    refine W_st (st' := [.int (0 : Int32), .int (16 : Int32), .int (0 : Int32), .int s5.1, .int p1, .int p0, .ref (ad b8)]) (by rw [va_some ho8]) ?_
    obtain ⟨y14, hy14, hF⟩ := bnd_some hF
    have hf9 := wA_in hD hA9 hS
    refine va_callv (va_runV (As := [.int p0, .int p1, .int s5.1, .int (0 : Int32), .int (16 : Int32), .int (0 : Int32)]) (rest := []) ⟨hx, hb, hml, hown, hts⟩ (kX9_guess l D ct ad Z G s5.2 H.size b8 p0 p1 s5.1 ((0 : Int32)) ((16 : Int32)) ((0 : Int32)) y14 hc8 hk8 hy14) (cwV 6 hts gX0_searchList_X9_guess rfl rfl rfl (by decide +kernel) ⟨Nat.le_of_ble_eq_true rfl, Nat.le_of_ble_eq_true rfl⟩) ⟨fun a U g mk q => by obtain ⟨q0, q1, qP, qK, qD, qZ, qN⟩ := q; exact ⟨q0, q1, qP, va_K.moved (u := U) (U := U.calling g mk a) (Vm.Alike.refl U.vm) qK, qD, sF.moved (u := U) (U := U.calling g mk a) (Vm.Alike.refl U.vm) qZ, nF.same rfl qN⟩, va_recv hK hP (ci := 9) (q0 := b8) rfl (wld_o ct ad G s5.2 hc8 hk8 (by decide)), fun U hU hW => ⟨rfl, by rw [hU], by rw [hU]; exact hP, va_K.moved hW.alike hK, hD.weaken (fun _ _ _ _ => trivial), by rw [hU]; exact ((hZ.kept hS.2.1).narrow hf9).moved hW.alike, hN.warm hW⟩⟩ rfl rfl hl.1 rfl (lv_room (Nat.le_of_ble_eq_true rfl)) dX0_searchList_43 ⟨(Nat.zero_le _), (Nat.zero_le _)⟩) hS (fun q _ h => hf9 q h) hf9 (fun u t H locs ht hvm hw hB hz1 hk1 hS => ?_)
    obtain ⟨hP, hK9, hD9⟩ := hB
    rw [ht] at hP
    have hD := hD9.weaken (fun _ q _ h => hf9 q.1 h)
    refine lv_aload_n hx hb dX0_searchList_46 rfl (lv_at hl 1 rfl) ?_
    refine va_get (D := D) (ci := 0) (v := va_re ad (y14.2 a 3)) (C := RX0) (T := TX0) (N := 21) hx hb hts (mus hf_X0) hown hK hP a (wld_o ct ad G y14 hc hk (by decide)) rfl 3 (by decide) (hts (.fieldLink RX0 36 "VideoSuite$Coder" "work" "LVideoSuite$Work;") (mu mw_817)) (fun _ h9 => h9) rfl dX0_searchList_47 ?_
    obtain ⟨b15, ho15, hc15, hk15, hF⟩ := dr_some hF
    refine W_st (st' := [.ref (ad b15)]) (by rw [va_some ho15]) ?_
    refine va_get (D := D) (ci := 9) (v := .int (y14.1 b15 18)) (C := RX9) (T := TX9) (N := 20) hx hb hts (mus hf_X9) hown hK hP b15 (wld_o ct ad G y14 hc15 hk15 (by decide)) rfl 18 (by decide) (hts (.fieldLink RX0 419 "VideoSuite$Work" "guessX" "I") (mu mw_482)) (fun _ h9 => h9) rfl dX0_searchList_50 ?_
    obtain ⟨x16, ex16, hF⟩ := ltt_some hF
    refine lv_topi (fun zx16 ezx16 => ?_)
    obtain rfl : x16 = zx16 := ex16.trans ezx16.symm
    refine lv_iconst (v := (2 : Int32)) hx hb dX0_searchList_53 (by decide) ?_
    refine lv_iadd hx hb dX0_searchList_54 ?_
    obtain ⟨x17, ex17, hF⟩ := ltt_some hF
    refine lv_topi (fun zx17 ezx17 => ?_)
    obtain rfl : x17 = zx17 := ex17.trans ezx17.symm
    refine lv_iconst (v := (2 : Int32)) hx hb dX0_searchList_55 (by decide) ?_
    refine lv_ishr hx hb dX0_searchList_56 ?_
    obtain ⟨x18, ex18, hF⟩ := ltt_some hF
    refine lv_topi (fun zx18 ezx18 => ?_)
    obtain rfl : x18 = zx18 := ex18.trans ezx18.symm
    refine lv_istore (lv' := [(4, .int x18), (3, .int s5.1), (0, .ref (ad a)), (1, .int p0), (2, .int p1)]) hx hb dX0_searchList_57 hl (by decide) rfl (fun ls hl => ?_)
    refine lv_aload_n hx hb dX0_searchList_59 rfl (lv_at hl 2 rfl) ?_
    refine va_get (D := D) (ci := 0) (v := va_re ad (y14.2 a 3)) (C := RX0) (T := TX0) (N := 21) hx hb hts (mus hf_X0) hown hK hP a (wld_o ct ad G y14 hc hk (by decide)) rfl 3 (by decide) (hts (.fieldLink RX0 36 "VideoSuite$Coder" "work" "LVideoSuite$Work;") (mu mw_817)) (fun _ h9 => h9) rfl dX0_searchList_60 ?_
    refine W_st (st' := [.ref (ad b15)]) (by rw [va_some ho15]) ?_
    refine va_get (D := D) (ci := 9) (v := .int (y14.1 b15 19)) (C := RX9) (T := TX9) (N := 20) hx hb hts (mus hf_X9) hown hK hP b15 (wld_o ct ad G y14 hc15 hk15 (by decide)) rfl 19 (by decide) (hts (.fieldLink RX0 422 "VideoSuite$Work" "guessY" "I") (mu mw_485)) (fun _ h9 => h9) rfl dX0_searchList_63 ?_
    obtain ⟨x19, ex19, hF⟩ := ltt_some hF
    refine lv_topi (fun zx19 ezx19 => ?_)
    obtain rfl : x19 = zx19 := ex19.trans ezx19.symm
    refine lv_iconst (v := (2 : Int32)) hx hb dX0_searchList_66 (by decide) ?_
    refine lv_iadd hx hb dX0_searchList_67 ?_
    obtain ⟨x20, ex20, hF⟩ := ltt_some hF
    refine lv_topi (fun zx20 ezx20 => ?_)
    obtain rfl : x20 = zx20 := ex20.trans ezx20.symm
    refine lv_iconst (v := (2 : Int32)) hx hb dX0_searchList_68 (by decide) ?_
    refine lv_ishr hx hb dX0_searchList_69 ?_
    obtain ⟨x21, ex21, hF⟩ := ltt_some hF
    refine lv_topi (fun zx21 ezx21 => ?_)
    obtain rfl : x21 = zx21 := ex21.trans ezx21.symm
    refine lv_istore (lv' := [(5, .int x21), (4, .int x18), (3, .int s5.1), (0, .ref (ad a)), (1, .int p0), (2, .int p1)]) hx hb dX0_searchList_70 hl (by decide) rfl (fun ls hl => ?_)
    refine lv_aload_n hx hb dX0_searchList_72 rfl (lv_at hl 3 rfl) ?_
    refine va_get (D := D) (ci := 0) (v := va_re ad (y14.2 a 1)) (C := RX0) (T := TX0) (N := 21) hx hb hts (mus hf_X0) hown hK hP a (wld_o ct ad G y14 hc hk (by decide)) rfl 1 (by decide) (hts (.fieldLink RX0 23 "VideoSuite$Coder" "now" "[I") (mu mw_813)) (fun _ h9 => h9) rfl dX0_searchList_73 ?_
    refine lv_bipush (v := (10 : Int32)) hx hb dX0_searchList_76 (by decide) ?_
    obtain ⟨b22, ho22, hc22, hk22, hF⟩ := dr_some hF
    refine W_st (st' := [.int (10 : Int32), .ref (ad b22)]) (by rw [va_some ho22]) ?_
    obtain ⟨hvc, hF⟩ := chk_some hF
    refine va_iald hx hb hK hP b22 1 (wld_i ct ad G y14 hc22 hk22) rfl hvc dX0_searchList_78 ?_
    obtain ⟨x23, ex23, hF⟩ := ltt_some hF
    refine lv_topi (fun zx23 ezx23 => ?_)
    obtain rfl : x23 = zx23 := ex23.trans ezx23.symm
    refine lv_istore (lv' := [(6, .int x23), (5, .int x21), (4, .int x18), (3, .int s5.1), (0, .ref (ad a)), (1, .int p0), (2, .int p1)]) hx hb dX0_searchList_79 hl (by decide) rfl (fun ls hl => ?_)
    refine lv_ldcw (v := (2147483647 : Int32)) hx hb hown (hts (.constant RX0 435 (2147483647 : Int32)) (mu mw_2529)) dX0_searchList_81 ?_
    refine lv_istore (lv' := [(7, .int (2147483647 : Int32)), (6, .int x23), (5, .int x21), (4, .int x18), (3, .int s5.1), (0, .ref (ad a)), (1, .int p0), (2, .int p1)]) hx hb dX0_searchList_84 hl (by decide) rfl (fun ls hl => ?_)
    refine lv_iconst (v := (0 : Int32)) hx hb dX0_searchList_86 (by decide) ?_
    refine lv_istore (lv' := [(8, .int (0 : Int32)), (7, .int (2147483647 : Int32)), (6, .int x23), (5, .int x21), (4, .int x18), (3, .int s5.1), (0, .ref (ad a)), (1, .int p0), (2, .int p1)]) hx hb dX0_searchList_87 hl (by decide) rfl (fun ls hl => ?_)
    refine lv_iconst (v := (0 : Int32)) hx hb dX0_searchList_89 (by decide) ?_
    refine lv_istore (lv' := [(9, .int (0 : Int32)), (8, .int (0 : Int32)), (7, .int (2147483647 : Int32)), (6, .int x23), (5, .int x21), (4, .int x18), (3, .int s5.1), (0, .ref (ad a)), (1, .int p0), (2, .int p1)]) hx hb dX0_searchList_90 hl (by decide) rfl (fun ls hl => ?_)
    refine lv_iconst (v := (0 : Int32)) hx hb dX0_searchList_92 (by decide) ?_
    refine lv_istore (lv' := [(10, .int (0 : Int32)), (9, .int (0 : Int32)), (8, .int (0 : Int32)), (7, .int (2147483647 : Int32)), (6, .int x23), (5, .int x21), (4, .int x18), (3, .int s5.1), (0, .ref (ad a)), (1, .int p0), (2, .int p1)]) hx hb dX0_searchList_93 hl (by decide) rfl (fun ls hl => ?_)
    obtain ⟨y24, hy24, hF⟩ := bnd_some hF
    have K24 : ∀ (H : Heap) (locs : List Loc) (ls : Array Slot), va_P D classes (wld ct ad G y24.2.2.2.2) H → va_D A (wld ct ad G y24.2.2.2.2) → va_S A s.heap H locs → lv_has ls 17 [(10, .int y24.2.2.2.1), (9, .int y24.2.2.1), (8, .int y24.2.1), (7, .int y24.1), (6, .int x23), (5, .int x21), (4, .int x18), (3, .int s5.1), (0, .ref (ad a)), (1, .int p0), (2, .int p1)] → W p l e (headSpec wuX0_searchList ({ frames := 5, cells := 0, slots := 0, locals := 139 })).room s m ([.ref (ad a), .int p0, .int p1] : List Value).toArray below meth c H locs 0 0 (MQ below (va_Qv (fun (_ : Unit) => True) (fun _ t => kE D ct ad G A y t) A) ([.ref (ad a), .int p0, .int p1] : List Value).toArray s 0 0 A) (F0 m 189 ls []) := by
      intro H locs ls hP hD hS hl
      refine lv_iconst (v := (2 : Int32)) hx hb dX0_searchList_189 (by decide) ?_
      refine lv_istore (lv' := [(10, .int (2 : Int32)), (9, .int y24.2.2.1), (8, .int y24.2.1), (7, .int y24.1), (6, .int x23), (5, .int x21), (4, .int x18), (3, .int s5.1), (0, .ref (ad a)), (1, .int p0), (2, .int p1)]) hx hb dX0_searchList_190 hl (by decide) rfl (fun ls hl => ?_)
      obtain ⟨y27, hy27, hF⟩ := bnd_some hF
      have K27 : ∀ (H : Heap) (locs : List Loc) (ls : Array Slot), va_P D classes (wld ct ad G y27.2.2.2.2) H → va_D A (wld ct ad G y27.2.2.2.2) → va_S A s.heap H locs → lv_has ls 17 [(10, .int y27.2.2.2.1), (9, .int y27.2.2.1), (8, .int y27.2.1), (7, .int y27.1), (6, .int x23), (5, .int x21), (4, .int x18), (3, .int s5.1), (0, .ref (ad a)), (1, .int p0), (2, .int p1)] → W p l e (headSpec wuX0_searchList ({ frames := 5, cells := 0, slots := 0, locals := 139 })).room s m ([.ref (ad a), .int p0, .int p1] : List Value).toArray below meth c H locs 0 0 (MQ below (va_Qv (fun (_ : Unit) => True) (fun _ t => kE D ct ad G A y t) A) ([.ref (ad a), .int p0, .int p1] : List Value).toArray s 0 0 A) (F0 m 307 ls []) := by
        intro H locs ls hP hD hS hl
        refine lv_aload_n hx hb dX0_searchList_307 rfl (lv_at hl 8 rfl) ?_
        refine lv_iload_n hx hb dX0_searchList_308 rfl (lv_at hl 10 rfl) ?_
        refine lv_iload hx hb dX0_searchList_309 (lv_at hl 3 rfl) ?_
        refine lv_iload_n hx hb dX0_searchList_311 rfl (lv_at hl 7 rfl) ?_
        refine lv_iload hx hb dX0_searchList_312 (lv_at hl 2 rfl) ?_
        refine lv_iload hx hb dX0_searchList_314 (lv_at hl 1 rfl) ?_
        obtain ⟨y30, hy30, hF⟩ := bnd_some hF
        have hf9 := wA_in hD hA9 hS
        refine va_callv (va_runV (As := [.int p1, .int y27.1, .int s5.1, .int y27.2.1, .int y27.2.2.1]) (rest := []) ⟨hx, hb, hml, hown, hts⟩ (kX0_noteBest l D ct ad Z G y27.2.2.2.2 H.size a p1 y27.1 s5.1 y27.2.1 y27.2.2.1 y30 hc hk hy30) (cwV 5 hts gX0_searchList_X0_noteBest rfl rfl rfl (by decide +kernel) ⟨Nat.le_of_ble_eq_true rfl, Nat.le_of_ble_eq_true rfl⟩) ⟨fun a U g mk q => by obtain ⟨q0, q1, qP, qK, qD, qZ, qN⟩ := q; exact ⟨q0, q1, qP, va_K.moved (u := U) (U := U.calling g mk a) (Vm.Alike.refl U.vm) qK, qD, sF.moved (u := U) (U := U.calling g mk a) (Vm.Alike.refl U.vm) qZ, nF.same rfl qN⟩, va_recv hK hP (ci := 0) (q0 := a) rfl (wld_o ct ad G y27.2.2.2.2 hc hk (by decide)), fun U hU hW => ⟨rfl, by rw [hU], by rw [hU]; exact hP, va_K.moved hW.alike hK, hD.weaken (fun _ _ _ _ => trivial), by rw [hU]; exact ((hZ.kept hS.2.1).narrow hf9).moved hW.alike, hN.warm hW⟩⟩ rfl rfl hl.1 rfl (lv_room (Nat.le_of_ble_eq_true rfl)) dX0_searchList_316 ⟨(Nat.zero_le _), (Nat.zero_le _)⟩) hS (fun q _ h => hf9 q h) hf9 (fun u t H locs ht hvm hw hB hz1 hk1 hS => ?_)
        obtain ⟨hP, hK9, hD9⟩ := hB
        rw [ht] at hP
        have hD := hD9.weaken (fun _ q _ h => hf9 q.1 h)
        obtain ⟨x31, ex31, hF⟩ := ltt_some hF
        refine lv_iinc (v := x31) (lv' := [(3, .int x31), (10, .int y27.2.2.2.1), (9, .int y27.2.2.1), (8, .int y27.2.1), (7, .int y27.1), (6, .int x23), (5, .int x21), (4, .int x18), (0, .ref (ad a)), (1, .int p0), (2, .int p1)]) hx hb dX0_searchList_319 hl (k := 7) rfl (by rw [ex31]; rfl) (by decide) rfl (fun ls hl => ?_)
        refine lv_goto (tgt := 13) hx hb dX0_searchList_322 (by decide) ?_
        obtain rfl := Option.some.inj hF
        exact hwz7 _ _ _ hP hD hS (lv_sub hl [0, 8, 9, 10] rfl)
      clear hF
      refine itr_rule (fun (s28 : Int32 × Int32 × Int32 × Int32 × DD) => ∀ (H : Heap) (locs : List Loc) (ls : Array Slot), va_P D classes (wld ct ad G s28.2.2.2.2) H → va_D A (wld ct ad G s28.2.2.2.2) → va_S A s.heap H locs → lv_has ls 17 [(10, .int s28.2.2.2.1), (9, .int s28.2.2.1), (8, .int s28.2.1), (7, .int s28.1), (6, .int x23), (5, .int x21), (4, .int x18), (3, .int s5.1), (0, .ref (ad a)), (1, .int p0), (2, .int p1)] → W p l e (headSpec wuX0_searchList ({ frames := 5, cells := 0, slots := 0, locals := 139 })).room s m ([.ref (ad a), .int p0, .int p1] : List Value).toArray below meth c H locs 0 0 (MQ below (va_Qv (fun (_ : Unit) => True) (fun _ t => kE D ct ad G A y t) A) ([.ref (ad a), .int p0, .int p1] : List Value).toArray s 0 0 A) (F0 m 192 ls [])) ?_ _ _ hy27 _ _ _ hP hD hS (lv_sub hl [0, 1, 2, 3, 4, 5, 6, 7, 8, 9, 10] rfl)
      rintro s28 ⟨z32, hF, hwz32⟩ H locs ls hP hD hS hl
      try dsimp only at hF
      refine lv_iload hx hb dX0_searchList_192 (lv_at hl 0 rfl) ?_
      refine lv_if_le (tgt := 307) hx hb dX0_searchList_194 (by decide) (fun c33 => ?_) (fun c33 => ?_)
      · rw [if_pos c33] at hF
        obtain rfl := Option.some.inj hF
        subst hwz32
        exact K27 _ _ _ hP hD hS (lv_sub hl [0, 1, 2, 3, 4, 5, 6, 7, 8, 9, 10] rfl)
      · rw [if_neg c33] at hF
        refine lv_iload hx hb dX0_searchList_197 (lv_at hl 3 rfl) ?_
        refine lv_ldcw (v := (2147483647 : Int32)) hx hb hown (hts (.constant RX0 435 (2147483647 : Int32)) (mu mw_2529)) dX0_searchList_199 ?_
        refine lv_icmp_ge (tgt := 307) hx hb dX0_searchList_202 (by decide) (fun c34 => ?_) (fun c34 => ?_)
        · rw [if_pos c34] at hF
          obtain rfl := Option.some.inj hF
          subst hwz32
          exact K27 _ _ _ hP hD hS (lv_sub hl [0, 1, 2, 3, 4, 5, 6, 7, 8, 9, 10] rfl)
        · rw [if_neg c34] at hF
          refine lv_iload hx hb dX0_searchList_205 (lv_at hl 2 rfl) ?_
          refine lv_istore (lv' := [(11, .int s28.2.1), (10, .int s28.2.2.2.1), (9, .int s28.2.2.1), (8, .int s28.2.1), (7, .int s28.1), (6, .int x23), (5, .int x21), (4, .int x18), (3, .int s5.1), (0, .ref (ad a)), (1, .int p0), (2, .int p1)]) hx hb dX0_searchList_207 hl (by decide) rfl (fun ls hl => ?_)
          refine lv_iload hx hb dX0_searchList_209 (lv_at hl 2 rfl) ?_
          refine lv_istore (lv' := [(12, .int s28.2.2.1), (11, .int s28.2.1), (10, .int s28.2.2.2.1), (9, .int s28.2.2.1), (8, .int s28.2.1), (7, .int s28.1), (6, .int x23), (5, .int x21), (4, .int x18), (3, .int s5.1), (0, .ref (ad a)), (1, .int p0), (2, .int p1)]) hx hb dX0_searchList_211 hl (by decide) rfl (fun ls hl => ?_)
          refine lv_iconst (v := (0 : Int32)) hx hb dX0_searchList_213 (by decide) ?_
          refine lv_istore (lv' := [(13, .int (0 : Int32)), (12, .int s28.2.2.1), (11, .int s28.2.1), (10, .int s28.2.2.2.1), (9, .int s28.2.2.1), (8, .int s28.2.1), (7, .int s28.1), (6, .int x23), (5, .int x21), (4, .int x18), (3, .int s5.1), (0, .ref (ad a)), (1, .int p0), (2, .int p1)]) hx hb dX0_searchList_214 hl (by decide) rfl (fun ls hl => ?_)
          obtain ⟨y35, hy35, hF⟩ := bnd_some hF
          have K35 : ∀ (H : Heap) (locs : List Loc) (ls : Array Slot), va_P D classes (wld ct ad G y35.2.2.2.2) H → va_D A (wld ct ad G y35.2.2.2.2) → va_S A s.heap H locs → lv_has ls 17 [(13, .int y35.2.2.2.1), (12, .int s28.2.2.1), (11, .int s28.2.1), (10, .int s28.2.2.2.1), (9, .int y35.2.2.1), (8, .int y35.2.1), (7, .int y35.1), (6, .int x23), (5, .int x21), (4, .int x18), (3, .int s5.1), (0, .ref (ad a)), (1, .int p0), (2, .int p1)] → W p l e (headSpec wuX0_searchList ({ frames := 5, cells := 0, slots := 0, locals := 139 })).room s m ([.ref (ad a), .int p0, .int p1] : List Value).toArray below meth c H locs 0 0 (MQ below (va_Qv (fun (_ : Unit) => True) (fun _ t => kE D ct ad G A y t) A) ([.ref (ad a), .int p0, .int p1] : List Value).toArray s 0 0 A) (F0 m 301 ls []) := by
            intro H locs ls hP hD hS hl
            obtain ⟨x38, ex38, hF⟩ := ltt_some hF
            refine lv_iinc (v := x38) (lv' := [(10, .int x38), (13, .int y35.2.2.2.1), (12, .int s28.2.2.1), (11, .int s28.2.1), (9, .int y35.2.2.1), (8, .int y35.2.1), (7, .int y35.1), (6, .int x23), (5, .int x21), (4, .int x18), (3, .int s5.1), (0, .ref (ad a)), (1, .int p0), (2, .int p1)]) hx hb dX0_searchList_301 hl (k := 3) rfl (by rw [ex38]; rfl) (by decide) rfl (fun ls hl => ?_)
            refine lv_goto (tgt := 192) hx hb dX0_searchList_304 (by decide) ?_
            obtain rfl := Option.some.inj hF
            exact hwz32 _ _ _ hP hD hS (lv_sub hl [0, 4, 5, 6, 7, 8, 9, 10, 11, 12, 13] rfl)
          clear hF
          refine itr_rule (fun (s36 : Int32 × Int32 × Int32 × Int32 × DD) => ∀ (H : Heap) (locs : List Loc) (ls : Array Slot), va_P D classes (wld ct ad G s36.2.2.2.2) H → va_D A (wld ct ad G s36.2.2.2.2) → va_S A s.heap H locs → lv_has ls 17 [(13, .int s36.2.2.2.1), (12, .int s28.2.2.1), (11, .int s28.2.1), (10, .int s28.2.2.2.1), (9, .int s36.2.2.1), (8, .int s36.2.1), (7, .int s36.1), (6, .int x23), (5, .int x21), (4, .int x18), (3, .int s5.1), (0, .ref (ad a)), (1, .int p0), (2, .int p1)] → W p l e (headSpec wuX0_searchList ({ frames := 5, cells := 0, slots := 0, locals := 139 })).room s m ([.ref (ad a), .int p0, .int p1] : List Value).toArray below meth c H locs 0 0 (MQ below (va_Qv (fun (_ : Unit) => True) (fun _ t => kE D ct ad G A y t) A) ([.ref (ad a), .int p0, .int p1] : List Value).toArray s 0 0 A) (F0 m 216 ls [])) ?_ _ _ hy35 _ _ _ hP hD hS (lv_sub hl [0, 1, 2, 3, 4, 5, 6, 7, 8, 9, 10, 11, 12, 13] rfl)
          rintro s36 ⟨z39, hF, hwz39⟩ H locs ls hP hD hS hl
          try dsimp only at hF
          refine lv_iload hx hb dX0_searchList_216 (lv_at hl 0 rfl) ?_
          refine lv_bipush (v := (9 : Int32)) hx hb dX0_searchList_218 (by decide) ?_
          refine lv_icmp_ge (tgt := 301) hx hb dX0_searchList_220 (by decide) (fun c40 => ?_) (fun c40 => ?_)
          · rw [if_pos c40] at hF
            obtain rfl := Option.some.inj hF
            subst hwz39
            exact K35 _ _ _ hP hD hS (lv_sub hl [0, 1, 2, 3, 4, 5, 6, 7, 8, 9, 10, 11, 12, 13] rfl)
          · rw [if_neg c40] at hF
            refine lv_iload hx hb dX0_searchList_223 (lv_at hl 2 rfl) ?_
            refine lv_iload hx hb dX0_searchList_225 (lv_at hl 3 rfl) ?_
            refine lv_iload hx hb dX0_searchList_227 (lv_at hl 0 rfl) ?_
            refine lv_iconst (v := (3 : Int32)) hx hb dX0_searchList_229 (by decide) ?_
            refine lv_irem hx hb dX0_searchList_230 (by decide) ?_
            obtain ⟨x41, ex41, hF⟩ := ltt_some hF
            refine lv_topi (fun zx41 ezx41 => ?_)
            obtain rfl : x41 = zx41 := ex41.trans ezx41.symm
            refine lv_iconst (v := (1 : Int32)) hx hb dX0_searchList_231 (by decide) ?_
            refine lv_isub hx hb dX0_searchList_232 ?_
            obtain ⟨x42, ex42, hF⟩ := ltt_some hF
            refine lv_topi (fun zx42 ezx42 => ?_)
            obtain rfl : x42 = zx42 := ex42.trans ezx42.symm
            refine lv_imul hx hb dX0_searchList_233 ?_
            obtain ⟨x43, ex43, hF⟩ := ltt_some hF
            refine lv_topi (fun zx43 ezx43 => ?_)
            obtain rfl : x43 = zx43 := ex43.trans ezx43.symm
            refine lv_iadd hx hb dX0_searchList_234 ?_
            obtain ⟨x44, ex44, hF⟩ := ltt_some hF
            refine lv_topi (fun zx44 ezx44 => ?_)
            obtain rfl : x44 = zx44 := ex44.trans ezx44.symm
            refine lv_istore (lv' := [(14, .int x44), (13, .int s36.2.2.2.1), (12, .int s28.2.2.1), (11, .int s28.2.1), (10, .int s28.2.2.2.1), (9, .int s36.2.2.1), (8, .int s36.2.1), (7, .int s36.1), (6, .int x23), (5, .int x21), (4, .int x18), (3, .int s5.1), (0, .ref (ad a)), (1, .int p0), (2, .int p1)]) hx hb dX0_searchList_235 hl (by decide) rfl (fun ls hl => ?_)
            refine lv_iload hx hb dX0_searchList_237 (lv_at hl 2 rfl) ?_
            refine lv_iload hx hb dX0_searchList_239 (lv_at hl 4 rfl) ?_
            refine lv_iload hx hb dX0_searchList_241 (lv_at hl 1 rfl) ?_
            refine lv_iconst (v := (3 : Int32)) hx hb dX0_searchList_243 (by decide) ?_
            refine lv_idiv hx hb dX0_searchList_244 (by decide) ?_
            obtain ⟨x45, ex45, hF⟩ := ltt_some hF
            refine lv_topi (fun zx45 ezx45 => ?_)
            obtain rfl : x45 = zx45 := ex45.trans ezx45.symm
            refine lv_iconst (v := (1 : Int32)) hx hb dX0_searchList_245 (by decide) ?_
            refine lv_isub hx hb dX0_searchList_246 ?_
            obtain ⟨x46, ex46, hF⟩ := ltt_some hF
            refine lv_topi (fun zx46 ezx46 => ?_)
            obtain rfl : x46 = zx46 := ex46.trans ezx46.symm
            refine lv_imul hx hb dX0_searchList_247 ?_
            obtain ⟨x47, ex47, hF⟩ := ltt_some hF
            refine lv_topi (fun zx47 ezx47 => ?_)
            obtain rfl : x47 = zx47 := ex47.trans ezx47.symm
            refine lv_iadd hx hb dX0_searchList_248 ?_
            obtain ⟨x48, ex48, hF⟩ := ltt_some hF
            refine lv_topi (fun zx48 ezx48 => ?_)
            obtain rfl : x48 = zx48 := ex48.trans ezx48.symm
            refine lv_istore (lv' := [(15, .int x48), (14, .int x44), (13, .int s36.2.2.2.1), (12, .int s28.2.2.1), (11, .int s28.2.1), (10, .int s28.2.2.2.1), (9, .int s36.2.2.1), (8, .int s36.2.1), (7, .int s36.1), (6, .int x23), (5, .int x21), (4, .int x18), (3, .int s5.1), (0, .ref (ad a)), (1, .int p0), (2, .int p1)]) hx hb dX0_searchList_249 hl (by decide) rfl (fun ls hl => ?_)
            refine lv_iload hx hb dX0_searchList_251 (lv_at hl 2 rfl) ?_
            refine lv_iconst (v := (4 : Int32)) hx hb dX0_searchList_253 (by decide) ?_
            obtain ⟨y49, hy49, hF⟩ := bnd_some hF
            have J49 : ∀ (H : Heap) (locs : List Loc) (ls : Array Slot), va_P D classes (wld ct ad G y49.2) H → va_D A (wld ct ad G y49.2) → va_S A s.heap H locs → lv_has ls 17 [(15, .int x48), (14, .int x44), (13, .int s36.2.2.2.1), (12, .int s28.2.2.1), (11, .int s28.2.1), (10, .int s28.2.2.2.1), (9, .int s36.2.2.1), (8, .int s36.2.1), (7, .int s36.1), (6, .int x23), (5, .int x21), (4, .int x18), (3, .int s5.1), (0, .ref (ad a)), (1, .int p0), (2, .int p1)] → W p l e (headSpec wuX0_searchList ({ frames := 5, cells := 0, slots := 0, locals := 139 })).room s m ([.ref (ad a), .int p0, .int p1] : List Value).toArray below meth c H locs 0 0 (MQ below (va_Qv (fun (_ : Unit) => True) (fun _ t => kE D ct ad G A y t) A) ([.ref (ad a), .int p0, .int p1] : List Value).toArray s 0 0 A) (F0 m 274 ls [.int y49.1]) := by
              intro H locs ls hP hD hS hl
              refine lv_istore (lv' := [(16, .int y49.1), (15, .int x48), (14, .int x44), (13, .int s36.2.2.2.1), (12, .int s28.2.2.1), (11, .int s28.2.1), (10, .int s28.2.2.2.1), (9, .int s36.2.2.1), (8, .int s36.2.1), (7, .int s36.1), (6, .int x23), (5, .int x21), (4, .int x18), (3, .int s5.1), (0, .ref (ad a)), (1, .int p0), (2, .int p1)]) hx hb dX0_searchList_274 hl (by decide) rfl (fun ls hl => ?_)
              refine lv_iload hx hb dX0_searchList_276 (lv_at hl 0 rfl) ?_
              refine lv_iload hx hb dX0_searchList_278 (lv_at hl 9 rfl) ?_
              obtain ⟨y50, hy50, hF⟩ := bnd_some hF
              have J50 : ∀ (H : Heap) (locs : List Loc) (ls : Array Slot), va_P D classes (wld ct ad G y49.2) H → va_D A (wld ct ad G y49.2) → va_S A s.heap H locs → lv_has ls 17 [(16, .int y49.1), (15, .int x48), (14, .int x44), (13, .int s36.2.2.2.1), (12, .int s28.2.2.1), (11, .int s28.2.1), (10, .int s28.2.2.2.1), (9, .int y50.2.2), (8, .int y50.2.1), (7, .int y50.1), (6, .int x23), (5, .int x21), (4, .int x18), (3, .int s5.1), (0, .ref (ad a)), (1, .int p0), (2, .int p1)] → W p l e (headSpec wuX0_searchList ({ frames := 5, cells := 0, slots := 0, locals := 139 })).room s m ([.ref (ad a), .int p0, .int p1] : List Value).toArray below meth c H locs 0 0 (MQ below (va_Qv (fun (_ : Unit) => True) (fun _ t => kE D ct ad G A y t) A) ([.ref (ad a), .int p0, .int p1] : List Value).toArray s 0 0 A) (F0 m 295 ls []) := by
                intro H locs ls hP hD hS hl
                obtain ⟨x51, ex51, hF⟩ := ltt_some hF
                refine lv_iinc (v := x51) (lv' := [(13, .int x51), (16, .int y49.1), (15, .int x48), (14, .int x44), (12, .int s28.2.2.1), (11, .int s28.2.1), (10, .int s28.2.2.2.1), (9, .int y50.2.2), (8, .int y50.2.1), (7, .int y50.1), (6, .int x23), (5, .int x21), (4, .int x18), (3, .int s5.1), (0, .ref (ad a)), (1, .int p0), (2, .int p1)]) hx hb dX0_searchList_295 hl (k := 3) rfl (by rw [ex51]; rfl) (by decide) rfl (fun ls hl => ?_)
                refine lv_goto (tgt := 216) hx hb dX0_searchList_298 (by decide) ?_
                obtain rfl := Option.some.inj hF
                exact hwz39 _ _ _ hP hD hS (lv_sub hl [0, 4, 5, 6, 7, 8, 9, 10, 11, 12, 13, 14, 15, 16] rfl)
              clear hF
              have hF := hy50
              clear hy50
              refine lv_icmp_ge (tgt := 295) hx hb dX0_searchList_280 (by decide) (fun c52 => ?_) (fun c52 => ?_)
              · rw [if_pos c52] at hF
                obtain rfl := Option.some.inj hF
                exact J50 _ _ _ hP hD hS (lv_sub hl [0, 1, 2, 3, 4, 5, 6, 7, 8, 9, 10, 11, 12, 13, 14, 15, 16] rfl)
              · rw [if_neg c52] at hF
                refine lv_iload hx hb dX0_searchList_283 (lv_at hl 0 rfl) ?_
                refine lv_istore (lv' := [(7, .int y49.1), (16, .int y49.1), (15, .int x48), (14, .int x44), (13, .int s36.2.2.2.1), (12, .int s28.2.2.1), (11, .int s28.2.1), (10, .int s28.2.2.2.1), (9, .int s36.2.2.1), (8, .int s36.2.1), (6, .int x23), (5, .int x21), (4, .int x18), (3, .int s5.1), (0, .ref (ad a)), (1, .int p0), (2, .int p1)]) hx hb dX0_searchList_285 hl (by decide) rfl (fun ls hl => ?_)
                refine lv_iload hx hb dX0_searchList_287 (lv_at hl 3 rfl) ?_
                refine lv_istore (lv' := [(8, .int x44), (7, .int y49.1), (16, .int y49.1), (15, .int x48), (14, .int x44), (13, .int s36.2.2.2.1), (12, .int s28.2.2.1), (11, .int s28.2.1), (10, .int s28.2.2.2.1), (9, .int s36.2.2.1), (6, .int x23), (5, .int x21), (4, .int x18), (3, .int s5.1), (0, .ref (ad a)), (1, .int p0), (2, .int p1)]) hx hb dX0_searchList_289 hl (by decide) rfl (fun ls hl => ?_)
                refine lv_iload hx hb dX0_searchList_291 (lv_at hl 3 rfl) ?_
                refine lv_istore (lv' := [(9, .int x48), (8, .int x44), (7, .int y49.1), (16, .int y49.1), (15, .int x48), (14, .int x44), (13, .int s36.2.2.2.1), (12, .int s28.2.2.1), (11, .int s28.2.1), (10, .int s28.2.2.2.1), (6, .int x23), (5, .int x21), (4, .int x18), (3, .int s5.1), (0, .ref (ad a)), (1, .int p0), (2, .int p1)]) hx hb dX0_searchList_293 hl (by decide) rfl (fun ls hl => ?_)
                obtain rfl := Option.some.inj hF
                exact J50 _ _ _ hP hD hS (lv_sub hl [3, 4, 5, 6, 7, 8, 9, 0, 1, 2, 10, 11, 12, 13, 14, 15, 16] rfl)
            clear hF
            have hF := hy49
            clear hy49
            refine lv_icmp_ne (tgt := 263) hx hb dX0_searchList_254 (by decide) (fun c53 => ?_) (fun c53 => ?_)
            · rw [if_neg c53] at hF
              refine lv_aload_n hx hb dX0_searchList_263 rfl (lv_at hl 13 rfl) ?_
              refine lv_iload_n hx hb dX0_searchList_264 rfl (lv_at hl 14 rfl) ?_
              refine lv_iload_n hx hb dX0_searchList_265 rfl (lv_at hl 15 rfl) ?_
              refine lv_iload_n hx hb dX0_searchList_266 rfl (lv_at hl 12 rfl) ?_
              refine lv_iload hx hb dX0_searchList_267 (lv_at hl 1 rfl) ?_
              refine lv_iload hx hb dX0_searchList_269 (lv_at hl 0 rfl) ?_
              obtain ⟨y54, hy54, hF⟩ := bnd_some hF
              have hf9 := wA_in hD hA9 hS
              refine va_calli (va_runV (As := [.int p0, .int p1, .int s5.1, .int x44, .int x48]) (rest := []) ⟨hx, hb, hml, hown, hts⟩ (kX0_costOf l D ct ad Z G s36.2.2.2.2 H.size a p0 p1 s5.1 x44 x48 y54 hc hk hy54) (cwV 5 hts gX0_searchList_X0_costOf rfl rfl rfl (by decide +kernel) ⟨Nat.le_of_ble_eq_true rfl, Nat.le_of_ble_eq_true rfl⟩) ⟨fun a U g mk q => by obtain ⟨q0, q1, qP, qK, qD, qZ, qN⟩ := q; exact ⟨q0, q1, qP, va_K.moved (u := U) (U := U.calling g mk a) (Vm.Alike.refl U.vm) qK, qD, sF.moved (u := U) (U := U.calling g mk a) (Vm.Alike.refl U.vm) qZ, nF.same rfl qN⟩, va_recv hK hP (ci := 0) (q0 := a) rfl (wld_o ct ad G s36.2.2.2.2 hc hk (by decide)), fun U hU hW => ⟨rfl, by rw [hU], by rw [hU]; exact hP, va_K.moved hW.alike hK, hD.weaken (fun _ _ _ _ => trivial), by rw [hU]; exact ((hZ.kept hS.2.1).narrow hf9).moved hW.alike, hN.warm hW⟩⟩ rfl rfl hl.1 rfl (lv_room (Nat.le_of_ble_eq_true rfl)) dX0_searchList_271 ⟨(Nat.zero_le _), (Nat.zero_le _)⟩) hS (fun q _ h => hf9 q h) hf9 (fun r u t H locs ht hvm hw hB hz1 hk1 hS => ?_)
              obtain ⟨hP, hK9, hD9⟩ := hB
              rw [ht] at hP
              try dsimp only at hw
              subst hw
              have hD := hD9.weaken (fun _ q _ h => hf9 q.1 h)
              obtain rfl := Option.some.inj hF
              exact J49 _ _ _ hP hD hS (lv_sub hl [0, 1, 2, 3, 4, 5, 6, 7, 8, 9, 10, 11, 12, 13, 14, 15] rfl)
            · rw [if_pos c53] at hF
              refine lv_ldcw (v := (2147483647 : Int32)) hx hb hown (hts (.constant RX0 435 (2147483647 : Int32)) (mu mw_2529)) dX0_searchList_257 ?_
              refine lv_goto (tgt := 274) hx hb dX0_searchList_260 (by decide) ?_
              obtain rfl := Option.some.inj hF
              exact J49 _ _ _ hP hD hS (lv_sub hl [0, 1, 2, 3, 4, 5, 6, 7, 8, 9, 10, 11, 12, 13, 14, 15] rfl)
    clear hF
    refine itr_rule (fun (s25 : Int32 × Int32 × Int32 × Int32 × DD) => ∀ (H : Heap) (locs : List Loc) (ls : Array Slot), va_P D classes (wld ct ad G s25.2.2.2.2) H → va_D A (wld ct ad G s25.2.2.2.2) → va_S A s.heap H locs → lv_has ls 17 [(10, .int s25.2.2.2.1), (9, .int s25.2.2.1), (8, .int s25.2.1), (7, .int s25.1), (6, .int x23), (5, .int x21), (4, .int x18), (3, .int s5.1), (0, .ref (ad a)), (1, .int p0), (2, .int p1)] → W p l e (headSpec wuX0_searchList ({ frames := 5, cells := 0, slots := 0, locals := 139 })).room s m ([.ref (ad a), .int p0, .int p1] : List Value).toArray below meth c H locs 0 0 (MQ below (va_Qv (fun (_ : Unit) => True) (fun _ t => kE D ct ad G A y t) A) ([.ref (ad a), .int p0, .int p1] : List Value).toArray s 0 0 A) (F0 m 95 ls [])) ?_ _ _ hy24 _ _ _ hP hD hS (lv_sub hl [0, 1, 2, 3, 4, 5, 6, 7, 8, 9, 10] rfl)
    rintro s25 ⟨z55, hF, hwz55⟩ H locs ls hP hD hS hl
    try dsimp only at hF
    refine lv_iload hx hb dX0_searchList_95 (lv_at hl 0 rfl) ?_
    refine lv_iconst (v := (2 : Int32)) hx hb dX0_searchList_97 (by decide) ?_
    refine lv_iload hx hb dX0_searchList_98 (lv_at hl 4 rfl) ?_
    refine lv_imul hx hb dX0_searchList_100 ?_
    obtain ⟨x56, ex56, hF⟩ := ltt_some hF
    refine lv_topi (fun zx56 ezx56 => ?_)
    obtain rfl : x56 = zx56 := ex56.trans ezx56.symm
    refine lv_iconst (v := (1 : Int32)) hx hb dX0_searchList_101 (by decide) ?_
    refine lv_iadd hx hb dX0_searchList_102 ?_
    obtain ⟨x57, ex57, hF⟩ := ltt_some hF
    refine lv_topi (fun zx57 ezx57 => ?_)
    obtain rfl : x57 = zx57 := ex57.trans ezx57.symm
    refine lv_iconst (v := (2 : Int32)) hx hb dX0_searchList_103 (by decide) ?_
    refine lv_iload hx hb dX0_searchList_104 (lv_at hl 4 rfl) ?_
    refine lv_imul hx hb dX0_searchList_106 ?_
    obtain ⟨x58, ex58, hF⟩ := ltt_some hF
    refine lv_topi (fun zx58 ezx58 => ?_)
    obtain rfl : x58 = zx58 := ex58.trans ezx58.symm
    refine lv_iconst (v := (1 : Int32)) hx hb dX0_searchList_107 (by decide) ?_
    refine lv_iadd hx hb dX0_searchList_108 ?_
    obtain ⟨x59, ex59, hF⟩ := ltt_some hF
    refine lv_topi (fun zx59 ezx59 => ?_)
    obtain rfl : x59 = zx59 := ex59.trans ezx59.symm
    refine lv_imul hx hb dX0_searchList_109 ?_
    obtain ⟨x60, ex60, hF⟩ := ltt_some hF
    refine lv_topi (fun zx60 ezx60 => ?_)
    obtain rfl : x60 = zx60 := ex60.trans ezx60.symm
    refine lv_icmp_ge (tgt := 189) hx hb dX0_searchList_110 (by decide) (fun c61 => ?_) (fun c61 => ?_)
    · rw [if_pos c61] at hF
      obtain rfl := Option.some.inj hF
      subst hwz55
      exact K24 _ _ _ hP hD hS (lv_sub hl [0, 1, 2, 3, 4, 5, 6, 7, 8, 9, 10] rfl)
    · rw [if_neg c61] at hF
      refine lv_iconst (v := (4 : Int32)) hx hb dX0_searchList_113 (by decide) ?_
      refine lv_iload hx hb dX0_searchList_114 (lv_at hl 6 rfl) ?_
      refine lv_iload hx hb dX0_searchList_116 (lv_at hl 0 rfl) ?_
      refine lv_iconst (v := (2 : Int32)) hx hb dX0_searchList_118 (by decide) ?_
      refine lv_iload hx hb dX0_searchList_119 (lv_at hl 4 rfl) ?_
      refine lv_imul hx hb dX0_searchList_121 ?_
      obtain ⟨x62, ex62, hF⟩ := ltt_some hF
      refine lv_topi (fun zx62 ezx62 => ?_)
      obtain rfl : x62 = zx62 := ex62.trans ezx62.symm
      refine lv_iconst (v := (1 : Int32)) hx hb dX0_searchList_122 (by decide) ?_
      refine lv_iadd hx hb dX0_searchList_123 ?_
      obtain ⟨x63, ex63, hF⟩ := ltt_some hF
      refine lv_topi (fun zx63 ezx63 => ?_)
      obtain rfl : x63 = zx63 := ex63.trans ezx63.symm
      obtain ⟨hne, hF⟩ := chk_some hF
      refine lv_irem hx hb dX0_searchList_124 hne ?_
      obtain ⟨x64, ex64, hF⟩ := ltt_some hF
      refine lv_topi (fun zx64 ezx64 => ?_)
      obtain rfl : x64 = zx64 := ex64.trans ezx64.symm
      refine lv_iadd hx hb dX0_searchList_125 ?_
      obtain ⟨x65, ex65, hF⟩ := ltt_some hF
      refine lv_topi (fun zx65 ezx65 => ?_)
      obtain rfl : x65 = zx65 := ex65.trans ezx65.symm
      refine lv_iload hx hb dX0_searchList_126 (lv_at hl 4 rfl) ?_
      refine lv_isub hx hb dX0_searchList_128 ?_
      obtain ⟨x66, ex66, hF⟩ := ltt_some hF
      refine lv_topi (fun zx66 ezx66 => ?_)
      obtain rfl : x66 = zx66 := ex66.trans ezx66.symm
      refine lv_imul hx hb dX0_searchList_129 ?_
      obtain ⟨x67, ex67, hF⟩ := ltt_some hF
      refine lv_topi (fun zx67 ezx67 => ?_)
      obtain rfl : x67 = zx67 := ex67.trans ezx67.symm
      refine lv_istore (lv' := [(11, .int x67), (10, .int s25.2.2.2.1), (9, .int s25.2.2.1), (8, .int s25.2.1), (7, .int s25.1), (6, .int x23), (5, .int x21), (4, .int x18), (3, .int s5.1), (0, .ref (ad a)), (1, .int p0), (2, .int p1)]) hx hb dX0_searchList_130 hl (by decide) rfl (fun ls hl => ?_)
      refine lv_iconst (v := (4 : Int32)) hx hb dX0_searchList_132 (by decide) ?_
      refine lv_iload hx hb dX0_searchList_133 (lv_at hl 6 rfl) ?_
      refine lv_iload hx hb dX0_searchList_135 (lv_at hl 1 rfl) ?_
      refine lv_iconst (v := (2 : Int32)) hx hb dX0_searchList_137 (by decide) ?_
      refine lv_iload hx hb dX0_searchList_138 (lv_at hl 5 rfl) ?_
      refine lv_imul hx hb dX0_searchList_140 ?_
      obtain ⟨x68, ex68, hF⟩ := ltt_some hF
      refine lv_topi (fun zx68 ezx68 => ?_)
      obtain rfl : x68 = zx68 := ex68.trans ezx68.symm
      refine lv_iconst (v := (1 : Int32)) hx hb dX0_searchList_141 (by decide) ?_
      refine lv_iadd hx hb dX0_searchList_142 ?_
      obtain ⟨x69, ex69, hF⟩ := ltt_some hF
      refine lv_topi (fun zx69 ezx69 => ?_)
      obtain rfl : x69 = zx69 := ex69.trans ezx69.symm
      obtain ⟨hne, hF⟩ := chk_some hF
      refine lv_idiv hx hb dX0_searchList_143 hne ?_
      obtain ⟨x70, ex70, hF⟩ := ltt_some hF
      refine lv_topi (fun zx70 ezx70 => ?_)
      obtain rfl : x70 = zx70 := ex70.trans ezx70.symm
      refine lv_iadd hx hb dX0_searchList_144 ?_
      obtain ⟨x71, ex71, hF⟩ := ltt_some hF
      refine lv_topi (fun zx71 ezx71 => ?_)
      obtain rfl : x71 = zx71 := ex71.trans ezx71.symm
      refine lv_iload hx hb dX0_searchList_145 (lv_at hl 5 rfl) ?_
      refine lv_isub hx hb dX0_searchList_147 ?_
      obtain ⟨x72, ex72, hF⟩ := ltt_some hF
      refine lv_topi (fun zx72 ezx72 => ?_)
      obtain rfl : x72 = zx72 := ex72.trans ezx72.symm
      refine lv_imul hx hb dX0_searchList_148 ?_
      obtain ⟨x73, ex73, hF⟩ := ltt_some hF
      refine lv_topi (fun zx73 ezx73 => ?_)
      obtain rfl : x73 = zx73 := ex73.trans ezx73.symm
      refine lv_istore (lv' := [(12, .int x73), (11, .int x67), (10, .int s25.2.2.2.1), (9, .int s25.2.2.1), (8, .int s25.2.1), (7, .int s25.1), (6, .int x23), (5, .int x21), (4, .int x18), (3, .int s5.1), (0, .ref (ad a)), (1, .int p0), (2, .int p1)]) hx hb dX0_searchList_149 hl (by decide) rfl (fun ls hl => ?_)
      refine lv_aload_n hx hb dX0_searchList_151 rfl (lv_at hl 10 rfl) ?_
      refine lv_iload_n hx hb dX0_searchList_152 rfl (lv_at hl 11 rfl) ?_
      refine lv_iload_n hx hb dX0_searchList_153 rfl (lv_at hl 12 rfl) ?_
      refine lv_iload_n hx hb dX0_searchList_154 rfl (lv_at hl 9 rfl) ?_
      refine lv_iload hx hb dX0_searchList_155 (lv_at hl 1 rfl) ?_
      refine lv_iload hx hb dX0_searchList_157 (lv_at hl 0 rfl) ?_
      obtain ⟨y74, hy74, hF⟩ := bnd_some hF
      have hf9 := wA_in hD hA9 hS
      refine va_calli (va_runV (As := [.int p0, .int p1, .int s5.1, .int x67, .int x73]) (rest := []) ⟨hx, hb, hml, hown, hts⟩ (kX0_costOf l D ct ad Z G s25.2.2.2.2 H.size a p0 p1 s5.1 x67 x73 y74 hc hk hy74) (cwV 5 hts gX0_searchList_X0_costOf rfl rfl rfl (by decide +kernel) ⟨Nat.le_of_ble_eq_true rfl, Nat.le_of_ble_eq_true rfl⟩) ⟨fun a U g mk q => by obtain ⟨q0, q1, qP, qK, qD, qZ, qN⟩ := q; exact ⟨q0, q1, qP, va_K.moved (u := U) (U := U.calling g mk a) (Vm.Alike.refl U.vm) qK, qD, sF.moved (u := U) (U := U.calling g mk a) (Vm.Alike.refl U.vm) qZ, nF.same rfl qN⟩, va_recv hK hP (ci := 0) (q0 := a) rfl (wld_o ct ad G s25.2.2.2.2 hc hk (by decide)), fun U hU hW => ⟨rfl, by rw [hU], by rw [hU]; exact hP, va_K.moved hW.alike hK, hD.weaken (fun _ _ _ _ => trivial), by rw [hU]; exact ((hZ.kept hS.2.1).narrow hf9).moved hW.alike, hN.warm hW⟩⟩ rfl rfl hl.1 rfl (lv_room (Nat.le_of_ble_eq_true rfl)) dX0_searchList_159 ⟨(Nat.zero_le _), (Nat.zero_le _)⟩) hS (fun q _ h => hf9 q h) hf9 (fun r u t H locs ht hvm hw hB hz1 hk1 hS => ?_)
      obtain ⟨hP, hK9, hD9⟩ := hB
      rw [ht] at hP
      try dsimp only at hw
      subst hw
      have hD := hD9.weaken (fun _ q _ h => hf9 q.1 h)
      refine lv_istore (lv' := [(13, .int y74.2), (12, .int x73), (11, .int x67), (10, .int s25.2.2.2.1), (9, .int s25.2.2.1), (8, .int s25.2.1), (7, .int s25.1), (6, .int x23), (5, .int x21), (4, .int x18), (3, .int s5.1), (0, .ref (ad a)), (1, .int p0), (2, .int p1)]) hx hb dX0_searchList_162 hl (by decide) rfl (fun ls hl => ?_)
      refine lv_iload hx hb dX0_searchList_164 (lv_at hl 0 rfl) ?_
      refine lv_iload hx hb dX0_searchList_166 (lv_at hl 6 rfl) ?_
      obtain ⟨y75, hy75, hF⟩ := bnd_some hF
      have J75 : ∀ (H : Heap) (locs : List Loc) (ls : Array Slot), va_P D classes (wld ct ad G y74.1) H → va_D A (wld ct ad G y74.1) → va_S A s.heap H locs → lv_has ls 17 [(13, .int y74.2), (12, .int x73), (11, .int x67), (10, .int s25.2.2.2.1), (9, .int y75.2.2), (8, .int y75.2.1), (7, .int y75.1), (6, .int x23), (5, .int x21), (4, .int x18), (3, .int s5.1), (0, .ref (ad a)), (1, .int p0), (2, .int p1)] → W p l e (headSpec wuX0_searchList ({ frames := 5, cells := 0, slots := 0, locals := 139 })).room s m ([.ref (ad a), .int p0, .int p1] : List Value).toArray below meth c H locs 0 0 (MQ below (va_Qv (fun (_ : Unit) => True) (fun _ t => kE D ct ad G A y t) A) ([.ref (ad a), .int p0, .int p1] : List Value).toArray s 0 0 A) (F0 m 183 ls []) := by
        intro H locs ls hP hD hS hl
        obtain ⟨x76, ex76, hF⟩ := ltt_some hF
        refine lv_iinc (v := x76) (lv' := [(10, .int x76), (13, .int y74.2), (12, .int x73), (11, .int x67), (9, .int y75.2.2), (8, .int y75.2.1), (7, .int y75.1), (6, .int x23), (5, .int x21), (4, .int x18), (3, .int s5.1), (0, .ref (ad a)), (1, .int p0), (2, .int p1)]) hx hb dX0_searchList_183 hl (k := 3) rfl (by rw [ex76]; rfl) (by decide) rfl (fun ls hl => ?_)
        refine lv_goto (tgt := 95) hx hb dX0_searchList_186 (by decide) ?_
        obtain rfl := Option.some.inj hF
        exact hwz55 _ _ _ hP hD hS (lv_sub hl [0, 4, 5, 6, 7, 8, 9, 10, 11, 12, 13] rfl)
      clear hF
      have hF := hy75
      clear hy75
      refine lv_icmp_ge (tgt := 183) hx hb dX0_searchList_168 (by decide) (fun c77 => ?_) (fun c77 => ?_)
      · rw [if_pos c77] at hF
        obtain rfl := Option.some.inj hF
        exact J75 _ _ _ hP hD hS (lv_sub hl [0, 1, 2, 3, 4, 5, 6, 7, 8, 9, 10, 11, 12, 13] rfl)
      · rw [if_neg c77] at hF
        refine lv_iload hx hb dX0_searchList_171 (lv_at hl 0 rfl) ?_
        refine lv_istore (lv' := [(7, .int y74.2), (13, .int y74.2), (12, .int x73), (11, .int x67), (10, .int s25.2.2.2.1), (9, .int s25.2.2.1), (8, .int s25.2.1), (6, .int x23), (5, .int x21), (4, .int x18), (3, .int s5.1), (0, .ref (ad a)), (1, .int p0), (2, .int p1)]) hx hb dX0_searchList_173 hl (by decide) rfl (fun ls hl => ?_)
        refine lv_iload hx hb dX0_searchList_175 (lv_at hl 3 rfl) ?_
        refine lv_istore (lv' := [(8, .int x67), (7, .int y74.2), (13, .int y74.2), (12, .int x73), (11, .int x67), (10, .int s25.2.2.2.1), (9, .int s25.2.2.1), (6, .int x23), (5, .int x21), (4, .int x18), (3, .int s5.1), (0, .ref (ad a)), (1, .int p0), (2, .int p1)]) hx hb dX0_searchList_177 hl (by decide) rfl (fun ls hl => ?_)
        refine lv_iload hx hb dX0_searchList_179 (lv_at hl 3 rfl) ?_
        refine lv_istore (lv' := [(9, .int x73), (8, .int x67), (7, .int y74.2), (13, .int y74.2), (12, .int x73), (11, .int x67), (10, .int s25.2.2.2.1), (6, .int x23), (5, .int x21), (4, .int x18), (3, .int s5.1), (0, .ref (ad a)), (1, .int p0), (2, .int p1)]) hx hb dX0_searchList_181 hl (by decide) rfl (fun ls hl => ?_)
        obtain rfl := Option.some.inj hF
        exact J75 _ _ _ hP hD hS (lv_sub hl [3, 4, 5, 6, 0, 1, 2, 7, 8, 9, 10, 11, 12, 13] rfl)
set_option maxRecDepth 20000 in
theorem gX0_writeLevels_X9_tokenTable : GoodIn wuX0_writeLevels (wsV RX0 586 RX9 yX9_tokenTable wuX9_tokenTable) := gu_V mw_2685 mw_2243 mw_2244 mw_171 mw_2245
set_option maxRecDepth 20000 in
set_option maxRecDepth 20000 in
theorem gX0_writeLevels_X9_levelAt : GoodIn wuX0_writeLevels (va_wsS RX0 589 yX9_levelAt wuX9_levelAt) := gu_S mw_2686 mw_1789 mw_171 mw_1790
set_option maxRecDepth 20000 in
set_option maxRecDepth 20000 in
theorem gX0_writeLevels_X10_levels : GoodIn wuX0_writeLevels (wsV RX0 592 RX10 yX10_levels wuX10_levels) := gu_V mw_2687 mw_2688 mw_2689 mw_176 mw_2690
theorem dX0_writeLevels_0 : decode cX0_writeLevels 0 = .ok (.bipush 8, 2) := by decide +kernel
theorem dX0_writeLevels_2 : decode cX0_writeLevels 2 = .ok (.iload_n 1, 1) := by decide +kernel
theorem dX0_writeLevels_3 : decode cX0_writeLevels 3 = .ok (.imul, 1) := by decide +kernel
theorem dX0_writeLevels_4 : decode cX0_writeLevels 4 = .ok (.istore_n 2, 1) := by decide +kernel
theorem dX0_writeLevels_5 : decode cX0_writeLevels 5 = .ok (.aload_n 0, 1) := by decide +kernel
theorem dX0_writeLevels_6 : decode cX0_writeLevels 6 = .ok (.getfield 36, 3) := by decide +kernel
theorem dX0_writeLevels_9 : decode cX0_writeLevels 9 = .ok (.getfield 583, 3) := by decide +kernel
theorem dX0_writeLevels_12 : decode cX0_writeLevels 12 = .ok (.astore_n 3, 1) := by decide +kernel
theorem dX0_writeLevels_13 : decode cX0_writeLevels 13 = .ok (.aload_n 0, 1) := by decide +kernel
theorem dX0_writeLevels_14 : decode cX0_writeLevels 14 = .ok (.getfield 36, 3) := by decide +kernel
theorem dX0_writeLevels_17 : decode cX0_writeLevels 17 = .ok (.getfield 216, 3) := by decide +kernel
theorem dX0_writeLevels_20 : decode cX0_writeLevels 20 = .ok (.iload_n 2, 1) := by decide +kernel
theorem dX0_writeLevels_21 : decode cX0_writeLevels 21 = .ok (.iconst 0, 1) := by decide +kernel
theorem dX0_writeLevels_22 : decode cX0_writeLevels 22 = .ok (.iadd, 1) := by decide +kernel
theorem dX0_writeLevels_23 : decode cX0_writeLevels 23 = .ok (.iaload, 1) := by decide +kernel
theorem dX0_writeLevels_24 : decode cX0_writeLevels 24 = .ok (.iconst 1, 1) := by decide +kernel
theorem dX0_writeLevels_25 : decode cX0_writeLevels 25 = .ok (.if_icmp .ne 7, 3) := by decide +kernel
theorem dX0_writeLevels_28 : decode cX0_writeLevels 28 = .ok (.iconst 1, 1) := by decide +kernel
theorem dX0_writeLevels_29 : decode cX0_writeLevels 29 = .ok (.goto 4, 3) := by decide +kernel
theorem dX0_writeLevels_32 : decode cX0_writeLevels 32 = .ok (.iconst 0, 1) := by decide +kernel
theorem dX0_writeLevels_33 : decode cX0_writeLevels 33 = .ok (.istore 4, 2) := by decide +kernel
theorem dX0_writeLevels_35 : decode cX0_writeLevels 35 = .ok (.iload 4, 2) := by decide +kernel
theorem dX0_writeLevels_37 : decode cX0_writeLevels 37 = .ok (.ifCond .eq 28, 3) := by decide +kernel
theorem dX0_writeLevels_40 : decode cX0_writeLevels 40 = .ok (.aload_n 0, 1) := by decide +kernel
theorem dX0_writeLevels_41 : decode cX0_writeLevels 41 = .ok (.getfield 29, 3) := by decide +kernel
theorem dX0_writeLevels_44 : decode cX0_writeLevels 44 = .ok (.aload_n 0, 1) := by decide +kernel
theorem dX0_writeLevels_45 : decode cX0_writeLevels 45 = .ok (.getfield 36, 3) := by decide +kernel
theorem dX0_writeLevels_48 : decode cX0_writeLevels 48 = .ok (.iload_n 1, 1) := by decide +kernel
theorem dX0_writeLevels_49 : decode cX0_writeLevels 49 = .ok (.iconst 0, 1) := by decide +kernel
theorem dX0_writeLevels_50 : decode cX0_writeLevels 50 = .ok (.invokevirtual 586, 3) := by decide +kernel
theorem dX0_writeLevels_53 : decode cX0_writeLevels 53 = .ok (.bipush 16, 2) := by decide +kernel
theorem dX0_writeLevels_55 : decode cX0_writeLevels 55 = .ok (.aload_n 3, 1) := by decide +kernel
theorem dX0_writeLevels_56 : decode cX0_writeLevels 56 = .ok (.iload_n 1, 1) := by decide +kernel
theorem dX0_writeLevels_57 : decode cX0_writeLevels 57 = .ok (.bipush 16, 2) := by decide +kernel
theorem dX0_writeLevels_59 : decode cX0_writeLevels 59 = .ok (.invokestatic 589, 3) := by decide +kernel
theorem dX0_writeLevels_62 : decode cX0_writeLevels 62 = .ok (.invokevirtual 592, 3) := by decide +kernel
theorem dX0_writeLevels_65 : decode cX0_writeLevels 65 = .ok (.iconst 0, 1) := by decide +kernel
theorem dX0_writeLevels_66 : decode cX0_writeLevels 66 = .ok (.istore 5, 2) := by decide +kernel
theorem dX0_writeLevels_68 : decode cX0_writeLevels 68 = .ok (.iload 5, 2) := by decide +kernel
theorem dX0_writeLevels_70 : decode cX0_writeLevels 70 = .ok (.bipush 16, 2) := by decide +kernel
theorem dX0_writeLevels_72 : decode cX0_writeLevels 72 = .ok (.if_icmp .ge 67, 3) := by decide +kernel
theorem dX0_writeLevels_75 : decode cX0_writeLevels 75 = .ok (.aload_n 0, 1) := by decide +kernel
theorem dX0_writeLevels_76 : decode cX0_writeLevels 76 = .ok (.getfield 36, 3) := by decide +kernel
theorem dX0_writeLevels_79 : decode cX0_writeLevels 79 = .ok (.getfield 216, 3) := by decide +kernel
theorem dX0_writeLevels_82 : decode cX0_writeLevels 82 = .ok (.iload_n 2, 1) := by decide +kernel
theorem dX0_writeLevels_83 : decode cX0_writeLevels 83 = .ok (.iconst 3, 1) := by decide +kernel
theorem dX0_writeLevels_84 : decode cX0_writeLevels 84 = .ok (.iadd, 1) := by decide +kernel
theorem dX0_writeLevels_85 : decode cX0_writeLevels 85 = .ok (.iaload, 1) := by decide +kernel
theorem dX0_writeLevels_86 : decode cX0_writeLevels 86 = .ok (.iload 5, 2) := by decide +kernel
theorem dX0_writeLevels_88 : decode cX0_writeLevels 88 = .ok (.iconst 4, 1) := by decide +kernel
theorem dX0_writeLevels_89 : decode cX0_writeLevels 89 = .ok (.idiv, 1) := by decide +kernel
theorem dX0_writeLevels_90 : decode cX0_writeLevels 90 = .ok (.ishr, 1) := by decide +kernel
theorem dX0_writeLevels_91 : decode cX0_writeLevels 91 = .ok (.iconst 1, 1) := by decide +kernel
theorem dX0_writeLevels_92 : decode cX0_writeLevels 92 = .ok (.iand, 1) := by decide +kernel
theorem dX0_writeLevels_93 : decode cX0_writeLevels 93 = .ok (.iconst 1, 1) := by decide +kernel
theorem dX0_writeLevels_94 : decode cX0_writeLevels 94 = .ok (.if_icmp .ne 39, 3) := by decide +kernel
theorem dX0_writeLevels_97 : decode cX0_writeLevels 97 = .ok (.aload_n 0, 1) := by decide +kernel
theorem dX0_writeLevels_98 : decode cX0_writeLevels 98 = .ok (.getfield 29, 3) := by decide +kernel
theorem dX0_writeLevels_101 : decode cX0_writeLevels 101 = .ok (.aload_n 0, 1) := by decide +kernel
theorem dX0_writeLevels_102 : decode cX0_writeLevels 102 = .ok (.getfield 36, 3) := by decide +kernel
theorem dX0_writeLevels_105 : decode cX0_writeLevels 105 = .ok (.iload_n 1, 1) := by decide +kernel
theorem dX0_writeLevels_106 : decode cX0_writeLevels 106 = .ok (.iload 5, 2) := by decide +kernel
theorem dX0_writeLevels_108 : decode cX0_writeLevels 108 = .ok (.invokevirtual 586, 3) := by decide +kernel
theorem dX0_writeLevels_111 : decode cX0_writeLevels 111 = .ok (.iload 4, 2) := by decide +kernel
theorem dX0_writeLevels_113 : decode cX0_writeLevels 113 = .ok (.ifCond .eq 8, 3) := by decide +kernel
theorem dX0_writeLevels_116 : decode cX0_writeLevels 116 = .ok (.bipush 15, 2) := by decide +kernel
theorem dX0_writeLevels_118 : decode cX0_writeLevels 118 = .ok (.goto 5, 3) := by decide +kernel
theorem dX0_writeLevels_121 : decode cX0_writeLevels 121 = .ok (.bipush 16, 2) := by decide +kernel
theorem dX0_writeLevels_123 : decode cX0_writeLevels 123 = .ok (.aload_n 3, 1) := by decide +kernel
theorem dX0_writeLevels_124 : decode cX0_writeLevels 124 = .ok (.iload_n 1, 1) := by decide +kernel
theorem dX0_writeLevels_125 : decode cX0_writeLevels 125 = .ok (.iload 5, 2) := by decide +kernel
theorem dX0_writeLevels_127 : decode cX0_writeLevels 127 = .ok (.invokestatic 589, 3) := by decide +kernel
theorem dX0_writeLevels_130 : decode cX0_writeLevels 130 = .ok (.invokevirtual 592, 3) := by decide +kernel
theorem dX0_writeLevels_133 : decode cX0_writeLevels 133 = .ok (.iinc 5 1, 3) := by decide +kernel
theorem dX0_writeLevels_136 : decode cX0_writeLevels 136 = .ok (.goto (-68), 3) := by decide +kernel
theorem dX0_writeLevels_139 : decode cX0_writeLevels 139 = .ok (.iconst 1, 1) := by decide +kernel
theorem dX0_writeLevels_140 : decode cX0_writeLevels 140 = .ok (.istore 5, 2) := by decide +kernel
theorem dX0_writeLevels_142 : decode cX0_writeLevels 142 = .ok (.iload 5, 2) := by decide +kernel
theorem dX0_writeLevels_144 : decode cX0_writeLevels 144 = .ok (.iconst 3, 1) := by decide +kernel
theorem dX0_writeLevels_145 : decode cX0_writeLevels 145 = .ok (.if_icmp .ge 42, 3) := by decide +kernel
theorem dX0_writeLevels_148 : decode cX0_writeLevels 148 = .ok (.aload_n 0, 1) := by decide +kernel
theorem dX0_writeLevels_149 : decode cX0_writeLevels 149 = .ok (.getfield 36, 3) := by decide +kernel
theorem dX0_writeLevels_152 : decode cX0_writeLevels 152 = .ok (.getfield 216, 3) := by decide +kernel
theorem dX0_writeLevels_155 : decode cX0_writeLevels 155 = .ok (.iload_n 2, 1) := by decide +kernel
theorem dX0_writeLevels_156 : decode cX0_writeLevels 156 = .ok (.iconst 4, 1) := by decide +kernel
theorem dX0_writeLevels_157 : decode cX0_writeLevels 157 = .ok (.iadd, 1) := by decide +kernel
theorem dX0_writeLevels_158 : decode cX0_writeLevels 158 = .ok (.iaload, 1) := by decide +kernel
theorem dX0_writeLevels_159 : decode cX0_writeLevels 159 = .ok (.ifCond .le 28, 3) := by decide +kernel
theorem dX0_writeLevels_162 : decode cX0_writeLevels 162 = .ok (.aload_n 0, 1) := by decide +kernel
theorem dX0_writeLevels_163 : decode cX0_writeLevels 163 = .ok (.getfield 29, 3) := by decide +kernel
theorem dX0_writeLevels_166 : decode cX0_writeLevels 166 = .ok (.iconst 4, 1) := by decide +kernel
theorem dX0_writeLevels_167 : decode cX0_writeLevels 167 = .ok (.iconst 4, 1) := by decide +kernel
theorem dX0_writeLevels_168 : decode cX0_writeLevels 168 = .ok (.aload_n 3, 1) := by decide +kernel
theorem dX0_writeLevels_169 : decode cX0_writeLevels 169 = .ok (.iload_n 1, 1) := by decide +kernel
theorem dX0_writeLevels_170 : decode cX0_writeLevels 170 = .ok (.bipush 16, 2) := by decide +kernel
theorem dX0_writeLevels_172 : decode cX0_writeLevels 172 = .ok (.iload 5, 2) := by decide +kernel
theorem dX0_writeLevels_174 : decode cX0_writeLevels 174 = .ok (.iadd, 1) := by decide +kernel
theorem dX0_writeLevels_175 : decode cX0_writeLevels 175 = .ok (.invokestatic 589, 3) := by decide +kernel
theorem dX0_writeLevels_178 : decode cX0_writeLevels 178 = .ok (.invokevirtual 592, 3) := by decide +kernel
theorem dX0_writeLevels_181 : decode cX0_writeLevels 181 = .ok (.iinc 5 1, 3) := by decide +kernel
theorem dX0_writeLevels_184 : decode cX0_writeLevels 184 = .ok (.goto (-42), 3) := by decide +kernel
theorem dX0_writeLevels_187 : decode cX0_writeLevels 187 = .ok (.bipush 16, 2) := by decide +kernel
theorem dX0_writeLevels_189 : decode cX0_writeLevels 189 = .ok (.istore 5, 2) := by decide +kernel
theorem dX0_writeLevels_191 : decode cX0_writeLevels 191 = .ok (.iload 5, 2) := by decide +kernel
theorem dX0_writeLevels_193 : decode cX0_writeLevels 193 = .ok (.bipush 24, 2) := by decide +kernel
theorem dX0_writeLevels_195 : decode cX0_writeLevels 195 = .ok (.if_icmp .ge 52, 3) := by decide +kernel
theorem dX0_writeLevels_198 : decode cX0_writeLevels 198 = .ok (.aload_n 0, 1) := by decide +kernel
theorem dX0_writeLevels_199 : decode cX0_writeLevels 199 = .ok (.getfield 36, 3) := by decide +kernel
theorem dX0_writeLevels_202 : decode cX0_writeLevels 202 = .ok (.getfield 216, 3) := by decide +kernel
theorem dX0_writeLevels_205 : decode cX0_writeLevels 205 = .ok (.iload_n 2, 1) := by decide +kernel
theorem dX0_writeLevels_206 : decode cX0_writeLevels 206 = .ok (.iconst 4, 1) := by decide +kernel
theorem dX0_writeLevels_207 : decode cX0_writeLevels 207 = .ok (.iadd, 1) := by decide +kernel
theorem dX0_writeLevels_208 : decode cX0_writeLevels 208 = .ok (.iaload, 1) := by decide +kernel
theorem dX0_writeLevels_209 : decode cX0_writeLevels 209 = .ok (.iconst 2, 1) := by decide +kernel
theorem dX0_writeLevels_210 : decode cX0_writeLevels 210 = .ok (.if_icmp .ne 37, 3) := by decide +kernel
theorem dX0_writeLevels_213 : decode cX0_writeLevels 213 = .ok (.aload_n 0, 1) := by decide +kernel
theorem dX0_writeLevels_214 : decode cX0_writeLevels 214 = .ok (.getfield 29, 3) := by decide +kernel
theorem dX0_writeLevels_217 : decode cX0_writeLevels 217 = .ok (.aload_n 0, 1) := by decide +kernel
theorem dX0_writeLevels_218 : decode cX0_writeLevels 218 = .ok (.getfield 36, 3) := by decide +kernel
theorem dX0_writeLevels_221 : decode cX0_writeLevels 221 = .ok (.iload_n 1, 1) := by decide +kernel
theorem dX0_writeLevels_222 : decode cX0_writeLevels 222 = .ok (.iload 5, 2) := by decide +kernel
theorem dX0_writeLevels_224 : decode cX0_writeLevels 224 = .ok (.invokevirtual 586, 3) := by decide +kernel
theorem dX0_writeLevels_227 : decode cX0_writeLevels 227 = .ok (.bipush 15, 2) := by decide +kernel
theorem dX0_writeLevels_229 : decode cX0_writeLevels 229 = .ok (.aload_n 3, 1) := by decide +kernel
theorem dX0_writeLevels_230 : decode cX0_writeLevels 230 = .ok (.iload_n 1, 1) := by decide +kernel
theorem dX0_writeLevels_231 : decode cX0_writeLevels 231 = .ok (.iconst 3, 1) := by decide +kernel
theorem dX0_writeLevels_232 : decode cX0_writeLevels 232 = .ok (.iload 5, 2) := by decide +kernel
theorem dX0_writeLevels_234 : decode cX0_writeLevels 234 = .ok (.iadd, 1) := by decide +kernel
theorem dX0_writeLevels_235 : decode cX0_writeLevels 235 = .ok (.invokestatic 589, 3) := by decide +kernel
theorem dX0_writeLevels_238 : decode cX0_writeLevels 238 = .ok (.invokevirtual 592, 3) := by decide +kernel
theorem dX0_writeLevels_241 : decode cX0_writeLevels 241 = .ok (.iinc 5 1, 3) := by decide +kernel
theorem dX0_writeLevels_244 : decode cX0_writeLevels 244 = .ok (.goto (-53), 3) := by decide +kernel
theorem dX0_writeLevels_247 : decode cX0_writeLevels 247 = .ok (.return_, 1) := by decide +kernel
noncomputable def FX0_writeLevels (G : GG) (M : DD) (a : Nat) (p0 : Int32) : Option (NN × DD) :=
  ltt ((((8 : Int32)) * p0)) fun x1 =>
  dr (xt G []) 9 ((M.2 a 3)) fun b2 =>
  ltt ((x1 + ((0 : Int32)))) fun x3 =>
  dr (xt G []) 13 ((M.2 b2 6)) fun b4 =>
  chk (¬ (x3 < 0 ∨ (xt G []).2.2 b4 ≤ x3.toNatClampNeg)) <|
  ltt (M.1 b4 x3.toNatClampNeg) fun x5 =>
  bnd (if x5 = ((1 : Int32)) then (some ((1 : Int32))) else
  (some ((0 : Int32)))) fun (y6 : Int32) =>
  bnd (if y6 = ((0 : Int32)) then (some ([], M)) else
  (bnd (FX9_tokenTable (xt G []) M b2 p0 ((0 : Int32))) fun y102 =>
  bnd (FX9_levelAt (xt G []) y102.1 p0 ((16 : Int32))) fun y103 =>
  dr (xt G []) 10 ((M.2 a 2)) fun b104 =>
  chk (okd (xt G []) ((M.2 b2 9)) = true) <|
  bnd (FX10_levels (xt G []) y103.1 b104 y102.2 ((16 : Int32)) ((M.2 b2 9)) y103.2) fun y105 =>
  app y105.1 <|
  ltt ([] ++ y105.1) fun L108 =>
  some ([], y105.2))) fun (y7 : NN × DD) =>
  app y7.1 <|
  ltt ([] ++ y7.1) fun L9 =>
  bnd (itrA (fun (s12 : NN × Int32 × DD) => ((if ((16 : Int32)) ≤ s12.2.1 then (some ([], .inr ((s12.2.1, s12.2.2)))) else
  (dr (xt G s12.1) 9 ((s12.2.2.2 a 3)) fun b75 =>
  ltt ((x1 + ((3 : Int32)))) fun x76 =>
  dr (xt G s12.1) 13 ((s12.2.2.2 b75 6)) fun b77 =>
  chk (¬ (x76 < 0 ∨ (xt G s12.1).2.2 b77 ≤ x76.toNatClampNeg)) <|
  ltt (s12.2.2.1 b77 x76.toNatClampNeg) fun x78 =>
  ltt (s12.2.1 / ((4 : Int32))) fun x79 =>
  ltt ((x78 >>> (x79 &&& 31))) fun x80 =>
  ltt ((x80 &&& ((1 : Int32)))) fun x81 =>
  bnd (if x81 = ((1 : Int32)) then (bnd (FX9_tokenTable (xt G s12.1) s12.2.2 b75 p0 s12.2.1) fun y89 =>
  bnd (if y6 = ((0 : Int32)) then (some ((16 : Int32))) else
  (some ((15 : Int32)))) fun (y90 : Int32) =>
  bnd (FX9_levelAt (xt G s12.1) y89.1 p0 s12.2.1) fun y91 =>
  dr (xt G s12.1) 10 ((s12.2.2.2 a 2)) fun b92 =>
  chk (okd (xt G s12.1) ((M.2 b2 9)) = true) <|
  bnd (FX10_levels (xt G s12.1) y91.1 b92 y89.2 y90 ((M.2 b2 9)) y91.2) fun y93 =>
  app y93.1 <|
  ltt (s12.1 ++ y93.1) fun L96 =>
  some ([], y93.2)) else
  (some ([], s12.2.2))) fun (y82 : NN × DD) =>
  app y82.1 <|
  ltt (s12.1 ++ y82.1) fun L84 =>
  ltt (s12.2.1 + (1 : Int32)) fun x86 =>
  some ([], .inl (L84, (x86, y82.2))))) : Option (NN × ((NN × Int32 × DD) ⊕ (Int32 × DD))))) 1000000 (L9, ((0 : Int32), y7.2))) fun (y11 : NN × Int32 × DD) =>
  app y11.1 <|
  ltt (L9 ++ y11.1) fun L14 =>
  bnd (itrA (fun (s17 : NN × Int32 × DD) => ((if ((3 : Int32)) ≤ s17.2.1 then (some ([], .inr ((s17.2.1, s17.2.2)))) else
  (dr (xt G s17.1) 9 ((s17.2.2.2 a 3)) fun b54 =>
  ltt ((x1 + ((4 : Int32)))) fun x55 =>
  dr (xt G s17.1) 13 ((s17.2.2.2 b54 6)) fun b56 =>
  chk (¬ (x55 < 0 ∨ (xt G s17.1).2.2 b56 ≤ x55.toNatClampNeg)) <|
  ltt (s17.2.2.1 b56 x55.toNatClampNeg) fun x57 =>
  if x57 ≤ ((0 : Int32)) then (some ([], .inr ((s17.2.1, s17.2.2)))) else
  (ltt ((((16 : Int32)) + s17.2.1)) fun x59 =>
  bnd (FX9_levelAt (xt G s17.1) s17.2.2 p0 x59) fun y60 =>
  dr (xt G s17.1) 10 ((s17.2.2.2 a 2)) fun b61 =>
  chk (okd (xt G s17.1) ((M.2 b2 9)) = true) <|
  bnd (FX10_levels (xt G s17.1) y60.1 b61 ((4 : Int32)) ((4 : Int32)) ((M.2 b2 9)) y60.2) fun y62 =>
  app y62.1 <|
  ltt (s17.1 ++ y62.1) fun L65 =>
  ltt (s17.2.1 + (1 : Int32)) fun x68 =>
  some ([], .inl (L65, (x68, y62.2)))))) : Option (NN × ((NN × Int32 × DD) ⊕ (Int32 × DD))))) 1000000 (L14, ((1 : Int32), y11.2.2))) fun (y16 : NN × Int32 × DD) =>
  app y16.1 <|
  ltt (L14 ++ y16.1) fun L19 =>
  bnd (itrA (fun (s22 : NN × Int32 × DD) => ((if ((24 : Int32)) ≤ s22.2.1 then (some ([], .inr ((s22.2.1, s22.2.2)))) else
  (dr (xt G s22.1) 9 ((s22.2.2.2 a 3)) fun b32 =>
  ltt ((x1 + ((4 : Int32)))) fun x33 =>
  dr (xt G s22.1) 13 ((s22.2.2.2 b32 6)) fun b34 =>
  chk (¬ (x33 < 0 ∨ (xt G s22.1).2.2 b34 ≤ x33.toNatClampNeg)) <|
  ltt (s22.2.2.1 b34 x33.toNatClampNeg) fun x35 =>
  if x35 = ((2 : Int32)) then (bnd (FX9_tokenTable (xt G s22.1) s22.2.2 b32 p0 s22.2.1) fun y37 =>
  ltt ((((3 : Int32)) + s22.2.1)) fun x38 =>
  bnd (FX9_levelAt (xt G s22.1) y37.1 p0 x38) fun y39 =>
  dr (xt G s22.1) 10 ((s22.2.2.2 a 2)) fun b40 =>
  chk (okd (xt G s22.1) ((M.2 b2 9)) = true) <|
  bnd (FX10_levels (xt G s22.1) y39.1 b40 y37.2 ((15 : Int32)) ((M.2 b2 9)) y39.2) fun y41 =>
  app y41.1 <|
  ltt (s22.1 ++ y41.1) fun L44 =>
  ltt (s22.2.1 + (1 : Int32)) fun x47 =>
  some ([], .inl (L44, (x47, y41.2)))) else
  (some ([], .inr ((s22.2.1, s22.2.2)))))) : Option (NN × ((NN × Int32 × DD) ⊕ (Int32 × DD))))) 1000000 (L19, ((16 : Int32), y16.2.2))) fun (y21 : NN × Int32 × DD) =>
  app y21.1 <|
  ltt (L19 ++ y21.1) fun L24 =>
  some ([], y21.2.2)
set_option maxHeartbeats 4000000 in
set_option maxRecDepth 100000 in
theorem kX0_writeLevels (l : Launch) (D : va_G) (ct : CT) (ad : Nat → Nat) (Z : Nat → Nat) (G : GG) (M : DD) (sz : Nat) (a : Nat) (p0 : Int32) (y : NN × DD) (hc : a < G.1) (hk : G.2.1 a = 0) (hF : FX0_writeLevels G M a p0 = some y) : Met l yX0_writeLevels wuX0_writeLevels ({ frames := 6, cells := y.1.length, slots := wt y.1, locals := 206 }) (va_Pc [.ref (ad a), .int p0] (kB D ct ad Z G M sz)) (va_Qv (fun (u : Nat → Nat) => agr G.1 ad u) (fun u t => kE D ct u (xt G y.1) (wA ad G sz) y.2 t) (wA ad G sz)) y.1.length (wt y.1) (wA ad G sz) := by
  refine Met.ofW (cc := cX0_writeLevels) (maxL := 6) (ret := none) (by decide) rfl ?_
  intro p e s m args below meth c s₁ B hml hv
  obtain ⟨rfl, hsz, hP, hK, hD0, hZ, hN⟩ := hv
  have hx := B.exec
  have hb := B.bytes
  have hr := B.returns
  have hts := atoms_spec (ws := wuX0_writeLevels) B.pre
  have hown : s.vm.findClass RX0 = some m.cls := findClass_of_methodNamed B.named
  have hlocks := B.notSynchronized
  subst hsz
  have hD := wD_self (sz := s.heap.size) hD0
  have hA9 : ∀ q, s.heap.size ≤ q → wA ad G s.heap.size q := fun q h => Or.inr h
  generalize hAe : wA ad G s.heap.size = A at hD hA9 hZ ⊢
  have hS : va_S A s.heap s.heap [] := va_S.rf
  have hl := lv_entry ([.ref (ad a), .int p0]) (n := 6) (Nat.le_of_ble_eq_true rfl)
  rw [lg_entry_eq]
  generalize (lg_sl ([.ref (ad a), .int p0]) ++ List.replicate (6 - (lg_sl ([.ref (ad a), .int p0])).length) Slot.unset).toArray = ls at hl ⊢
  have hl : lv_has ls 6 [(0, .ref (ad a)), (1, .int p0)] := hl
  unfold FX0_writeLevels at hF
  rw [← wld_0 ct ad G M] at hP hD
  have hk := xt_k0 hc hk
  have hc := xt_l0 hc
  have hag := agr_rf G.1 ad
  obtain ⟨w0, hw0⟩ : ∃ z, z = y := ⟨_, rfl⟩
  rw [← hw0] at hF
  have hT : y.1 = [] ++ w0.1 := by rw [hw0]; rfl
  have h2 : y.2 = w0.2 := by rw [hw0]
  have hbl : y.1.length ≤ y.1.length ∧ wt y.1 ≤ wt y.1 := ⟨Nat.le_refl _, Nat.le_refl _⟩
  refine lv_bipush (v := (8 : Int32)) hx hb dX0_writeLevels_0 (by decide) ?_
  refine lv_iload_n hx hb dX0_writeLevels_2 rfl (lv_at hl 1 rfl) ?_
  refine lv_imul hx hb dX0_writeLevels_3 ?_
  obtain ⟨x1, ex1, hF⟩ := ltt_some hF
  refine lv_topi (fun zx1 ezx1 => ?_)
  obtain rfl : x1 = zx1 := ex1.trans ezx1.symm
  refine lv_istore_n (lv' := [(2, .int x1), (0, .ref (ad a)), (1, .int p0)]) hx hb dX0_writeLevels_4 rfl hl (by decide) rfl (fun ls hl => ?_)
  refine lv_aload_n hx hb dX0_writeLevels_5 rfl (lv_at hl 1 rfl) ?_
  refine va_get (D := D) (ci := 0) (v := va_re ad (M.2 a 3)) (C := RX0) (T := TX0) (N := 21) hx hb hts (mus hf_X0) hown hK hP a (wld_o ct ad (xt G []) M hc hk (by decide)) rfl 3 (by decide) (hts (.fieldLink RX0 36 "VideoSuite$Coder" "work" "LVideoSuite$Work;") (mu mw_817)) (fun _ h9 => h9) rfl dX0_writeLevels_6 ?_
  obtain ⟨b2, ho2, hc2, hk2, hF⟩ := dr_some hF
  refine W_st (st' := [.ref (ad b2)]) (by rw [va_some ho2]) ?_
  refine va_get (D := D) (ci := 9) (v := va_re ad (M.2 b2 9)) (C := RX9) (T := TX9) (N := 20) hx hb hts (mus hf_X9) hown hK hP b2 (wld_o ct ad (xt G []) M hc2 hk2 (by decide)) rfl 9 (by decide) (hts (.fieldLink RX0 583 "VideoSuite$Work" "level" "[I") (mu mw_457)) (fun _ h9 => h9) rfl dX0_writeLevels_9 ?_
  refine lv_astoreq_n (lv' := [(3, va_re ad (M.2 b2 9)), (2, .int x1), (0, .ref (ad a)), (1, .int p0)]) hx hb dX0_writeLevels_12 rfl hl (by decide) rfl (fun ls hl => ?_)
  refine lv_aload_n hx hb dX0_writeLevels_13 rfl (lv_at hl 2 rfl) ?_
  refine va_get (D := D) (ci := 0) (v := va_re ad (M.2 a 3)) (C := RX0) (T := TX0) (N := 21) hx hb hts (mus hf_X0) hown hK hP a (wld_o ct ad (xt G []) M hc hk (by decide)) rfl 3 (by decide) (hts (.fieldLink RX0 36 "VideoSuite$Coder" "work" "LVideoSuite$Work;") (mu mw_817)) (fun _ h9 => h9) rfl dX0_writeLevels_14 ?_
  refine W_st (st' := [.ref (ad b2)]) (by rw [va_some ho2]) ?_
  refine va_get (D := D) (ci := 9) (v := va_re ad (M.2 b2 6)) (C := RX9) (T := TX9) (N := 20) hx hb hts (mus hf_X9) hown hK hP b2 (wld_o ct ad (xt G []) M hc2 hk2 (by decide)) rfl 6 (by decide) (hts (.fieldLink RX0 216 "VideoSuite$Work" "info" "[I") (mu mw_445)) (fun _ h9 => h9) rfl dX0_writeLevels_17 ?_
  refine lv_iload_n hx hb dX0_writeLevels_20 rfl (lv_at hl 1 rfl) ?_
  refine lv_iconst (v := (0 : Int32)) hx hb dX0_writeLevels_21 (by decide) ?_
  refine lv_iadd hx hb dX0_writeLevels_22 ?_
  obtain ⟨x3, ex3, hF⟩ := ltt_some hF
  refine lv_topi (fun zx3 ezx3 => ?_)
  obtain rfl : x3 = zx3 := ex3.trans ezx3.symm
  obtain ⟨b4, ho4, hc4, hk4, hF⟩ := dr_some hF
  refine W_st (st' := [.int x3, .ref (ad b4)]) (by rw [va_some ho4]) ?_
  obtain ⟨hvc, hF⟩ := chk_some hF
  refine va_iald hx hb hK hP b4 1 (wld_i ct ad (xt G []) M hc4 hk4) rfl hvc dX0_writeLevels_23 ?_
  obtain ⟨x5, ex5, hF⟩ := ltt_some hF
  refine lv_topi (fun zx5 ezx5 => ?_)
  obtain rfl : x5 = zx5 := ex5.trans ezx5.symm
  refine lv_iconst (v := (1 : Int32)) hx hb dX0_writeLevels_24 (by decide) ?_
  obtain ⟨y6, hy6, hF⟩ := bnd_some hF
  have J6 : ∀ (H : Heap) (locs : List Loc) (ls : Array Slot), va_P D classes (wld ct ad (xt G []) M) H → va_D A (wld ct ad (xt G []) M) → va_S A s.heap H locs → lv_has ls 6 [(3, va_re ad (M.2 b2 9)), (2, .int x1), (0, .ref (ad a)), (1, .int p0)] → W p l e (headSpec wuX0_writeLevels ({ frames := 6, cells := y.1.length, slots := wt y.1, locals := 206 })).room s m ([.ref (ad a), .int p0] : List Value).toArray below meth c H locs ([] : NN).length (wt []) (MQ below (va_Qv (fun (u : Nat → Nat) => agr G.1 ad u) (fun u t => kE D ct u (xt G y.1) A y.2 t) A) ([.ref (ad a), .int p0] : List Value).toArray s y.1.length (wt y.1) A) (F0 m 33 ls [.int y6]) := by
    intro H locs ls hP hD hS hl
    refine lv_istore (lv' := [(4, .int y6), (3, va_re ad (M.2 b2 9)), (2, .int x1), (0, .ref (ad a)), (1, .int p0)]) hx hb dX0_writeLevels_33 hl (by decide) (by generalize ((M.2 b2 9)) = o9; cases o9 <;> rfl) (fun ls hl => ?_)
    refine lv_iload hx hb dX0_writeLevels_35 (lv_at hl 0 rfl) ?_
    obtain ⟨y7, hy7, hF⟩ := bnd_some hF
    obtain ⟨w8, hF, ew8⟩ := app_some hF
    obtain ⟨L9, eL9, hF⟩ := ltt_some hF
    have hT9 : y.1 = ([] ++ y7.1) ++ w8.1 := by rw [hT, ew8]; simp only [List.append_assoc]
    have hbl9 : L9.length ≤ y.1.length ∧ wt L9 ≤ wt y.1 := by rw [eL9]; exact room_d hT9 hbl
    have J7 : ∀ (ad10 : Nat → Nat), agr G.1 ad ad10 → ∀ (H : Heap) (locs : List Loc) (ls : Array Slot), va_P D classes (wld ct ad10 (xt G L9) y7.2) H → va_D A (wld ct ad10 (xt G L9) y7.2) → va_S A s.heap H locs → lv_has ls 6 [(4, .int y6), (3, va_re ad10 (M.2 b2 9)), (2, .int x1), (0, .ref (ad10 a)), (1, .int p0)] → W p l e (headSpec wuX0_writeLevels ({ frames := 6, cells := y.1.length, slots := wt y.1, locals := 206 })).room s m ([.ref (ad a), .int p0] : List Value).toArray below meth c H locs (L9 : NN).length (wt L9) (MQ below (va_Qv (fun (u : Nat → Nat) => agr G.1 ad u) (fun u t => kE D ct u (xt G y.1) A y.2 t) A) ([.ref (ad a), .int p0] : List Value).toArray s y.1.length (wt y.1) A) (F0 m 65 ls []) := by
      intro ad10 hag H locs ls hP hD hS hl
      have hT : y.1 = L9 ++ w8.1 := by rw [hT9, eL9]
      have h2 : y.2 = w8.2 := by rw [h2, ew8]
      have hk : (xt G L9).2.1 a = 0 := by rw [eL9]; exact xt_k _ hc hk
      have hc : a < (xt G L9).1 := by rw [eL9]; exact xt_l _ hc
      have hk2 : (xt G L9).2.1 b2 = 9 := by rw [eL9]; exact xt_k _ hc2 hk2
      have hc2 : b2 < (xt G L9).1 := by rw [eL9]; exact xt_l _ hc2
      have hk4 : (xt G L9).2.1 b4 = 13 := by rw [eL9]; exact xt_k _ hc4 hk4
      have hc4 : b4 < (xt G L9).1 := by rw [eL9]; exact xt_l _ hc4
      refine lv_iconst (v := (0 : Int32)) hx hb dX0_writeLevels_65 (by decide) ?_
      refine lv_istore (lv' := [(5, .int (0 : Int32)), (4, .int y6), (3, va_re ad10 (M.2 b2 9)), (2, .int x1), (0, .ref (ad10 a)), (1, .int p0)]) hx hb dX0_writeLevels_66 hl (by decide) rfl (fun ls hl => ?_)
      obtain ⟨y11, hy11, hF⟩ := bnd_some hF
      obtain ⟨w13, hF, ew13⟩ := app_some hF
      obtain ⟨L14, eL14, hF⟩ := ltt_some hF
      have hT14 : y.1 = (L9 ++ y11.1) ++ w13.1 := by rw [hT, ew13]; simp only [List.append_assoc]
      have hbl14 : L14.length ≤ y.1.length ∧ wt L14 ≤ wt y.1 := by rw [eL14]; exact room_d hT14 hbl
      have K11 : ∀ (ad15 : Nat → Nat), agr G.1 ad ad15 → ∀ (H : Heap) (locs : List Loc) (ls : Array Slot), va_P D classes (wld ct ad15 (xt G L14) y11.2.2) H → va_D A (wld ct ad15 (xt G L14) y11.2.2) → va_S A s.heap H locs → lv_has ls 6 [(3, va_re ad15 (M.2 b2 9)), (2, .int x1), (0, .ref (ad15 a)), (1, .int p0)] → W p l e (headSpec wuX0_writeLevels ({ frames := 6, cells := y.1.length, slots := wt y.1, locals := 206 })).room s m ([.ref (ad a), .int p0] : List Value).toArray below meth c H locs (L14 : NN).length (wt L14) (MQ below (va_Qv (fun (u : Nat → Nat) => agr G.1 ad u) (fun u t => kE D ct u (xt G y.1) A y.2 t) A) ([.ref (ad a), .int p0] : List Value).toArray s y.1.length (wt y.1) A) (F0 m 139 ls []) := by
        intro ad15 hag H locs ls hP hD hS hl
        have hT : y.1 = L14 ++ w13.1 := by rw [hT14, eL14]
        have h2 : y.2 = w13.2 := by rw [h2, ew13]
        have hk : (xt G L14).2.1 a = 0 := by rw [eL14]; exact xt_k _ hc hk
        have hc : a < (xt G L14).1 := by rw [eL14]; exact xt_l _ hc
        have hk2 : (xt G L14).2.1 b2 = 9 := by rw [eL14]; exact xt_k _ hc2 hk2
        have hc2 : b2 < (xt G L14).1 := by rw [eL14]; exact xt_l _ hc2
        have hk4 : (xt G L14).2.1 b4 = 13 := by rw [eL14]; exact xt_k _ hc4 hk4
        have hc4 : b4 < (xt G L14).1 := by rw [eL14]; exact xt_l _ hc4
        refine lv_iconst (v := (1 : Int32)) hx hb dX0_writeLevels_139 (by decide) ?_
        refine lv_istore (lv' := [(5, .int (1 : Int32)), (3, va_re ad15 (M.2 b2 9)), (2, .int x1), (0, .ref (ad15 a)), (1, .int p0)]) hx hb dX0_writeLevels_140 hl (by decide) rfl (fun ls hl => ?_)
        obtain ⟨y16, hy16, hF⟩ := bnd_some hF
        obtain ⟨w18, hF, ew18⟩ := app_some hF
        obtain ⟨L19, eL19, hF⟩ := ltt_some hF
        have hT19 : y.1 = (L14 ++ y16.1) ++ w18.1 := by rw [hT, ew18]; simp only [List.append_assoc]
        have hbl19 : L19.length ≤ y.1.length ∧ wt L19 ≤ wt y.1 := by rw [eL19]; exact room_d hT19 hbl
        have K16 : ∀ (ad20 : Nat → Nat), agr G.1 ad ad20 → ∀ (H : Heap) (locs : List Loc) (ls : Array Slot), va_P D classes (wld ct ad20 (xt G L19) y16.2.2) H → va_D A (wld ct ad20 (xt G L19) y16.2.2) → va_S A s.heap H locs → lv_has ls 6 [(3, va_re ad20 (M.2 b2 9)), (2, .int x1), (0, .ref (ad20 a)), (1, .int p0)] → W p l e (headSpec wuX0_writeLevels ({ frames := 6, cells := y.1.length, slots := wt y.1, locals := 206 })).room s m ([.ref (ad a), .int p0] : List Value).toArray below meth c H locs (L19 : NN).length (wt L19) (MQ below (va_Qv (fun (u : Nat → Nat) => agr G.1 ad u) (fun u t => kE D ct u (xt G y.1) A y.2 t) A) ([.ref (ad a), .int p0] : List Value).toArray s y.1.length (wt y.1) A) (F0 m 187 ls []) := by
          intro ad20 hag H locs ls hP hD hS hl
          have hT : y.1 = L19 ++ w18.1 := by rw [hT19, eL19]
          have h2 : y.2 = w18.2 := by rw [h2, ew18]
          have hk : (xt G L19).2.1 a = 0 := by rw [eL19]; exact xt_k _ hc hk
          have hc : a < (xt G L19).1 := by rw [eL19]; exact xt_l _ hc
          have hk2 : (xt G L19).2.1 b2 = 9 := by rw [eL19]; exact xt_k _ hc2 hk2
          have hc2 : b2 < (xt G L19).1 := by rw [eL19]; exact xt_l _ hc2
          have hk4 : (xt G L19).2.1 b4 = 13 := by rw [eL19]; exact xt_k _ hc4 hk4
          have hc4 : b4 < (xt G L19).1 := by rw [eL19]; exact xt_l _ hc4
          refine lv_bipush (v := (16 : Int32)) hx hb dX0_writeLevels_187 (by decide) ?_
          refine lv_istore (lv' := [(5, .int (16 : Int32)), (3, va_re ad20 (M.2 b2 9)), (2, .int x1), (0, .ref (ad20 a)), (1, .int p0)]) hx hb dX0_writeLevels_189 hl (by decide) rfl (fun ls hl => ?_)
          obtain ⟨y21, hy21, hF⟩ := bnd_some hF
          obtain ⟨w23, hF, ew23⟩ := app_some hF
          obtain ⟨L24, eL24, hF⟩ := ltt_some hF
          have hT24 : y.1 = (L19 ++ y21.1) ++ w23.1 := by rw [hT, ew23]; simp only [List.append_assoc]
          have hbl24 : L24.length ≤ y.1.length ∧ wt L24 ≤ wt y.1 := by rw [eL24]; exact room_d hT24 hbl
          have K21 : ∀ (ad25 : Nat → Nat), agr G.1 ad ad25 → ∀ (H : Heap) (locs : List Loc) (ls : Array Slot), va_P D classes (wld ct ad25 (xt G L24) y21.2.2) H → va_D A (wld ct ad25 (xt G L24) y21.2.2) → va_S A s.heap H locs → lv_has ls 6 [] → W p l e (headSpec wuX0_writeLevels ({ frames := 6, cells := y.1.length, slots := wt y.1, locals := 206 })).room s m ([.ref (ad a), .int p0] : List Value).toArray below meth c H locs (L24 : NN).length (wt L24) (MQ below (va_Qv (fun (u : Nat → Nat) => agr G.1 ad u) (fun u t => kE D ct u (xt G y.1) A y.2 t) A) ([.ref (ad a), .int p0] : List Value).toArray s y.1.length (wt y.1) A) (F0 m 247 ls []) := by
            intro ad25 hag H locs ls hP hD hS hl
            have hT : y.1 = L24 ++ w23.1 := by rw [hT24, eL24]
            have h2 : y.2 = w23.2 := by rw [h2, ew23]
            have hk : (xt G L24).2.1 a = 0 := by rw [eL24]; exact xt_k _ hc hk
            have hc : a < (xt G L24).1 := by rw [eL24]; exact xt_l _ hc
            have hk2 : (xt G L24).2.1 b2 = 9 := by rw [eL24]; exact xt_k _ hc2 hk2
            have hc2 : b2 < (xt G L24).1 := by rw [eL24]; exact xt_l _ hc2
            have hk4 : (xt G L24).2.1 b4 = 13 := by rw [eL24]; exact xt_k _ hc4 hk4
            have hc4 : b4 < (xt G L24).1 := by rw [eL24]; exact xt_l _ hc4
            obtain rfl := Option.some.inj hF
            have e1 : y.1 = L24 := by rw [hT]; exact List.append_nil _
            have e2 : y.2 = y21.2.2 := h2
            refine W.widen (k := y.1.length) (n := wt y.1) (Nat.le_of_eq (by rw [e1])) (Nat.le_of_eq (by rw [e1])) ?_
            exact W.vret hx hb hr (fun t ht hW => ⟨⟨ad25, rfl, hag, (by unfold kE; rw [e1, e2]; exact ⟨by rw [ht]; exact hP, va_K.moved hW.alike hK, hD⟩)⟩, hS.F ht⟩) hS.2.2 dX0_writeLevels_247
          clear hF
          refine itrA_rule (fun (s22 : NN × Int32 × DD) (r27 : NN) => (∃ t, s22.1 = L19 ++ t) → L24 = s22.1 ++ r27 → ∀ (ad26 : Nat → Nat), agr G.1 ad ad26 → ∀ (H : Heap) (locs : List Loc) (ls : Array Slot), va_P D classes (wld ct ad26 (xt G s22.1) s22.2.2) H → va_D A (wld ct ad26 (xt G s22.1) s22.2.2) → va_S A s.heap H locs → lv_has ls 6 [(5, .int s22.2.1), (3, va_re ad26 (M.2 b2 9)), (2, .int x1), (0, .ref (ad26 a)), (1, .int p0)] → W p l e (headSpec wuX0_writeLevels ({ frames := 6, cells := y.1.length, slots := wt y.1, locals := 206 })).room s m ([.ref (ad a), .int p0] : List Value).toArray below meth c H locs (s22.1 : NN).length (wt s22.1) (MQ below (va_Qv (fun (u : Nat → Nat) => agr G.1 ad u) (fun u t => kE D ct u (xt G y.1) A y.2 t) A) ([.ref (ad a), .int p0] : List Value).toArray s y.1.length (wt y.1) A) (F0 m 191 ls [])) ?_ _ _ _ hy21 ⟨[], (List.append_nil _).symm⟩ eL24 _ hag _ _ _ hP hD hS (lv_sub hl [0, 1, 2, 3, 4] rfl)
          rintro s22 r27 ⟨z28, hF, ⟨t21, et21⟩, hwz28⟩ ⟨u21, eu21⟩ eq21 ad26 hag H locs ls hP hD hS hl
          try dsimp only at hF
          obtain ⟨L29, eL29⟩ : ∃ x, x = s22.1 ++ z28.1 := ⟨_, rfl⟩
          obtain ⟨w30, hw30⟩ : ∃ x, x = z28 := ⟨_, rfl⟩
          rw [← hw30] at hF
          have hbl : L29.length ≤ y.1.length ∧ wt L29 ≤ wt y.1 := room_d (show L24 = L29 ++ t21 by rw [eq21, et21, eL29]; simp only [List.append_assoc]) hbl24
          have hT : L29 = s22.1 ++ w30.1 := by rw [eL29, hw30]
          have h2 : z28.2 = w30.2 := by rw [hw30]
          have hk : (xt G s22.1).2.1 a = 0 := by rw [eu21]; exact xt_k _ hc hk
          have hc : a < (xt G s22.1).1 := by rw [eu21]; exact xt_l _ hc
          have hk2 : (xt G s22.1).2.1 b2 = 9 := by rw [eu21]; exact xt_k _ hc2 hk2
          have hc2 : b2 < (xt G s22.1).1 := by rw [eu21]; exact xt_l _ hc2
          have hk4 : (xt G s22.1).2.1 b4 = 13 := by rw [eu21]; exact xt_k _ hc4 hk4
          have hc4 : b4 < (xt G s22.1).1 := by rw [eu21]; exact xt_l _ hc4
          refine lv_iload hx hb dX0_writeLevels_191 (lv_at hl 0 rfl) ?_
          refine lv_bipush (v := (24 : Int32)) hx hb dX0_writeLevels_193 (by decide) ?_
          refine lv_icmp_ge (tgt := 247) hx hb dX0_writeLevels_195 (by decide) (fun c31 => ?_) (fun c31 => ?_)
          · rw [if_pos c31] at hF
            obtain rfl := Option.some.inj hF
            have e1 : L29 = s22.1 := by rw [hT]; exact List.append_nil _
            have e2 : z28.2 = .inr ((s22.2.1, s22.2.2)) := h2
            rw [e2] at hwz28
            obtain ⟨hw1, hw2⟩ := hwz28
            have e8 : L24 = s22.1 := by rw [eq21, hw2, ← eL29, e1]
            rw [e8] at K21
            try rw [← hw1] at K21
            exact K21 _ hag _ _ _ hP hD hS (lv_sub hl [] rfl)
          · rw [if_neg c31] at hF
            refine lv_aload_n hx hb dX0_writeLevels_198 rfl (lv_at hl 3 rfl) ?_
            refine va_get (D := D) (ci := 0) (v := va_re ad26 (s22.2.2.2 a 3)) (C := RX0) (T := TX0) (N := 21) hx hb hts (mus hf_X0) hown hK hP a (wld_o ct ad26 (xt G s22.1) s22.2.2 hc hk (by decide)) rfl 3 (by decide) (hts (.fieldLink RX0 36 "VideoSuite$Coder" "work" "LVideoSuite$Work;") (mu mw_817)) (fun _ h9 => h9) rfl dX0_writeLevels_199 ?_
            obtain ⟨b32, ho32, hc32, hk32, hF⟩ := dr_some hF
            refine W_st (st' := [.ref (ad26 b32)]) (by rw [va_some ho32]) ?_
            refine va_get (D := D) (ci := 9) (v := va_re ad26 (s22.2.2.2 b32 6)) (C := RX9) (T := TX9) (N := 20) hx hb hts (mus hf_X9) hown hK hP b32 (wld_o ct ad26 (xt G s22.1) s22.2.2 hc32 hk32 (by decide)) rfl 6 (by decide) (hts (.fieldLink RX0 216 "VideoSuite$Work" "info" "[I") (mu mw_445)) (fun _ h9 => h9) rfl dX0_writeLevels_202 ?_
            refine lv_iload_n hx hb dX0_writeLevels_205 rfl (lv_at hl 2 rfl) ?_
            refine lv_iconst (v := (4 : Int32)) hx hb dX0_writeLevels_206 (by decide) ?_
            refine lv_iadd hx hb dX0_writeLevels_207 ?_
            obtain ⟨x33, ex33, hF⟩ := ltt_some hF
            refine lv_topi (fun zx33 ezx33 => ?_)
            obtain rfl : x33 = zx33 := ex33.trans ezx33.symm
            obtain ⟨b34, ho34, hc34, hk34, hF⟩ := dr_some hF
            refine W_st (st' := [.int x33, .ref (ad26 b34)]) (by rw [va_some ho34]) ?_
            obtain ⟨hvc, hF⟩ := chk_some hF
            refine va_iald hx hb hK hP b34 1 (wld_i ct ad26 (xt G s22.1) s22.2.2 hc34 hk34) rfl hvc dX0_writeLevels_208 ?_
            obtain ⟨x35, ex35, hF⟩ := ltt_some hF
            refine lv_topi (fun zx35 ezx35 => ?_)
            obtain rfl : x35 = zx35 := ex35.trans ezx35.symm
            refine lv_iconst (v := (2 : Int32)) hx hb dX0_writeLevels_209 (by decide) ?_
            refine lv_icmp_ne (tgt := 247) hx hb dX0_writeLevels_210 (by decide) (fun c36 => ?_) (fun c36 => ?_)
            · rw [if_neg c36] at hF
              obtain rfl := Option.some.inj hF
              have e1 : L29 = s22.1 := by rw [hT]; exact List.append_nil _
              have e2 : z28.2 = .inr ((s22.2.1, s22.2.2)) := h2
              rw [e2] at hwz28
              obtain ⟨hw1, hw2⟩ := hwz28
              have e8 : L24 = s22.1 := by rw [eq21, hw2, ← eL29, e1]
              rw [e8] at K21
              try rw [← hw1] at K21
              exact K21 _ hag _ _ _ hP hD hS (lv_sub hl [] rfl)
            · rw [if_pos c36] at hF
              refine lv_aload_n hx hb dX0_writeLevels_213 rfl (lv_at hl 3 rfl) ?_
              refine va_get (D := D) (ci := 0) (v := va_re ad26 (s22.2.2.2 a 2)) (C := RX0) (T := TX0) (N := 21) hx hb hts (mus hf_X0) hown hK hP a (wld_o ct ad26 (xt G s22.1) s22.2.2 hc hk (by decide)) rfl 2 (by decide) (hts (.fieldLink RX0 29 "VideoSuite$Coder" "writer" "LVideoSuite$Writer;") (mu mw_815)) (fun _ h9 => h9) rfl dX0_writeLevels_214 ?_
              refine lv_aload_n hx hb dX0_writeLevels_217 rfl (lv_at hl 3 rfl) ?_
              refine va_get (D := D) (ci := 0) (v := va_re ad26 (s22.2.2.2 a 3)) (C := RX0) (T := TX0) (N := 21) hx hb hts (mus hf_X0) hown hK hP a (wld_o ct ad26 (xt G s22.1) s22.2.2 hc hk (by decide)) rfl 3 (by decide) (hts (.fieldLink RX0 36 "VideoSuite$Coder" "work" "LVideoSuite$Work;") (mu mw_817)) (fun _ h9 => h9) rfl dX0_writeLevels_218 ?_
              refine lv_iload_n hx hb dX0_writeLevels_221 rfl (lv_at hl 4 rfl) ?_
              refine lv_iload hx hb dX0_writeLevels_222 (lv_at hl 0 rfl) ?_
              refine W_st (st' := [.int s22.2.1, .int p0, .ref (ad26 b32), va_re ad26 (s22.2.2.2 a 2)]) (by rw [va_some ho32]) ?_
              obtain ⟨y37, hy37, hF⟩ := bnd_some hF
              have hf9 := wA_in hD hA9 hS
              refine va_calli (va_runV (As := [.int p0, .int s22.2.1]) (rest := [va_re ad26 (s22.2.2.2 a 2)]) ⟨hx, hb, hml, hown, hts⟩ (kX9_tokenTable l D ct ad26 Z (xt G s22.1) s22.2.2 H.size b32 p0 s22.2.1 y37 hc32 hk32 hy37) (cwV 2 hts gX0_writeLevels_X9_tokenTable rfl rfl rfl (by decide +kernel) ⟨Nat.le_of_ble_eq_true rfl, Nat.le_of_ble_eq_true rfl⟩) ⟨fun a U g mk q => by obtain ⟨q0, q1, qP, qK, qD, qZ, qN⟩ := q; exact ⟨q0, q1, qP, va_K.moved (u := U) (U := U.calling g mk a) (Vm.Alike.refl U.vm) qK, qD, sF.moved (u := U) (U := U.calling g mk a) (Vm.Alike.refl U.vm) qZ, nF.same rfl qN⟩, va_recv hK hP (ci := 9) (q0 := b32) rfl (wld_o ct ad26 (xt G s22.1) s22.2.2 hc32 hk32 (by decide)), fun U hU hW => ⟨rfl, by rw [hU], by rw [hU]; exact hP, va_K.moved hW.alike hK, hD.weaken (fun _ _ _ _ => trivial), by rw [hU]; exact ((hZ.kept hS.2.1).narrow hf9).moved hW.alike, hN.warm hW⟩⟩ rfl rfl hl.1 rfl (lv_room (by simp only [List.map, va_re_cat]; exact Nat.le_of_ble_eq_true rfl)) dX0_writeLevels_224 (room_d hT hbl)) hS (fun q _ h => hf9 q h) hf9 (fun r u t H locs ht hvm hw hB hz1 hk1 hS => ?_)
              obtain ⟨hP, hK9, hD9⟩ := hB
              rw [ht] at hP
              try dsimp only at hw
              subst hw
              refine W_cs (k := (s22.1 : NN).length) (n := wt s22.1) rfl rfl ?_
              have hD := hD9.weaken (fun _ q _ h => hf9 q.1 h)
              refine lv_bipush (v := (15 : Int32)) hx hb dX0_writeLevels_227 (by decide) ?_
              refine lv_aloadq_n hx hb dX0_writeLevels_229 rfl (lv_at hl 1 rfl) ?_
              refine lv_iload_n hx hb dX0_writeLevels_230 rfl (lv_at hl 4 rfl) ?_
              refine lv_iconst (v := (3 : Int32)) hx hb dX0_writeLevels_231 (by decide) ?_
              refine lv_iload hx hb dX0_writeLevels_232 (lv_at hl 0 rfl) ?_
              refine lv_iadd hx hb dX0_writeLevels_234 ?_
              obtain ⟨x38, ex38, hF⟩ := ltt_some hF
              refine lv_topi (fun zx38 ezx38 => ?_)
              obtain rfl : x38 = zx38 := ex38.trans ezx38.symm
              obtain ⟨y39, hy39, hF⟩ := bnd_some hF
              have hf9 := wA_in hD hA9 hS
              refine va_calli (va_runS (As := [.int p0, .int x38]) (rest := [va_re ad26 (M.2 b2 9), .int (15 : Int32), .int y37.2, va_re ad26 (s22.2.2.2 a 2)]) ⟨hx, hb, hml, hown, hts⟩ (kX9_levelAt l D ct ad26 Z (xt G s22.1) y37.1 H.size p0 x38 y39 hy39) (va_cwS 2 hts gX0_writeLevels_X9_levelAt rfl rfl rfl (by decide +kernel) ⟨Nat.le_of_ble_eq_true rfl, Nat.le_of_ble_eq_true rfl⟩) ⟨fun a U g mk q => by obtain ⟨q0, q1, qP, qK, qD, qZ, qN⟩ := q; exact ⟨q0, q1, qP, va_K.moved (u := U) (U := U.calling g mk a) (Vm.Alike.refl U.vm) qK, qD, sF.moved (u := U) (U := U.calling g mk a) (Vm.Alike.refl U.vm) qZ, nF.same rfl qN⟩, fun U hU hW => ⟨rfl, by rw [hU], by rw [hU]; exact hP, va_K.moved hW.alike hK, hD.weaken (fun _ _ _ _ => trivial), by rw [hU]; exact ((hZ.kept hS.2.1).narrow hf9).moved hW.alike, hN.warm hW⟩⟩ rfl rfl hl.1 rfl (lv_room (by simp only [List.map, va_re_cat]; exact Nat.le_of_ble_eq_true rfl)) dX0_writeLevels_235 (room_d hT hbl)) hS (fun q _ h => hf9 q h) hf9 (fun r u t H locs ht hvm hw hB hz1 hk1 hS => ?_)
              obtain ⟨hP, hK9, hD9⟩ := hB
              rw [ht] at hP
              try dsimp only at hw
              subst hw
              refine W_cs (k := (s22.1 : NN).length) (n := wt s22.1) rfl rfl ?_
              have hD := hD9.weaken (fun _ q _ h => hf9 q.1 h)
              obtain ⟨b40, ho40, hc40, hk40, hF⟩ := dr_some hF
              refine W_st (st' := [.int y39.2, va_re ad26 (M.2 b2 9), .int (15 : Int32), .int y37.2, .ref (ad26 b40)]) (by rw [va_some ho40]) ?_
              obtain ⟨hq42, hF⟩ := chk_some hF
              obtain ⟨y41, hy41, hF⟩ := bnd_some hF
              obtain ⟨w43, hF, ew43⟩ := app_some hF
              obtain ⟨L44, eL44, hF⟩ := ltt_some hF
              have hT44 : L29 = (s22.1 ++ y41.1) ++ w43.1 := by rw [hT, ew43]; simp only [List.append_assoc]
              have hf9 := wA_in hD hA9 hS
              refine va_callv (va_runV (As := [.int y37.2, .int (15 : Int32), va_re ad26 (M.2 b2 9), .int y39.2]) (rest := []) ⟨hx, hb, hml, hown, hts⟩ (kX10_levels l D ct ad26 Z (xt G s22.1) y39.1 _ b40 y37.2 ((15 : Int32)) ((M.2 b2 9)) y39.2 y41 hc40 hk40 hy41) (cwV 4 hts gX0_writeLevels_X10_levels rfl rfl rfl (by decide +kernel) ⟨Nat.le_of_ble_eq_true rfl, Nat.le_of_ble_eq_true rfl⟩) ⟨fun a U g mk q => by obtain ⟨q0, q1, qP, qK, qD, qZ, qN⟩ := q; exact ⟨q0, q1, qP, va_K.moved (u := U) (U := U.calling g mk a) (Vm.Alike.refl U.vm) qK, qD, sF.moved (u := U) (U := U.calling g mk a) (Vm.Alike.refl U.vm) qZ, nF.same rfl qN⟩, va_recv hK hP (ci := 10) (q0 := b40) rfl (wld_o ct ad26 (xt G s22.1) y39.1 hc40 hk40 (by decide)), fun U hU hW => ⟨rfl, by rw [hU], by rw [hU]; exact hP, va_K.moved hW.alike hK, hD.weaken (fun _ _ _ _ => trivial), by rw [hU]; exact ((hZ.kept hS.2.1).narrow hf9).moved hW.alike, hN.warm hW⟩⟩ rfl rfl hl.1 rfl (lv_room (Nat.le_of_ble_eq_true rfl)) dX0_writeLevels_238 (room_s hT44 hbl)) hS (fun q _ h => hf9 q h) hf9 (fun ad45 t H locs ht hvm hw hB hz1 hk1 hS => ?_)
              have hn46 := hw
              obtain ⟨hP, hK9, hD9⟩ := hB
              rw [ht] at hP
              have hD := hD9.weaken (fun _ q _ h => hf9 q.1 h)
              rw [xt_xt, ← eL44] at hP hD
              refine W_cs (k := L44.length) (n := wt L44) (by rw [eL44]; exact (len_s s22.1 y41.1).symm) (by rw [eL44]; exact (wt_app s22.1 y41.1).symm) ?_
              have hT : L29 = L44 ++ w43.1 := by rw [hT44, eL44]
              have h2 : z28.2 = w43.2 := by rw [h2, ew43]
              have hl := lv_sub (l' := [(5, .int s22.2.1), (3, va_re ad26 (M.2 b2 9)), (2, .int x1), (0, .ref (ad26 a)), (1, .int p0)]) hl [0, 1, 2, 3, 4] rfl
              have e9 : ([(5, .int s22.2.1), (3, va_re ad26 (M.2 b2 9)), (2, .int x1), (0, .ref (ad26 a)), (1, .int p0)] : List (Nat × Value)) = [(5, .int s22.2.1), (3, va_re ad45 (M.2 b2 9)), (2, .int x1), (0, .ref (ad45 a)), (1, .int p0)] := (by first | rfl | simp only [agr_re hn46 hq42, hn46 a hc])
              rw [e9] at hl
              clear e9
              have hk : (xt G L44).2.1 a = 0 := by rw [eL44]; exact xt_k _ hc hk
              have hc : a < (xt G L44).1 := by rw [eL44]; exact xt_l _ hc
              have hk2 : (xt G L44).2.1 b2 = 9 := by rw [eL44]; exact xt_k _ hc2 hk2
              have hc2 : b2 < (xt G L44).1 := by rw [eL44]; exact xt_l _ hc2
              have hk4 : (xt G L44).2.1 b4 = 13 := by rw [eL44]; exact xt_k _ hc4 hk4
              have hc4 : b4 < (xt G L44).1 := by rw [eL44]; exact xt_l _ hc4
              have hk32 : (xt G L44).2.1 b32 = 9 := by rw [eL44]; exact xt_k _ hc32 hk32
              have hc32 : b32 < (xt G L44).1 := by rw [eL44]; exact xt_l _ hc32
              have hk34 : (xt G L44).2.1 b34 = 13 := by rw [eL44]; exact xt_k _ hc34 hk34
              have hc34 : b34 < (xt G L44).1 := by rw [eL44]; exact xt_l _ hc34
              have hk40 : (xt G L44).2.1 b40 = 10 := by rw [eL44]; exact xt_k _ hc40 hk40
              have hc40 : b40 < (xt G L44).1 := by rw [eL44]; exact xt_l _ hc40
              have hag := agr_t (xt_ge _ _) hag hn46
              obtain ⟨x47, ex47, hF⟩ := ltt_some hF
              refine lv_iinc (v := x47) (lv' := [(5, .int x47), (3, va_re ad45 (M.2 b2 9)), (2, .int x1), (0, .ref (ad45 a)), (1, .int p0)]) hx hb dX0_writeLevels_241 hl (k := 0) rfl (by rw [ex47]; rfl) (by decide) rfl (fun ls hl => ?_)
              refine lv_goto (tgt := 191) hx hb dX0_writeLevels_244 (by decide) ?_
              obtain rfl := Option.some.inj hF
              have e1 : L29 = L44 := by rw [hT]; exact List.append_nil _
              have e2 : z28.2 = .inl (L44, (x47, y41.2)) := h2
              rw [e2] at hwz28
              obtain ⟨r2, er2, hwz28⟩ := hwz28
              exact hwz28 ⟨u21 ++ z28.1, by show L44 = _; rw [← e1, eL29, eu21]; simp only [List.append_assoc]⟩ (by show L24 = L44 ++ r2; rw [eq21, er2, ← e1, eL29]; simp only [List.append_assoc]) _ hag _ _ _ hP hD hS (lv_sub hl [0, 1, 2, 3, 4] rfl)
        clear hF
        refine itrA_rule (fun (s17 : NN × Int32 × DD) (r49 : NN) => (∃ t, s17.1 = L14 ++ t) → L19 = s17.1 ++ r49 → ∀ (ad48 : Nat → Nat), agr G.1 ad ad48 → ∀ (H : Heap) (locs : List Loc) (ls : Array Slot), va_P D classes (wld ct ad48 (xt G s17.1) s17.2.2) H → va_D A (wld ct ad48 (xt G s17.1) s17.2.2) → va_S A s.heap H locs → lv_has ls 6 [(5, .int s17.2.1), (3, va_re ad48 (M.2 b2 9)), (2, .int x1), (0, .ref (ad48 a)), (1, .int p0)] → W p l e (headSpec wuX0_writeLevels ({ frames := 6, cells := y.1.length, slots := wt y.1, locals := 206 })).room s m ([.ref (ad a), .int p0] : List Value).toArray below meth c H locs (s17.1 : NN).length (wt s17.1) (MQ below (va_Qv (fun (u : Nat → Nat) => agr G.1 ad u) (fun u t => kE D ct u (xt G y.1) A y.2 t) A) ([.ref (ad a), .int p0] : List Value).toArray s y.1.length (wt y.1) A) (F0 m 142 ls [])) ?_ _ _ _ hy16 ⟨[], (List.append_nil _).symm⟩ eL19 _ hag _ _ _ hP hD hS (lv_sub hl [0, 1, 2, 3, 4] rfl)
        rintro s17 r49 ⟨z50, hF, ⟨t16, et16⟩, hwz50⟩ ⟨u16, eu16⟩ eq16 ad48 hag H locs ls hP hD hS hl
        try dsimp only at hF
        obtain ⟨L51, eL51⟩ : ∃ x, x = s17.1 ++ z50.1 := ⟨_, rfl⟩
        obtain ⟨w52, hw52⟩ : ∃ x, x = z50 := ⟨_, rfl⟩
        rw [← hw52] at hF
        have hbl : L51.length ≤ y.1.length ∧ wt L51 ≤ wt y.1 := room_d (show L19 = L51 ++ t16 by rw [eq16, et16, eL51]; simp only [List.append_assoc]) hbl19
        have hT : L51 = s17.1 ++ w52.1 := by rw [eL51, hw52]
        have h2 : z50.2 = w52.2 := by rw [hw52]
        have hk : (xt G s17.1).2.1 a = 0 := by rw [eu16]; exact xt_k _ hc hk
        have hc : a < (xt G s17.1).1 := by rw [eu16]; exact xt_l _ hc
        have hk2 : (xt G s17.1).2.1 b2 = 9 := by rw [eu16]; exact xt_k _ hc2 hk2
        have hc2 : b2 < (xt G s17.1).1 := by rw [eu16]; exact xt_l _ hc2
        have hk4 : (xt G s17.1).2.1 b4 = 13 := by rw [eu16]; exact xt_k _ hc4 hk4
        have hc4 : b4 < (xt G s17.1).1 := by rw [eu16]; exact xt_l _ hc4
        refine lv_iload hx hb dX0_writeLevels_142 (lv_at hl 0 rfl) ?_
        refine lv_iconst (v := (3 : Int32)) hx hb dX0_writeLevels_144 (by decide) ?_
        refine lv_icmp_ge (tgt := 187) hx hb dX0_writeLevels_145 (by decide) (fun c53 => ?_) (fun c53 => ?_)
        · rw [if_pos c53] at hF
          obtain rfl := Option.some.inj hF
          have e1 : L51 = s17.1 := by rw [hT]; exact List.append_nil _
          have e2 : z50.2 = .inr ((s17.2.1, s17.2.2)) := h2
          rw [e2] at hwz50
          obtain ⟨hw1, hw2⟩ := hwz50
          have e8 : L19 = s17.1 := by rw [eq16, hw2, ← eL51, e1]
          rw [e8] at K16
          try rw [← hw1] at K16
          exact K16 _ hag _ _ _ hP hD hS (lv_sub hl [1, 2, 3, 4] rfl)
        · rw [if_neg c53] at hF
          refine lv_aload_n hx hb dX0_writeLevels_148 rfl (lv_at hl 3 rfl) ?_
          refine va_get (D := D) (ci := 0) (v := va_re ad48 (s17.2.2.2 a 3)) (C := RX0) (T := TX0) (N := 21) hx hb hts (mus hf_X0) hown hK hP a (wld_o ct ad48 (xt G s17.1) s17.2.2 hc hk (by decide)) rfl 3 (by decide) (hts (.fieldLink RX0 36 "VideoSuite$Coder" "work" "LVideoSuite$Work;") (mu mw_817)) (fun _ h9 => h9) rfl dX0_writeLevels_149 ?_
          obtain ⟨b54, ho54, hc54, hk54, hF⟩ := dr_some hF
          refine W_st (st' := [.ref (ad48 b54)]) (by rw [va_some ho54]) ?_
          refine va_get (D := D) (ci := 9) (v := va_re ad48 (s17.2.2.2 b54 6)) (C := RX9) (T := TX9) (N := 20) hx hb hts (mus hf_X9) hown hK hP b54 (wld_o ct ad48 (xt G s17.1) s17.2.2 hc54 hk54 (by decide)) rfl 6 (by decide) (hts (.fieldLink RX0 216 "VideoSuite$Work" "info" "[I") (mu mw_445)) (fun _ h9 => h9) rfl dX0_writeLevels_152 ?_
          refine lv_iload_n hx hb dX0_writeLevels_155 rfl (lv_at hl 2 rfl) ?_
          refine lv_iconst (v := (4 : Int32)) hx hb dX0_writeLevels_156 (by decide) ?_
          refine lv_iadd hx hb dX0_writeLevels_157 ?_
          obtain ⟨x55, ex55, hF⟩ := ltt_some hF
          refine lv_topi (fun zx55 ezx55 => ?_)
          obtain rfl : x55 = zx55 := ex55.trans ezx55.symm
          obtain ⟨b56, ho56, hc56, hk56, hF⟩ := dr_some hF
          refine W_st (st' := [.int x55, .ref (ad48 b56)]) (by rw [va_some ho56]) ?_
          obtain ⟨hvc, hF⟩ := chk_some hF
          refine va_iald hx hb hK hP b56 1 (wld_i ct ad48 (xt G s17.1) s17.2.2 hc56 hk56) rfl hvc dX0_writeLevels_158 ?_
          obtain ⟨x57, ex57, hF⟩ := ltt_some hF
          refine lv_topi (fun zx57 ezx57 => ?_)
          obtain rfl : x57 = zx57 := ex57.trans ezx57.symm
          refine lv_if_le (tgt := 187) hx hb dX0_writeLevels_159 (by decide) (fun c58 => ?_) (fun c58 => ?_)
          · rw [if_pos c58] at hF
            obtain rfl := Option.some.inj hF
            have e1 : L51 = s17.1 := by rw [hT]; exact List.append_nil _
            have e2 : z50.2 = .inr ((s17.2.1, s17.2.2)) := h2
            rw [e2] at hwz50
            obtain ⟨hw1, hw2⟩ := hwz50
            have e8 : L19 = s17.1 := by rw [eq16, hw2, ← eL51, e1]
            rw [e8] at K16
            try rw [← hw1] at K16
            exact K16 _ hag _ _ _ hP hD hS (lv_sub hl [1, 2, 3, 4] rfl)
          · rw [if_neg c58] at hF
            refine lv_aload_n hx hb dX0_writeLevels_162 rfl (lv_at hl 3 rfl) ?_
            refine va_get (D := D) (ci := 0) (v := va_re ad48 (s17.2.2.2 a 2)) (C := RX0) (T := TX0) (N := 21) hx hb hts (mus hf_X0) hown hK hP a (wld_o ct ad48 (xt G s17.1) s17.2.2 hc hk (by decide)) rfl 2 (by decide) (hts (.fieldLink RX0 29 "VideoSuite$Coder" "writer" "LVideoSuite$Writer;") (mu mw_815)) (fun _ h9 => h9) rfl dX0_writeLevels_163 ?_
            refine lv_iconst (v := (4 : Int32)) hx hb dX0_writeLevels_166 (by decide) ?_
            refine lv_iconst (v := (4 : Int32)) hx hb dX0_writeLevels_167 (by decide) ?_
            refine lv_aloadq_n hx hb dX0_writeLevels_168 rfl (lv_at hl 1 rfl) ?_
            refine lv_iload_n hx hb dX0_writeLevels_169 rfl (lv_at hl 4 rfl) ?_
            refine lv_bipush (v := (16 : Int32)) hx hb dX0_writeLevels_170 (by decide) ?_
            refine lv_iload hx hb dX0_writeLevels_172 (lv_at hl 0 rfl) ?_
            refine lv_iadd hx hb dX0_writeLevels_174 ?_
            obtain ⟨x59, ex59, hF⟩ := ltt_some hF
            refine lv_topi (fun zx59 ezx59 => ?_)
            obtain rfl : x59 = zx59 := ex59.trans ezx59.symm
            obtain ⟨y60, hy60, hF⟩ := bnd_some hF
            have hf9 := wA_in hD hA9 hS
            refine va_calli (va_runS (As := [.int p0, .int x59]) (rest := [va_re ad48 (M.2 b2 9), .int (4 : Int32), .int (4 : Int32), va_re ad48 (s17.2.2.2 a 2)]) ⟨hx, hb, hml, hown, hts⟩ (kX9_levelAt l D ct ad48 Z (xt G s17.1) s17.2.2 H.size p0 x59 y60 hy60) (va_cwS 2 hts gX0_writeLevels_X9_levelAt rfl rfl rfl (by decide +kernel) ⟨Nat.le_of_ble_eq_true rfl, Nat.le_of_ble_eq_true rfl⟩) ⟨fun a U g mk q => by obtain ⟨q0, q1, qP, qK, qD, qZ, qN⟩ := q; exact ⟨q0, q1, qP, va_K.moved (u := U) (U := U.calling g mk a) (Vm.Alike.refl U.vm) qK, qD, sF.moved (u := U) (U := U.calling g mk a) (Vm.Alike.refl U.vm) qZ, nF.same rfl qN⟩, fun U hU hW => ⟨rfl, by rw [hU], by rw [hU]; exact hP, va_K.moved hW.alike hK, hD.weaken (fun _ _ _ _ => trivial), by rw [hU]; exact ((hZ.kept hS.2.1).narrow hf9).moved hW.alike, hN.warm hW⟩⟩ rfl rfl hl.1 rfl (lv_room (by simp only [List.map, va_re_cat]; exact Nat.le_of_ble_eq_true rfl)) dX0_writeLevels_175 (room_d hT hbl)) hS (fun q _ h => hf9 q h) hf9 (fun r u t H locs ht hvm hw hB hz1 hk1 hS => ?_)
            obtain ⟨hP, hK9, hD9⟩ := hB
            rw [ht] at hP
            try dsimp only at hw
            subst hw
            refine W_cs (k := (s17.1 : NN).length) (n := wt s17.1) rfl rfl ?_
            have hD := hD9.weaken (fun _ q _ h => hf9 q.1 h)
            obtain ⟨b61, ho61, hc61, hk61, hF⟩ := dr_some hF
            refine W_st (st' := [.int y60.2, va_re ad48 (M.2 b2 9), .int (4 : Int32), .int (4 : Int32), .ref (ad48 b61)]) (by rw [va_some ho61]) ?_
            obtain ⟨hq63, hF⟩ := chk_some hF
            obtain ⟨y62, hy62, hF⟩ := bnd_some hF
            obtain ⟨w64, hF, ew64⟩ := app_some hF
            obtain ⟨L65, eL65, hF⟩ := ltt_some hF
            have hT65 : L51 = (s17.1 ++ y62.1) ++ w64.1 := by rw [hT, ew64]; simp only [List.append_assoc]
            have hf9 := wA_in hD hA9 hS
            refine va_callv (va_runV (As := [.int (4 : Int32), .int (4 : Int32), va_re ad48 (M.2 b2 9), .int y60.2]) (rest := []) ⟨hx, hb, hml, hown, hts⟩ (kX10_levels l D ct ad48 Z (xt G s17.1) y60.1 _ b61 ((4 : Int32)) ((4 : Int32)) ((M.2 b2 9)) y60.2 y62 hc61 hk61 hy62) (cwV 4 hts gX0_writeLevels_X10_levels rfl rfl rfl (by decide +kernel) ⟨Nat.le_of_ble_eq_true rfl, Nat.le_of_ble_eq_true rfl⟩) ⟨fun a U g mk q => by obtain ⟨q0, q1, qP, qK, qD, qZ, qN⟩ := q; exact ⟨q0, q1, qP, va_K.moved (u := U) (U := U.calling g mk a) (Vm.Alike.refl U.vm) qK, qD, sF.moved (u := U) (U := U.calling g mk a) (Vm.Alike.refl U.vm) qZ, nF.same rfl qN⟩, va_recv hK hP (ci := 10) (q0 := b61) rfl (wld_o ct ad48 (xt G s17.1) y60.1 hc61 hk61 (by decide)), fun U hU hW => ⟨rfl, by rw [hU], by rw [hU]; exact hP, va_K.moved hW.alike hK, hD.weaken (fun _ _ _ _ => trivial), by rw [hU]; exact ((hZ.kept hS.2.1).narrow hf9).moved hW.alike, hN.warm hW⟩⟩ rfl rfl hl.1 rfl (lv_room (Nat.le_of_ble_eq_true rfl)) dX0_writeLevels_178 (room_s hT65 hbl)) hS (fun q _ h => hf9 q h) hf9 (fun ad66 t H locs ht hvm hw hB hz1 hk1 hS => ?_)
            have hn67 := hw
            obtain ⟨hP, hK9, hD9⟩ := hB
            rw [ht] at hP
            have hD := hD9.weaken (fun _ q _ h => hf9 q.1 h)
            rw [xt_xt, ← eL65] at hP hD
            refine W_cs (k := L65.length) (n := wt L65) (by rw [eL65]; exact (len_s s17.1 y62.1).symm) (by rw [eL65]; exact (wt_app s17.1 y62.1).symm) ?_
            have hT : L51 = L65 ++ w64.1 := by rw [hT65, eL65]
            have h2 : z50.2 = w64.2 := by rw [h2, ew64]
            have hl := lv_sub (l' := [(5, .int s17.2.1), (3, va_re ad48 (M.2 b2 9)), (2, .int x1), (0, .ref (ad48 a)), (1, .int p0)]) hl [0, 1, 2, 3, 4] rfl
            have e9 : ([(5, .int s17.2.1), (3, va_re ad48 (M.2 b2 9)), (2, .int x1), (0, .ref (ad48 a)), (1, .int p0)] : List (Nat × Value)) = [(5, .int s17.2.1), (3, va_re ad66 (M.2 b2 9)), (2, .int x1), (0, .ref (ad66 a)), (1, .int p0)] := (by first | rfl | simp only [agr_re hn67 hq63, hn67 a hc])
            rw [e9] at hl
            clear e9
            have hk : (xt G L65).2.1 a = 0 := by rw [eL65]; exact xt_k _ hc hk
            have hc : a < (xt G L65).1 := by rw [eL65]; exact xt_l _ hc
            have hk2 : (xt G L65).2.1 b2 = 9 := by rw [eL65]; exact xt_k _ hc2 hk2
            have hc2 : b2 < (xt G L65).1 := by rw [eL65]; exact xt_l _ hc2
            have hk4 : (xt G L65).2.1 b4 = 13 := by rw [eL65]; exact xt_k _ hc4 hk4
            have hc4 : b4 < (xt G L65).1 := by rw [eL65]; exact xt_l _ hc4
            have hk54 : (xt G L65).2.1 b54 = 9 := by rw [eL65]; exact xt_k _ hc54 hk54
            have hc54 : b54 < (xt G L65).1 := by rw [eL65]; exact xt_l _ hc54
            have hk56 : (xt G L65).2.1 b56 = 13 := by rw [eL65]; exact xt_k _ hc56 hk56
            have hc56 : b56 < (xt G L65).1 := by rw [eL65]; exact xt_l _ hc56
            have hk61 : (xt G L65).2.1 b61 = 10 := by rw [eL65]; exact xt_k _ hc61 hk61
            have hc61 : b61 < (xt G L65).1 := by rw [eL65]; exact xt_l _ hc61
            have hag := agr_t (xt_ge _ _) hag hn67
            obtain ⟨x68, ex68, hF⟩ := ltt_some hF
            refine lv_iinc (v := x68) (lv' := [(5, .int x68), (3, va_re ad66 (M.2 b2 9)), (2, .int x1), (0, .ref (ad66 a)), (1, .int p0)]) hx hb dX0_writeLevels_181 hl (k := 0) rfl (by rw [ex68]; rfl) (by decide) rfl (fun ls hl => ?_)
            refine lv_goto (tgt := 142) hx hb dX0_writeLevels_184 (by decide) ?_
            obtain rfl := Option.some.inj hF
            have e1 : L51 = L65 := by rw [hT]; exact List.append_nil _
            have e2 : z50.2 = .inl (L65, (x68, y62.2)) := h2
            rw [e2] at hwz50
            obtain ⟨r2, er2, hwz50⟩ := hwz50
            exact hwz50 ⟨u16 ++ z50.1, by show L65 = _; rw [← e1, eL51, eu16]; simp only [List.append_assoc]⟩ (by show L19 = L65 ++ r2; rw [eq16, er2, ← e1, eL51]; simp only [List.append_assoc]) _ hag _ _ _ hP hD hS (lv_sub hl [0, 1, 2, 3, 4] rfl)
      clear hF
      refine itrA_rule (fun (s12 : NN × Int32 × DD) (r70 : NN) => (∃ t, s12.1 = L9 ++ t) → L14 = s12.1 ++ r70 → ∀ (ad69 : Nat → Nat), agr G.1 ad ad69 → ∀ (H : Heap) (locs : List Loc) (ls : Array Slot), va_P D classes (wld ct ad69 (xt G s12.1) s12.2.2) H → va_D A (wld ct ad69 (xt G s12.1) s12.2.2) → va_S A s.heap H locs → lv_has ls 6 [(5, .int s12.2.1), (4, .int y6), (3, va_re ad69 (M.2 b2 9)), (2, .int x1), (0, .ref (ad69 a)), (1, .int p0)] → W p l e (headSpec wuX0_writeLevels ({ frames := 6, cells := y.1.length, slots := wt y.1, locals := 206 })).room s m ([.ref (ad a), .int p0] : List Value).toArray below meth c H locs (s12.1 : NN).length (wt s12.1) (MQ below (va_Qv (fun (u : Nat → Nat) => agr G.1 ad u) (fun u t => kE D ct u (xt G y.1) A y.2 t) A) ([.ref (ad a), .int p0] : List Value).toArray s y.1.length (wt y.1) A) (F0 m 68 ls [])) ?_ _ _ _ hy11 ⟨[], (List.append_nil _).symm⟩ eL14 _ hag _ _ _ hP hD hS (lv_sub hl [0, 1, 2, 3, 4, 5] rfl)
      rintro s12 r70 ⟨z71, hF, ⟨t11, et11⟩, hwz71⟩ ⟨u11, eu11⟩ eq11 ad69 hag H locs ls hP hD hS hl
      try dsimp only at hF
      obtain ⟨L72, eL72⟩ : ∃ x, x = s12.1 ++ z71.1 := ⟨_, rfl⟩
      obtain ⟨w73, hw73⟩ : ∃ x, x = z71 := ⟨_, rfl⟩
      rw [← hw73] at hF
      have hbl : L72.length ≤ y.1.length ∧ wt L72 ≤ wt y.1 := room_d (show L14 = L72 ++ t11 by rw [eq11, et11, eL72]; simp only [List.append_assoc]) hbl14
      have hT : L72 = s12.1 ++ w73.1 := by rw [eL72, hw73]
      have h2 : z71.2 = w73.2 := by rw [hw73]
      have hk : (xt G s12.1).2.1 a = 0 := by rw [eu11]; exact xt_k _ hc hk
      have hc : a < (xt G s12.1).1 := by rw [eu11]; exact xt_l _ hc
      have hk2 : (xt G s12.1).2.1 b2 = 9 := by rw [eu11]; exact xt_k _ hc2 hk2
      have hc2 : b2 < (xt G s12.1).1 := by rw [eu11]; exact xt_l _ hc2
      have hk4 : (xt G s12.1).2.1 b4 = 13 := by rw [eu11]; exact xt_k _ hc4 hk4
      have hc4 : b4 < (xt G s12.1).1 := by rw [eu11]; exact xt_l _ hc4
      refine lv_iload hx hb dX0_writeLevels_68 (lv_at hl 0 rfl) ?_
      refine lv_bipush (v := (16 : Int32)) hx hb dX0_writeLevels_70 (by decide) ?_
      refine lv_icmp_ge (tgt := 139) hx hb dX0_writeLevels_72 (by decide) (fun c74 => ?_) (fun c74 => ?_)
      · rw [if_pos c74] at hF
        obtain rfl := Option.some.inj hF
        have e1 : L72 = s12.1 := by rw [hT]; exact List.append_nil _
        have e2 : z71.2 = .inr ((s12.2.1, s12.2.2)) := h2
        rw [e2] at hwz71
        obtain ⟨hw1, hw2⟩ := hwz71
        have e8 : L14 = s12.1 := by rw [eq11, hw2, ← eL72, e1]
        rw [e8] at K11
        try rw [← hw1] at K11
        exact K11 _ hag _ _ _ hP hD hS (lv_sub hl [2, 3, 4, 5] rfl)
      · rw [if_neg c74] at hF
        refine lv_aload_n hx hb dX0_writeLevels_75 rfl (lv_at hl 4 rfl) ?_
        refine va_get (D := D) (ci := 0) (v := va_re ad69 (s12.2.2.2 a 3)) (C := RX0) (T := TX0) (N := 21) hx hb hts (mus hf_X0) hown hK hP a (wld_o ct ad69 (xt G s12.1) s12.2.2 hc hk (by decide)) rfl 3 (by decide) (hts (.fieldLink RX0 36 "VideoSuite$Coder" "work" "LVideoSuite$Work;") (mu mw_817)) (fun _ h9 => h9) rfl dX0_writeLevels_76 ?_
        obtain ⟨b75, ho75, hc75, hk75, hF⟩ := dr_some hF
        refine W_st (st' := [.ref (ad69 b75)]) (by rw [va_some ho75]) ?_
        refine va_get (D := D) (ci := 9) (v := va_re ad69 (s12.2.2.2 b75 6)) (C := RX9) (T := TX9) (N := 20) hx hb hts (mus hf_X9) hown hK hP b75 (wld_o ct ad69 (xt G s12.1) s12.2.2 hc75 hk75 (by decide)) rfl 6 (by decide) (hts (.fieldLink RX0 216 "VideoSuite$Work" "info" "[I") (mu mw_445)) (fun _ h9 => h9) rfl dX0_writeLevels_79 ?_
        refine lv_iload_n hx hb dX0_writeLevels_82 rfl (lv_at hl 3 rfl) ?_
        refine lv_iconst (v := (3 : Int32)) hx hb dX0_writeLevels_83 (by decide) ?_
        refine lv_iadd hx hb dX0_writeLevels_84 ?_
        obtain ⟨x76, ex76, hF⟩ := ltt_some hF
        refine lv_topi (fun zx76 ezx76 => ?_)
        obtain rfl : x76 = zx76 := ex76.trans ezx76.symm
        obtain ⟨b77, ho77, hc77, hk77, hF⟩ := dr_some hF
        refine W_st (st' := [.int x76, .ref (ad69 b77)]) (by rw [va_some ho77]) ?_
        obtain ⟨hvc, hF⟩ := chk_some hF
        refine va_iald hx hb hK hP b77 1 (wld_i ct ad69 (xt G s12.1) s12.2.2 hc77 hk77) rfl hvc dX0_writeLevels_85 ?_
        obtain ⟨x78, ex78, hF⟩ := ltt_some hF
        refine lv_topi (fun zx78 ezx78 => ?_)
        obtain rfl : x78 = zx78 := ex78.trans ezx78.symm
        refine lv_iload hx hb dX0_writeLevels_86 (lv_at hl 0 rfl) ?_
        refine lv_iconst (v := (4 : Int32)) hx hb dX0_writeLevels_88 (by decide) ?_
        refine lv_idiv hx hb dX0_writeLevels_89 (by decide) ?_
        obtain ⟨x79, ex79, hF⟩ := ltt_some hF
        refine lv_topi (fun zx79 ezx79 => ?_)
        obtain rfl : x79 = zx79 := ex79.trans ezx79.symm
        refine lv_ishr hx hb dX0_writeLevels_90 ?_
        obtain ⟨x80, ex80, hF⟩ := ltt_some hF
        refine lv_topi (fun zx80 ezx80 => ?_)
        obtain rfl : x80 = zx80 := ex80.trans ezx80.symm
        refine lv_iconst (v := (1 : Int32)) hx hb dX0_writeLevels_91 (by decide) ?_
        refine lv_iand hx hb dX0_writeLevels_92 ?_
        obtain ⟨x81, ex81, hF⟩ := ltt_some hF
        refine lv_topi (fun zx81 ezx81 => ?_)
        obtain rfl : x81 = zx81 := ex81.trans ezx81.symm
        refine lv_iconst (v := (1 : Int32)) hx hb dX0_writeLevels_93 (by decide) ?_
        obtain ⟨y82, hy82, hF⟩ := bnd_some hF
        obtain ⟨w83, hF, ew83⟩ := app_some hF
        obtain ⟨L84, eL84, hF⟩ := ltt_some hF
        have hT84 : L72 = (s12.1 ++ y82.1) ++ w83.1 := by rw [hT, ew83]; simp only [List.append_assoc]
        have hbl84 : L84.length ≤ y.1.length ∧ wt L84 ≤ wt y.1 := by rw [eL84]; exact room_d hT84 hbl
        have J82 : ∀ (ad85 : Nat → Nat), agr G.1 ad ad85 → ∀ (H : Heap) (locs : List Loc) (ls : Array Slot), va_P D classes (wld ct ad85 (xt G L84) y82.2) H → va_D A (wld ct ad85 (xt G L84) y82.2) → va_S A s.heap H locs → lv_has ls 6 [(5, .int s12.2.1), (4, .int y6), (3, va_re ad85 (M.2 b2 9)), (2, .int x1), (0, .ref (ad85 a)), (1, .int p0)] → W p l e (headSpec wuX0_writeLevels ({ frames := 6, cells := y.1.length, slots := wt y.1, locals := 206 })).room s m ([.ref (ad a), .int p0] : List Value).toArray below meth c H locs (L84 : NN).length (wt L84) (MQ below (va_Qv (fun (u : Nat → Nat) => agr G.1 ad u) (fun u t => kE D ct u (xt G y.1) A y.2 t) A) ([.ref (ad a), .int p0] : List Value).toArray s y.1.length (wt y.1) A) (F0 m 133 ls []) := by
          intro ad85 hag H locs ls hP hD hS hl
          have hT : L72 = L84 ++ w83.1 := by rw [hT84, eL84]
          have h2 : z71.2 = w83.2 := by rw [h2, ew83]
          have hk : (xt G L84).2.1 a = 0 := by rw [eL84]; exact xt_k _ hc hk
          have hc : a < (xt G L84).1 := by rw [eL84]; exact xt_l _ hc
          have hk2 : (xt G L84).2.1 b2 = 9 := by rw [eL84]; exact xt_k _ hc2 hk2
          have hc2 : b2 < (xt G L84).1 := by rw [eL84]; exact xt_l _ hc2
          have hk4 : (xt G L84).2.1 b4 = 13 := by rw [eL84]; exact xt_k _ hc4 hk4
          have hc4 : b4 < (xt G L84).1 := by rw [eL84]; exact xt_l _ hc4
          have hk75 : (xt G L84).2.1 b75 = 9 := by rw [eL84]; exact xt_k _ hc75 hk75
          have hc75 : b75 < (xt G L84).1 := by rw [eL84]; exact xt_l _ hc75
          have hk77 : (xt G L84).2.1 b77 = 13 := by rw [eL84]; exact xt_k _ hc77 hk77
          have hc77 : b77 < (xt G L84).1 := by rw [eL84]; exact xt_l _ hc77
          obtain ⟨x86, ex86, hF⟩ := ltt_some hF
          refine lv_iinc (v := x86) (lv' := [(5, .int x86), (4, .int y6), (3, va_re ad85 (M.2 b2 9)), (2, .int x1), (0, .ref (ad85 a)), (1, .int p0)]) hx hb dX0_writeLevels_133 hl (k := 0) rfl (by rw [ex86]; rfl) (by decide) rfl (fun ls hl => ?_)
          refine lv_goto (tgt := 68) hx hb dX0_writeLevels_136 (by decide) ?_
          obtain rfl := Option.some.inj hF
          have e1 : L72 = L84 := by rw [hT]; exact List.append_nil _
          have e2 : z71.2 = .inl (L84, (x86, y82.2)) := h2
          rw [e2] at hwz71
          obtain ⟨r2, er2, hwz71⟩ := hwz71
          exact hwz71 ⟨u11 ++ z71.1, by show L84 = _; rw [← e1, eL72, eu11]; simp only [List.append_assoc]⟩ (by show L14 = L84 ++ r2; rw [eq11, er2, ← e1, eL72]; simp only [List.append_assoc]) _ hag _ _ _ hP hD hS (lv_sub hl [0, 1, 2, 3, 4, 5] rfl)
        clear hF
        obtain ⟨w87, hw87⟩ : ∃ z, z = y82 := ⟨_, rfl⟩
        have hF := hy82
        rw [← hw87] at hF
        clear hy82
        have hT : L84 = s12.1 ++ w87.1 := by rw [eL84, hw87]
        have h2 : y82.2 = w87.2 := by rw [hw87]
        have hbl := hbl84
        refine lv_icmp_ne (tgt := 133) hx hb dX0_writeLevels_94 (by decide) (fun c88 => ?_) (fun c88 => ?_)
        · rw [if_neg c88] at hF
          obtain rfl := Option.some.inj hF
          have e1 : L84 = s12.1 := by rw [hT]; exact List.append_nil _
          have e2 : y82.2 = s12.2.2 := h2
          rw [e1] at J82
          try rw [e2] at J82
          exact J82 _ hag _ _ _ hP hD hS (lv_sub hl [0, 1, 2, 3, 4, 5] rfl)
        · rw [if_pos c88] at hF
          refine lv_aload_n hx hb dX0_writeLevels_97 rfl (lv_at hl 4 rfl) ?_
          refine va_get (D := D) (ci := 0) (v := va_re ad69 (s12.2.2.2 a 2)) (C := RX0) (T := TX0) (N := 21) hx hb hts (mus hf_X0) hown hK hP a (wld_o ct ad69 (xt G s12.1) s12.2.2 hc hk (by decide)) rfl 2 (by decide) (hts (.fieldLink RX0 29 "VideoSuite$Coder" "writer" "LVideoSuite$Writer;") (mu mw_815)) (fun _ h9 => h9) rfl dX0_writeLevels_98 ?_
          refine lv_aload_n hx hb dX0_writeLevels_101 rfl (lv_at hl 4 rfl) ?_
          refine va_get (D := D) (ci := 0) (v := va_re ad69 (s12.2.2.2 a 3)) (C := RX0) (T := TX0) (N := 21) hx hb hts (mus hf_X0) hown hK hP a (wld_o ct ad69 (xt G s12.1) s12.2.2 hc hk (by decide)) rfl 3 (by decide) (hts (.fieldLink RX0 36 "VideoSuite$Coder" "work" "LVideoSuite$Work;") (mu mw_817)) (fun _ h9 => h9) rfl dX0_writeLevels_102 ?_
          refine lv_iload_n hx hb dX0_writeLevels_105 rfl (lv_at hl 5 rfl) ?_
          refine lv_iload hx hb dX0_writeLevels_106 (lv_at hl 0 rfl) ?_
          refine W_st (st' := [.int s12.2.1, .int p0, .ref (ad69 b75), va_re ad69 (s12.2.2.2 a 2)]) (by rw [va_some ho75]) ?_
          obtain ⟨y89, hy89, hF⟩ := bnd_some hF
          have hf9 := wA_in hD hA9 hS
          refine va_calli (va_runV (As := [.int p0, .int s12.2.1]) (rest := [va_re ad69 (s12.2.2.2 a 2)]) ⟨hx, hb, hml, hown, hts⟩ (kX9_tokenTable l D ct ad69 Z (xt G s12.1) s12.2.2 H.size b75 p0 s12.2.1 y89 hc75 hk75 hy89) (cwV 2 hts gX0_writeLevels_X9_tokenTable rfl rfl rfl (by decide +kernel) ⟨Nat.le_of_ble_eq_true rfl, Nat.le_of_ble_eq_true rfl⟩) ⟨fun a U g mk q => by obtain ⟨q0, q1, qP, qK, qD, qZ, qN⟩ := q; exact ⟨q0, q1, qP, va_K.moved (u := U) (U := U.calling g mk a) (Vm.Alike.refl U.vm) qK, qD, sF.moved (u := U) (U := U.calling g mk a) (Vm.Alike.refl U.vm) qZ, nF.same rfl qN⟩, va_recv hK hP (ci := 9) (q0 := b75) rfl (wld_o ct ad69 (xt G s12.1) s12.2.2 hc75 hk75 (by decide)), fun U hU hW => ⟨rfl, by rw [hU], by rw [hU]; exact hP, va_K.moved hW.alike hK, hD.weaken (fun _ _ _ _ => trivial), by rw [hU]; exact ((hZ.kept hS.2.1).narrow hf9).moved hW.alike, hN.warm hW⟩⟩ rfl rfl hl.1 rfl (lv_room (by simp only [List.map, va_re_cat]; exact Nat.le_of_ble_eq_true rfl)) dX0_writeLevels_108 (room_d hT hbl)) hS (fun q _ h => hf9 q h) hf9 (fun r u t H locs ht hvm hw hB hz1 hk1 hS => ?_)
          obtain ⟨hP, hK9, hD9⟩ := hB
          rw [ht] at hP
          try dsimp only at hw
          subst hw
          refine W_cs (k := (s12.1 : NN).length) (n := wt s12.1) rfl rfl ?_
          have hD := hD9.weaken (fun _ q _ h => hf9 q.1 h)
          refine lv_iload hx hb dX0_writeLevels_111 (lv_at hl 1 rfl) ?_
          obtain ⟨y90, hy90, hF⟩ := bnd_some hF
          have J90 : ∀ (H : Heap) (locs : List Loc) (ls : Array Slot), va_P D classes (wld ct ad69 (xt G s12.1) y89.1) H → va_D A (wld ct ad69 (xt G s12.1) y89.1) → va_S A s.heap H locs → lv_has ls 6 [(5, .int s12.2.1), (4, .int y6), (3, va_re ad69 (M.2 b2 9)), (2, .int x1), (0, .ref (ad69 a)), (1, .int p0)] → W p l e (headSpec wuX0_writeLevels ({ frames := 6, cells := y.1.length, slots := wt y.1, locals := 206 })).room s m ([.ref (ad a), .int p0] : List Value).toArray below meth c H locs (s12.1 : NN).length (wt s12.1) (MQ below (va_Qv (fun (u : Nat → Nat) => agr G.1 ad u) (fun u t => kE D ct u (xt G y.1) A y.2 t) A) ([.ref (ad a), .int p0] : List Value).toArray s y.1.length (wt y.1) A) (F0 m 123 ls [.int y90, .int y89.2, va_re ad69 (s12.2.2.2 a 2)]) := by
            intro H locs ls hP hD hS hl
            refine lv_aloadq_n hx hb dX0_writeLevels_123 rfl (lv_at hl 2 rfl) ?_
            refine lv_iload_n hx hb dX0_writeLevels_124 rfl (lv_at hl 5 rfl) ?_
            refine lv_iload hx hb dX0_writeLevels_125 (lv_at hl 0 rfl) ?_
            obtain ⟨y91, hy91, hF⟩ := bnd_some hF
            have hf9 := wA_in hD hA9 hS
            refine va_calli (va_runS (As := [.int p0, .int s12.2.1]) (rest := [va_re ad69 (M.2 b2 9), .int y90, .int y89.2, va_re ad69 (s12.2.2.2 a 2)]) ⟨hx, hb, hml, hown, hts⟩ (kX9_levelAt l D ct ad69 Z (xt G s12.1) y89.1 H.size p0 s12.2.1 y91 hy91) (va_cwS 2 hts gX0_writeLevels_X9_levelAt rfl rfl rfl (by decide +kernel) ⟨Nat.le_of_ble_eq_true rfl, Nat.le_of_ble_eq_true rfl⟩) ⟨fun a U g mk q => by obtain ⟨q0, q1, qP, qK, qD, qZ, qN⟩ := q; exact ⟨q0, q1, qP, va_K.moved (u := U) (U := U.calling g mk a) (Vm.Alike.refl U.vm) qK, qD, sF.moved (u := U) (U := U.calling g mk a) (Vm.Alike.refl U.vm) qZ, nF.same rfl qN⟩, fun U hU hW => ⟨rfl, by rw [hU], by rw [hU]; exact hP, va_K.moved hW.alike hK, hD.weaken (fun _ _ _ _ => trivial), by rw [hU]; exact ((hZ.kept hS.2.1).narrow hf9).moved hW.alike, hN.warm hW⟩⟩ rfl rfl hl.1 rfl (lv_room (by simp only [List.map, va_re_cat]; exact Nat.le_of_ble_eq_true rfl)) dX0_writeLevels_127 (room_d hT hbl)) hS (fun q _ h => hf9 q h) hf9 (fun r u t H locs ht hvm hw hB hz1 hk1 hS => ?_)
            obtain ⟨hP, hK9, hD9⟩ := hB
            rw [ht] at hP
            try dsimp only at hw
            subst hw
            refine W_cs (k := (s12.1 : NN).length) (n := wt s12.1) rfl rfl ?_
            have hD := hD9.weaken (fun _ q _ h => hf9 q.1 h)
            obtain ⟨b92, ho92, hc92, hk92, hF⟩ := dr_some hF
            refine W_st (st' := [.int y91.2, va_re ad69 (M.2 b2 9), .int y90, .int y89.2, .ref (ad69 b92)]) (by rw [va_some ho92]) ?_
            obtain ⟨hq94, hF⟩ := chk_some hF
            obtain ⟨y93, hy93, hF⟩ := bnd_some hF
            obtain ⟨w95, hF, ew95⟩ := app_some hF
            obtain ⟨L96, eL96, hF⟩ := ltt_some hF
            have hT96 : L84 = (s12.1 ++ y93.1) ++ w95.1 := by rw [hT, ew95]; simp only [List.append_assoc]
            have hf9 := wA_in hD hA9 hS
            refine va_callv (va_runV (As := [.int y89.2, .int y90, va_re ad69 (M.2 b2 9), .int y91.2]) (rest := []) ⟨hx, hb, hml, hown, hts⟩ (kX10_levels l D ct ad69 Z (xt G s12.1) y91.1 _ b92 y89.2 y90 ((M.2 b2 9)) y91.2 y93 hc92 hk92 hy93) (cwV 4 hts gX0_writeLevels_X10_levels rfl rfl rfl (by decide +kernel) ⟨Nat.le_of_ble_eq_true rfl, Nat.le_of_ble_eq_true rfl⟩) ⟨fun a U g mk q => by obtain ⟨q0, q1, qP, qK, qD, qZ, qN⟩ := q; exact ⟨q0, q1, qP, va_K.moved (u := U) (U := U.calling g mk a) (Vm.Alike.refl U.vm) qK, qD, sF.moved (u := U) (U := U.calling g mk a) (Vm.Alike.refl U.vm) qZ, nF.same rfl qN⟩, va_recv hK hP (ci := 10) (q0 := b92) rfl (wld_o ct ad69 (xt G s12.1) y91.1 hc92 hk92 (by decide)), fun U hU hW => ⟨rfl, by rw [hU], by rw [hU]; exact hP, va_K.moved hW.alike hK, hD.weaken (fun _ _ _ _ => trivial), by rw [hU]; exact ((hZ.kept hS.2.1).narrow hf9).moved hW.alike, hN.warm hW⟩⟩ rfl rfl hl.1 rfl (lv_room (Nat.le_of_ble_eq_true rfl)) dX0_writeLevels_130 (room_s hT96 hbl)) hS (fun q _ h => hf9 q h) hf9 (fun ad97 t H locs ht hvm hw hB hz1 hk1 hS => ?_)
            have hn98 := hw
            obtain ⟨hP, hK9, hD9⟩ := hB
            rw [ht] at hP
            have hD := hD9.weaken (fun _ q _ h => hf9 q.1 h)
            rw [xt_xt, ← eL96] at hP hD
            refine W_cs (k := L96.length) (n := wt L96) (by rw [eL96]; exact (len_s s12.1 y93.1).symm) (by rw [eL96]; exact (wt_app s12.1 y93.1).symm) ?_
            have hT : L84 = L96 ++ w95.1 := by rw [hT96, eL96]
            have h2 : y82.2 = w95.2 := by rw [h2, ew95]
            have hl := lv_sub (l' := [(5, .int s12.2.1), (4, .int y6), (3, va_re ad69 (M.2 b2 9)), (2, .int x1), (0, .ref (ad69 a)), (1, .int p0)]) hl [0, 1, 2, 3, 4, 5] rfl
            have e9 : ([(5, .int s12.2.1), (4, .int y6), (3, va_re ad69 (M.2 b2 9)), (2, .int x1), (0, .ref (ad69 a)), (1, .int p0)] : List (Nat × Value)) = [(5, .int s12.2.1), (4, .int y6), (3, va_re ad97 (M.2 b2 9)), (2, .int x1), (0, .ref (ad97 a)), (1, .int p0)] := (by first | rfl | simp only [agr_re hn98 hq94, hn98 a hc])
            rw [e9] at hl
            clear e9
            have hk : (xt G L96).2.1 a = 0 := by rw [eL96]; exact xt_k _ hc hk
            have hc : a < (xt G L96).1 := by rw [eL96]; exact xt_l _ hc
            have hk2 : (xt G L96).2.1 b2 = 9 := by rw [eL96]; exact xt_k _ hc2 hk2
            have hc2 : b2 < (xt G L96).1 := by rw [eL96]; exact xt_l _ hc2
            have hk4 : (xt G L96).2.1 b4 = 13 := by rw [eL96]; exact xt_k _ hc4 hk4
            have hc4 : b4 < (xt G L96).1 := by rw [eL96]; exact xt_l _ hc4
            have hk75 : (xt G L96).2.1 b75 = 9 := by rw [eL96]; exact xt_k _ hc75 hk75
            have hc75 : b75 < (xt G L96).1 := by rw [eL96]; exact xt_l _ hc75
            have hk77 : (xt G L96).2.1 b77 = 13 := by rw [eL96]; exact xt_k _ hc77 hk77
            have hc77 : b77 < (xt G L96).1 := by rw [eL96]; exact xt_l _ hc77
            have hk92 : (xt G L96).2.1 b92 = 10 := by rw [eL96]; exact xt_k _ hc92 hk92
            have hc92 : b92 < (xt G L96).1 := by rw [eL96]; exact xt_l _ hc92
            have hag := agr_t (xt_ge _ _) hag hn98
            obtain rfl := Option.some.inj hF
            have e1 : L84 = L96 := by rw [hT]; exact List.append_nil _
            have e2 : y82.2 = y93.2 := h2
            rw [e1] at J82
            try rw [e2] at J82
            exact J82 _ hag _ _ _ hP hD hS (lv_sub hl [0, 1, 2, 3, 4, 5] rfl)
          clear hF
          have hF := hy90
          clear hy90
          refine lv_if_eq (tgt := 121) hx hb dX0_writeLevels_113 (by decide) (fun c99 => ?_) (fun c99 => ?_)
          · rw [if_pos c99] at hF
            refine lv_bipush (v := (16 : Int32)) hx hb dX0_writeLevels_121 (by decide) ?_
            obtain rfl := Option.some.inj hF
            exact J90 _ _ _ hP hD hS (lv_sub hl [0, 1, 2, 3, 4, 5] rfl)
          · rw [if_neg c99] at hF
            refine lv_bipush (v := (15 : Int32)) hx hb dX0_writeLevels_116 (by decide) ?_
            refine lv_goto (tgt := 123) hx hb dX0_writeLevels_118 (by decide) ?_
            obtain rfl := Option.some.inj hF
            exact J90 _ _ _ hP hD hS (lv_sub hl [0, 1, 2, 3, 4, 5] rfl)
    clear hF
    obtain ⟨w100, hw100⟩ : ∃ z, z = y7 := ⟨_, rfl⟩
    have hF := hy7
    rw [← hw100] at hF
    clear hy7
    have hT : L9 = [] ++ w100.1 := by rw [eL9, hw100]
    have h2 : y7.2 = w100.2 := by rw [hw100]
    have hbl := hbl9
    refine lv_if_eq (tgt := 65) hx hb dX0_writeLevels_37 (by decide) (fun c101 => ?_) (fun c101 => ?_)
    · rw [if_pos c101] at hF
      obtain rfl := Option.some.inj hF
      have e1 : L9 = [] := by rw [hT]; exact List.append_nil _
      have e2 : y7.2 = M := h2
      rw [e1] at J7
      try rw [e2] at J7
      exact J7 _ hag _ _ _ hP hD hS (lv_sub hl [0, 1, 2, 3, 4] rfl)
    · rw [if_neg c101] at hF
      refine lv_aload_n hx hb dX0_writeLevels_40 rfl (lv_at hl 3 rfl) ?_
      refine va_get (D := D) (ci := 0) (v := va_re ad (M.2 a 2)) (C := RX0) (T := TX0) (N := 21) hx hb hts (mus hf_X0) hown hK hP a (wld_o ct ad (xt G []) M hc hk (by decide)) rfl 2 (by decide) (hts (.fieldLink RX0 29 "VideoSuite$Coder" "writer" "LVideoSuite$Writer;") (mu mw_815)) (fun _ h9 => h9) rfl dX0_writeLevels_41 ?_
      refine lv_aload_n hx hb dX0_writeLevels_44 rfl (lv_at hl 3 rfl) ?_
      refine va_get (D := D) (ci := 0) (v := va_re ad (M.2 a 3)) (C := RX0) (T := TX0) (N := 21) hx hb hts (mus hf_X0) hown hK hP a (wld_o ct ad (xt G []) M hc hk (by decide)) rfl 3 (by decide) (hts (.fieldLink RX0 36 "VideoSuite$Coder" "work" "LVideoSuite$Work;") (mu mw_817)) (fun _ h9 => h9) rfl dX0_writeLevels_45 ?_
      refine lv_iload_n hx hb dX0_writeLevels_48 rfl (lv_at hl 4 rfl) ?_
      refine lv_iconst (v := (0 : Int32)) hx hb dX0_writeLevels_49 (by decide) ?_
      refine W_st (st' := [.int (0 : Int32), .int p0, .ref (ad b2), va_re ad (M.2 a 2)]) (by rw [va_some ho2]) ?_
      obtain ⟨y102, hy102, hF⟩ := bnd_some hF
      have hf9 := wA_in hD hA9 hS
      refine va_calli (va_runV (As := [.int p0, .int (0 : Int32)]) (rest := [va_re ad (M.2 a 2)]) ⟨hx, hb, hml, hown, hts⟩ (kX9_tokenTable l D ct ad Z (xt G []) M H.size b2 p0 ((0 : Int32)) y102 hc2 hk2 hy102) (cwV 2 hts gX0_writeLevels_X9_tokenTable rfl rfl rfl (by decide +kernel) ⟨Nat.le_of_ble_eq_true rfl, Nat.le_of_ble_eq_true rfl⟩) ⟨fun a U g mk q => by obtain ⟨q0, q1, qP, qK, qD, qZ, qN⟩ := q; exact ⟨q0, q1, qP, va_K.moved (u := U) (U := U.calling g mk a) (Vm.Alike.refl U.vm) qK, qD, sF.moved (u := U) (U := U.calling g mk a) (Vm.Alike.refl U.vm) qZ, nF.same rfl qN⟩, va_recv hK hP (ci := 9) (q0 := b2) rfl (wld_o ct ad (xt G []) M hc2 hk2 (by decide)), fun U hU hW => ⟨rfl, by rw [hU], by rw [hU]; exact hP, va_K.moved hW.alike hK, hD.weaken (fun _ _ _ _ => trivial), by rw [hU]; exact ((hZ.kept hS.2.1).narrow hf9).moved hW.alike, hN.warm hW⟩⟩ rfl rfl hl.1 rfl (lv_room (by simp only [List.map, va_re_cat]; exact Nat.le_of_ble_eq_true rfl)) dX0_writeLevels_50 (room_d hT hbl)) hS (fun q _ h => hf9 q h) hf9 (fun r u t H locs ht hvm hw hB hz1 hk1 hS => ?_)
      obtain ⟨hP, hK9, hD9⟩ := hB
      rw [ht] at hP
      try dsimp only at hw
      subst hw
      refine W_cs (k := ([] : NN).length) (n := wt []) rfl rfl ?_
      have hD := hD9.weaken (fun _ q _ h => hf9 q.1 h)
      refine lv_bipush (v := (16 : Int32)) hx hb dX0_writeLevels_53 (by decide) ?_
      refine lv_aloadq_n hx hb dX0_writeLevels_55 rfl (lv_at hl 1 rfl) ?_
      refine lv_iload_n hx hb dX0_writeLevels_56 rfl (lv_at hl 4 rfl) ?_
      refine lv_bipush (v := (16 : Int32)) hx hb dX0_writeLevels_57 (by decide) ?_
      obtain ⟨y103, hy103, hF⟩ := bnd_some hF
      have hf9 := wA_in hD hA9 hS
      refine va_calli (va_runS (As := [.int p0, .int (16 : Int32)]) (rest := [va_re ad (M.2 b2 9), .int (16 : Int32), .int y102.2, va_re ad (M.2 a 2)]) ⟨hx, hb, hml, hown, hts⟩ (kX9_levelAt l D ct ad Z (xt G []) y102.1 H.size p0 ((16 : Int32)) y103 hy103) (va_cwS 2 hts gX0_writeLevels_X9_levelAt rfl rfl rfl (by decide +kernel) ⟨Nat.le_of_ble_eq_true rfl, Nat.le_of_ble_eq_true rfl⟩) ⟨fun a U g mk q => by obtain ⟨q0, q1, qP, qK, qD, qZ, qN⟩ := q; exact ⟨q0, q1, qP, va_K.moved (u := U) (U := U.calling g mk a) (Vm.Alike.refl U.vm) qK, qD, sF.moved (u := U) (U := U.calling g mk a) (Vm.Alike.refl U.vm) qZ, nF.same rfl qN⟩, fun U hU hW => ⟨rfl, by rw [hU], by rw [hU]; exact hP, va_K.moved hW.alike hK, hD.weaken (fun _ _ _ _ => trivial), by rw [hU]; exact ((hZ.kept hS.2.1).narrow hf9).moved hW.alike, hN.warm hW⟩⟩ rfl rfl hl.1 rfl (lv_room (by simp only [List.map, va_re_cat]; exact Nat.le_of_ble_eq_true rfl)) dX0_writeLevels_59 (room_d hT hbl)) hS (fun q _ h => hf9 q h) hf9 (fun r u t H locs ht hvm hw hB hz1 hk1 hS => ?_)
      obtain ⟨hP, hK9, hD9⟩ := hB
      rw [ht] at hP
      try dsimp only at hw
      subst hw
      refine W_cs (k := ([] : NN).length) (n := wt []) rfl rfl ?_
      have hD := hD9.weaken (fun _ q _ h => hf9 q.1 h)
      obtain ⟨b104, ho104, hc104, hk104, hF⟩ := dr_some hF
      refine W_st (st' := [.int y103.2, va_re ad (M.2 b2 9), .int (16 : Int32), .int y102.2, .ref (ad b104)]) (by rw [va_some ho104]) ?_
      obtain ⟨hq106, hF⟩ := chk_some hF
      obtain ⟨y105, hy105, hF⟩ := bnd_some hF
      obtain ⟨w107, hF, ew107⟩ := app_some hF
      obtain ⟨L108, eL108, hF⟩ := ltt_some hF
      have hT108 : L9 = ([] ++ y105.1) ++ w107.1 := by rw [hT, ew107]; simp only [List.append_assoc]
      have hf9 := wA_in hD hA9 hS
      refine va_callv (va_runV (As := [.int y102.2, .int (16 : Int32), va_re ad (M.2 b2 9), .int y103.2]) (rest := []) ⟨hx, hb, hml, hown, hts⟩ (kX10_levels l D ct ad Z (xt G []) y103.1 _ b104 y102.2 ((16 : Int32)) ((M.2 b2 9)) y103.2 y105 hc104 hk104 hy105) (cwV 4 hts gX0_writeLevels_X10_levels rfl rfl rfl (by decide +kernel) ⟨Nat.le_of_ble_eq_true rfl, Nat.le_of_ble_eq_true rfl⟩) ⟨fun a U g mk q => by obtain ⟨q0, q1, qP, qK, qD, qZ, qN⟩ := q; exact ⟨q0, q1, qP, va_K.moved (u := U) (U := U.calling g mk a) (Vm.Alike.refl U.vm) qK, qD, sF.moved (u := U) (U := U.calling g mk a) (Vm.Alike.refl U.vm) qZ, nF.same rfl qN⟩, va_recv hK hP (ci := 10) (q0 := b104) rfl (wld_o ct ad (xt G []) y103.1 hc104 hk104 (by decide)), fun U hU hW => ⟨rfl, by rw [hU], by rw [hU]; exact hP, va_K.moved hW.alike hK, hD.weaken (fun _ _ _ _ => trivial), by rw [hU]; exact ((hZ.kept hS.2.1).narrow hf9).moved hW.alike, hN.warm hW⟩⟩ rfl rfl hl.1 rfl (lv_room (Nat.le_of_ble_eq_true rfl)) dX0_writeLevels_62 (room_s hT108 hbl)) hS (fun q _ h => hf9 q h) hf9 (fun ad109 t H locs ht hvm hw hB hz1 hk1 hS => ?_)
      have hn110 := hw
      obtain ⟨hP, hK9, hD9⟩ := hB
      rw [ht] at hP
      have hD := hD9.weaken (fun _ q _ h => hf9 q.1 h)
      rw [xt_xt, ← eL108] at hP hD
      refine W_cs (k := L108.length) (n := wt L108) (by rw [eL108]; exact (len_s [] y105.1).symm) (by rw [eL108]; exact (wt_app [] y105.1).symm) ?_
      have hT : L9 = L108 ++ w107.1 := by rw [hT108, eL108]
      have h2 : y7.2 = w107.2 := by rw [h2, ew107]
      have hl := lv_sub (l' := [(4, .int y6), (3, va_re ad (M.2 b2 9)), (2, .int x1), (0, .ref (ad a)), (1, .int p0)]) hl [0, 1, 2, 3, 4] rfl
      have e9 : ([(4, .int y6), (3, va_re ad (M.2 b2 9)), (2, .int x1), (0, .ref (ad a)), (1, .int p0)] : List (Nat × Value)) = [(4, .int y6), (3, va_re ad109 (M.2 b2 9)), (2, .int x1), (0, .ref (ad109 a)), (1, .int p0)] := (by first | rfl | simp only [agr_re hn110 hq106, hn110 a hc])
      rw [e9] at hl
      clear e9
      have hk : (xt G L108).2.1 a = 0 := by rw [eL108]; exact xt_k _ hc hk
      have hc : a < (xt G L108).1 := by rw [eL108]; exact xt_l _ hc
      have hk2 : (xt G L108).2.1 b2 = 9 := by rw [eL108]; exact xt_k _ hc2 hk2
      have hc2 : b2 < (xt G L108).1 := by rw [eL108]; exact xt_l _ hc2
      have hk4 : (xt G L108).2.1 b4 = 13 := by rw [eL108]; exact xt_k _ hc4 hk4
      have hc4 : b4 < (xt G L108).1 := by rw [eL108]; exact xt_l _ hc4
      have hk104 : (xt G L108).2.1 b104 = 10 := by rw [eL108]; exact xt_k _ hc104 hk104
      have hc104 : b104 < (xt G L108).1 := by rw [eL108]; exact xt_l _ hc104
      have hag := agr_t (xt_ge _ _) hag hn110
      obtain rfl := Option.some.inj hF
      have e1 : L9 = L108 := by rw [hT]; exact List.append_nil _
      have e2 : y7.2 = y105.2 := h2
      rw [e1] at J7
      try rw [e2] at J7
      exact J7 _ hag _ _ _ hP hD hS (lv_sub hl [0, 1, 2, 3, 4] rfl)
  clear hF
  have hF := hy6
  clear hy6
  refine lv_icmp_ne (tgt := 32) hx hb dX0_writeLevels_25 (by decide) (fun c111 => ?_) (fun c111 => ?_)
  · rw [if_neg c111] at hF
    refine lv_iconst (v := (0 : Int32)) hx hb dX0_writeLevels_32 (by decide) ?_
    obtain rfl := Option.some.inj hF
    exact J6 _ _ _ hP hD hS (lv_sub hl [0, 1, 2, 3] rfl)
  · rw [if_pos c111] at hF
    refine lv_iconst (v := (1 : Int32)) hx hb dX0_writeLevels_28 (by decide) ?_
    refine lv_goto (tgt := 33) hx hb dX0_writeLevels_29 (by decide) ?_
    obtain rfl := Option.some.inj hF
    exact J6 _ _ _ hP hD hS (lv_sub hl [0, 1, 2, 3] rfl)
