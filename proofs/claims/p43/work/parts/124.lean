theorem ggX1_endBlock_X9_endBlock : GoodIn wsX1_endBlock wsX9_endBlock := goodIn_r _ [9, 10, 11, 12, 13, 14, 15, 16, 17, 18, 19, 20, 21, 22, 49, 50, 51, 52, 53, 54, 55, 56, 57, 58, 59, 60, 61, 62, 63, 64, 65, 66, 67, 68, 45, 46, 47, 48, 69, 70, 71, 72, 73, 74, 75, 76, 77, 78, 79, 80, 81, 82, 83, 84, 85, 86] (by decide +kernel) (by decide +kernel)
set_option maxRecDepth 20000 in
theorem gX1_endBlock_X9_endBlock : GoodIn wsX1_endBlock (wsV RX1 379 RX9 yX9_endBlock wsX9_endBlock) := goodIn_app (goodIn_of _ (by decide +kernel)) ggX1_endBlock_X9_endBlock
theorem dX1_endBlock_0 : decode cX1_endBlock 0 = .ok (.aload_n 0, 1) := by decide +kernel
theorem dX1_endBlock_1 : decode cX1_endBlock 1 = .ok (.getfield 28, 3) := by decide +kernel
theorem dX1_endBlock_4 : decode cX1_endBlock 4 = .ok (.iload_n 1, 1) := by decide +kernel
theorem dX1_endBlock_5 : decode cX1_endBlock 5 = .ok (.invokevirtual 379, 3) := by decide +kernel
theorem dX1_endBlock_8 : decode cX1_endBlock 8 = .ok (.aload_n 0, 1) := by decide +kernel
theorem dX1_endBlock_9 : decode cX1_endBlock 9 = .ok (.getfield 72, 3) := by decide +kernel
theorem dX1_endBlock_12 : decode cX1_endBlock 12 = .ok (.getfield 212, 3) := by decide +kernel
theorem dX1_endBlock_15 : decode cX1_endBlock 15 = .ok (.bipush 16, 2) := by decide +kernel
theorem dX1_endBlock_17 : decode cX1_endBlock 17 = .ok (.dup2, 1) := by decide +kernel
theorem dX1_endBlock_18 : decode cX1_endBlock 18 = .ok (.iaload, 1) := by decide +kernel
theorem dX1_endBlock_19 : decode cX1_endBlock 19 = .ok (.iconst 1, 1) := by decide +kernel
theorem dX1_endBlock_20 : decode cX1_endBlock 20 = .ok (.iadd, 1) := by decide +kernel
theorem dX1_endBlock_21 : decode cX1_endBlock 21 = .ok (.iastore, 1) := by decide +kernel
theorem dX1_endBlock_22 : decode cX1_endBlock 22 = .ok (.aload_n 0, 1) := by decide +kernel
theorem dX1_endBlock_23 : decode cX1_endBlock 23 = .ok (.iconst (-1), 1) := by decide +kernel
theorem dX1_endBlock_24 : decode cX1_endBlock 24 = .ok (.putfield 130, 3) := by decide +kernel
theorem dX1_endBlock_27 : decode cX1_endBlock 27 = .ok (.return_, 1) := by decide +kernel
def FX1_endBlock (G : GG) (M : DD) (a : Nat) (p0 : Int32) : Option (DD) :=
  dr G 9 ((M.2 a 2)) fun b2 =>
  bnd (FX9_endBlock G M b2 p0) fun y3 =>
  dr G 3 ((y3.2 a 11)) fun b4 =>
  dr G 13 ((y3.2 b4 0)) fun b5 =>
  chk (¬ (((16 : Int32)) < 0 ∨ G.2.2 b5 ≤ ((16 : Int32)).toNatClampNeg)) <|
  ltt (y3.1 b5 ((16 : Int32)).toNatClampNeg) fun x6 =>
  ltt ((x6 + ((1 : Int32)))) fun x7 =>
  chk (¬ (((16 : Int32)) < 0 ∨ G.2.2 b5 ≤ ((16 : Int32)).toNatClampNeg)) <|
  ltt (uI y3 b5 ((16 : Int32)).toNatClampNeg x7) fun M8 =>
  ltt (uI M8 a 21 ((-1 : Int32))) fun M9 =>
  some M9
set_option maxHeartbeats 4000000 in
set_option maxRecDepth 100000 in
theorem kX1_endBlock (l : Launch) (D : va_G) (ct : CT) (ad : Nat → Nat) (Z : Nat → Nat) (G : GG) (M : DD) (sz : Nat) (a : Nat) (p0 : Int32) (y : DD) (hc : a < G.1) (hk : G.2.1 a = 1) (hF : FX1_endBlock G M a p0 = some y) : Met l yX1_endBlock wsX1_endBlock ({ frames := 2, cells := 0, slots := 0, locals := 45 }) (va_Pc [.ref (ad a), .int p0] (kB D ct ad Z G M sz)) (va_Qv (fun (_ : Unit) => True) (fun _ t => kE D ct ad G (wA ad G sz) y t) (wA ad G sz)) 0 0 (wA ad G sz) := by
  refine Met.ofW (cc := cX1_endBlock) (maxL := 2) (ret := none) (by decide) rfl ?_
  intro p e s m args below meth c s₁ B hml hv
  obtain ⟨rfl, hsz, hP, hK, hD0, hZ, hN⟩ := hv
  have hx := B.exec
  have hb := B.bytes
  have hr := B.returns
  have hts := atoms_spec (ws := wsX1_endBlock) B.pre
  have hown : s.vm.findClass RX1 = some m.cls := findClass_of_methodNamed B.named
  have hlocks := B.notSynchronized
  subst hsz
  have hD := wD_self (sz := s.heap.size) hD0
  have hA9 : ∀ q, s.heap.size ≤ q → wA ad G s.heap.size q := fun q h => Or.inr h
  generalize hAe : wA ad G s.heap.size = A at hD hA9 hZ ⊢
  have hS : va_S A s.heap s.heap [] := va_S.rf
  have hl := lv_entry ([.ref (ad a), .int p0]) (n := 2) (Nat.le_of_ble_eq_true rfl)
  rw [lg_entry_eq]
  generalize (lg_sl ([.ref (ad a), .int p0]) ++ List.replicate (2 - (lg_sl ([.ref (ad a), .int p0])).length) Slot.unset).toArray = ls at hl ⊢
  have hl : lv_has ls 2 [(0, .ref (ad a)), (1, .int p0)] := hl
  unfold FX1_endBlock at hF
  refine lv_aload_n hx hb dX1_endBlock_0 rfl (lv_at hl 0 rfl) ?_
  refine va_get (D := D) (ci := 1) (v := va_re ad (M.2 a 2)) (C := RX1) (T := TX1) (N := 22) hx hb hts (by decide +kernel) hown hK hP a (wld_o ct ad G M hc hk (by decide)) rfl 2 (by decide) (hts (.fieldLink RX1 28 "VideoSuite$Decoder" "work" "LVideoSuite$Work;") (by decide +kernel)) (fun _ h9 => h9) rfl dX1_endBlock_1 ?_
  refine lv_iload_n hx hb dX1_endBlock_4 rfl (lv_at hl 1 rfl) ?_
  obtain ⟨b2, ho2, hc2, hk2, hF⟩ := dr_some hF
  refine W_st (st' := [.int p0, .ref (ad b2)]) (by rw [va_some ho2]) ?_
  obtain ⟨y3, hy3, hF⟩ := bnd_some hF
  have hf9 := wA_in hD hA9 hS
  refine va_callv (va_runV (As := [.int p0]) (rest := []) ⟨hx, hb, hml, hown, hts⟩ (kX9_endBlock l D ct ad Z G M s.heap.size b2 p0 y3 hc2 hk2 hy3) (cwV 1 hts gX1_endBlock_X9_endBlock rfl rfl rfl (by decide +kernel) ⟨Nat.le_of_ble_eq_true rfl, Nat.le_of_ble_eq_true rfl⟩) ⟨fun a U g mk q => by obtain ⟨q0, q1, qP, qK, qD, qZ, qN⟩ := q; exact ⟨q0, q1, qP, va_K.moved (u := U) (U := U.calling g mk a) (Vm.Alike.refl U.vm) qK, qD, sF.moved (u := U) (U := U.calling g mk a) (Vm.Alike.refl U.vm) qZ, nF.same rfl qN⟩, va_recv hK hP (ci := 9) (q0 := b2) rfl (wld_o ct ad G M hc2 hk2 (by decide)), fun U hU hW => ⟨rfl, by rw [hU], by rw [hU]; exact hP, va_K.moved hW.alike hK, hD.weaken (fun _ _ _ _ => trivial), by rw [hU]; exact ((hZ.kept hS.2.1).narrow hf9).moved hW.alike, hN.warm hW⟩⟩ rfl rfl hl.1 rfl (lv_room (Nat.le_of_ble_eq_true rfl)) dX1_endBlock_5 ⟨(Nat.zero_le _), (Nat.zero_le _)⟩) hS (fun q _ h => hf9 q h) hf9 (fun u t H locs ht hvm hw hB hz1 hk1 hS => ?_)
  obtain ⟨hP, hK9, hD9⟩ := hB
  rw [ht] at hP
  have hD := hD9.weaken (fun _ q _ h => hf9 q.1 h)
  refine lv_aload_n hx hb dX1_endBlock_8 rfl (lv_at hl 0 rfl) ?_
  refine va_get (D := D) (ci := 1) (v := va_re ad (y3.2 a 11)) (C := RX1) (T := TX1) (N := 22) hx hb hts (by decide +kernel) hown hK hP a (wld_o ct ad G y3 hc hk (by decide)) rfl 11 (by decide) (hts (.fieldLink RX1 72 "VideoSuite$Decoder" "latest" "LVideoSuite$Header;") (by decide +kernel)) (fun _ h9 => h9) rfl dX1_endBlock_9 ?_
  obtain ⟨b4, ho4, hc4, hk4, hF⟩ := dr_some hF
  refine W_st (st' := [.ref (ad b4)]) (by rw [va_some ho4]) ?_
  refine va_get (D := D) (ci := 3) (v := va_re ad (y3.2 b4 0)) (C := RX3) (T := TX3) (N := 4) hx hb hts (by decide +kernel) hown hK hP b4 (wld_o ct ad G y3 hc4 hk4 (by decide)) rfl 0 (by decide) (hts (.fieldLink RX1 212 "VideoSuite$Header" "v" "[I") (by decide +kernel)) (fun _ h9 => h9) rfl dX1_endBlock_12 ?_
  refine lv_bipush (v := (16 : Int32)) hx hb dX1_endBlock_15 (by decide) ?_
  refine lv_dup2_11 hx hb dX1_endBlock_17 rfl (va_re_cat _ _) ?_
  obtain ⟨b5, ho5, hc5, hk5, hF⟩ := dr_some hF
  refine W_st (st' := [.int (16 : Int32), .ref (ad b5), .int (16 : Int32), .ref (ad b5)]) (by rw [va_some ho5]) ?_
  obtain ⟨hvc, hF⟩ := chk_some hF
  refine va_iald hx hb hK hP b5 1 (wld_i ct ad G y3 hc5 hk5) rfl hvc dX1_endBlock_18 ?_
  obtain ⟨x6, ex6, hF⟩ := ltt_some hF
  refine lv_topi (fun zx6 ezx6 => ?_)
  obtain rfl : x6 = zx6 := ex6.trans ezx6.symm
  refine lv_iconst (v := (1 : Int32)) hx hb dX1_endBlock_19 (by decide) ?_
  refine lv_iadd hx hb dX1_endBlock_20 ?_
  obtain ⟨x7, ex7, hF⟩ := ltt_some hF
  refine lv_topi (fun zx7 ezx7 => ?_)
  obtain rfl : x7 = zx7 := ex7.trans ezx7.symm
  obtain ⟨hvc, hF⟩ := chk_some hF
  refine va_iast hx hb hK hP hD hS b5 1 (wld_i ct ad G y3 hc5 hk5) rfl hvc dX1_endBlock_21 (fun H locs hP hD hS => ?_)
  obtain ⟨M8, eM8, hF⟩ := ltt_some hF
  rw [set_i ct ad G y3 hc5 hk5, ← eM8] at hP hD
  refine lv_aload_n hx hb dX1_endBlock_22 rfl (lv_at hl 0 rfl) ?_
  refine lv_iconst (v := (-1 : Int32)) hx hb dX1_endBlock_23 (by decide) ?_
  refine va_put (D := D) (ci := 1) (v := .int (-1 : Int32)) (ty := .int) (C := RX1) (T := TX1) (N := 22) hx hb hts (by decide +kernel) tyX1 tyX1_ok nmX1 hown hK hP hD hS a (wld_o ct ad G M8 hc hk (by decide)) rfl 21 (by decide) (hts (.fieldLink RX1 130 "VideoSuite$Decoder" "current" "I") (by decide +kernel)) (fun _ h9 => h9) rfl (by decide +kernel) rfl rfl (Nat.le_of_ble_eq_true rfl) dX1_endBlock_24 (fun H locs hP hD hS => ?_)
  obtain ⟨M9, eM9, hF⟩ := ltt_some hF
  rw [set_oI ct ad G M8 hc hk (by decide) (by rfl), ← eM9] at hP hD
  obtain rfl := Option.some.inj hF
  exact W.vret hx hb hr (fun t ht hW => ⟨⟨(), rfl, trivial, ⟨by rw [ht]; exact hP, va_K.moved hW.alike hK, hD⟩⟩, hS.F ht⟩) hS.2.2 dX1_endBlock_27
theorem ggX1_restart_X7_clear : GoodIn wsX1_restart wsX7_clear := goodIn_r _ [20, 21, 22, 23, 24, 25, 26, 27, 28, 29, 30, 31, 102, 103, 104, 105, 106, 107, 108, 109, 110, 111, 112, 113, 114, 115, 116, 117, 118] (by decide +kernel) (by decide +kernel)
set_option maxRecDepth 20000 in
theorem gX1_restart_X7_clear : GoodIn wsX1_restart (wsV RX1 81 RX7 yX7_clear wsX7_clear) := goodIn_app (goodIn_of _ (by decide +kernel)) ggX1_restart_X7_clear
set_option maxRecDepth 20000 in
theorem ggX1_restart_J7_fill_53178 : GoodIn wsX1_restart wsJ7_fill_53178 := goodIn_r _ [35] (by decide +kernel) (by decide +kernel)
set_option maxRecDepth 20000 in
theorem gX1_restart_J7_fill_53178 : GoodIn wsX1_restart (va_wsS RX1 91 yJ7_fill_53178 wsJ7_fill_53178) := goodIn_app (goodIn_of _ (by decide +kernel)) ggX1_restart_J7_fill_53178
theorem dX1_restart_0 : decode cX1_restart 0 = .ok (.iconst 0, 1) := by decide +kernel
theorem dX1_restart_1 : decode cX1_restart 1 = .ok (.istore_n 1, 1) := by decide +kernel
theorem dX1_restart_2 : decode cX1_restart 2 = .ok (.iload_n 1, 1) := by decide +kernel
theorem dX1_restart_3 : decode cX1_restart 3 = .ok (.iconst 4, 1) := by decide +kernel
theorem dX1_restart_4 : decode cX1_restart 4 = .ok (.if_icmp .ge 29, 3) := by decide +kernel
theorem dX1_restart_7 : decode cX1_restart 7 = .ok (.aload_n 0, 1) := by decide +kernel
theorem dX1_restart_8 : decode cX1_restart 8 = .ok (.getfield 48, 3) := by decide +kernel
theorem dX1_restart_11 : decode cX1_restart 11 = .ok (.iload_n 1, 1) := by decide +kernel
theorem dX1_restart_12 : decode cX1_restart 12 = .ok (.aaload, 1) := by decide +kernel
theorem dX1_restart_13 : decode cX1_restart 13 = .ok (.bipush 23, 2) := by decide +kernel
theorem dX1_restart_15 : decode cX1_restart 15 = .ok (.iconst 0, 1) := by decide +kernel
theorem dX1_restart_16 : decode cX1_restart 16 = .ok (.iastore, 1) := by decide +kernel
theorem dX1_restart_17 : decode cX1_restart 17 = .ok (.aload_n 0, 1) := by decide +kernel
theorem dX1_restart_18 : decode cX1_restart 18 = .ok (.getfield 51, 3) := by decide +kernel
theorem dX1_restart_21 : decode cX1_restart 21 = .ok (.iload_n 1, 1) := by decide +kernel
theorem dX1_restart_22 : decode cX1_restart 22 = .ok (.aaload, 1) := by decide +kernel
theorem dX1_restart_23 : decode cX1_restart 23 = .ok (.bipush 11, 2) := by decide +kernel
theorem dX1_restart_25 : decode cX1_restart 25 = .ok (.iconst 0, 1) := by decide +kernel
theorem dX1_restart_26 : decode cX1_restart 26 = .ok (.iastore, 1) := by decide +kernel
theorem dX1_restart_27 : decode cX1_restart 27 = .ok (.iinc 1 1, 3) := by decide +kernel
theorem dX1_restart_30 : decode cX1_restart 30 = .ok (.goto (-28), 3) := by decide +kernel
theorem dX1_restart_33 : decode cX1_restart 33 = .ok (.aload_n 0, 1) := by decide +kernel
theorem dX1_restart_34 : decode cX1_restart 34 = .ok (.iconst (-1), 1) := by decide +kernel
theorem dX1_restart_35 : decode cX1_restart 35 = .ok (.putfield 58, 3) := by decide +kernel
theorem dX1_restart_38 : decode cX1_restart 38 = .ok (.aload_n 0, 1) := by decide +kernel
theorem dX1_restart_39 : decode cX1_restart 39 = .ok (.getfield 21, 3) := by decide +kernel
theorem dX1_restart_42 : decode cX1_restart 42 = .ok (.invokevirtual 81, 3) := by decide +kernel
theorem dX1_restart_45 : decode cX1_restart 45 = .ok (.aload_n 0, 1) := by decide +kernel
theorem dX1_restart_46 : decode cX1_restart 46 = .ok (.getfield 28, 3) := by decide +kernel
theorem dX1_restart_49 : decode cX1_restart 49 = .ok (.aconst_null, 1) := by decide +kernel
theorem dX1_restart_50 : decode cX1_restart 50 = .ok (.putfield 84, 3) := by decide +kernel
theorem dX1_restart_53 : decode cX1_restart 53 = .ok (.aload_n 0, 1) := by decide +kernel
theorem dX1_restart_54 : decode cX1_restart 54 = .ok (.getfield 28, 3) := by decide +kernel
theorem dX1_restart_57 : decode cX1_restart 57 = .ok (.getfield 88, 3) := by decide +kernel
theorem dX1_restart_60 : decode cX1_restart 60 = .ok (.iconst 0, 1) := by decide +kernel
theorem dX1_restart_61 : decode cX1_restart 61 = .ok (.invokestatic 91, 3) := by decide +kernel
theorem dX1_restart_64 : decode cX1_restart 64 = .ok (.aload_n 0, 1) := by decide +kernel
theorem dX1_restart_65 : decode cX1_restart 65 = .ok (.getfield 42, 3) := by decide +kernel
theorem dX1_restart_68 : decode cX1_restart 68 = .ok (.iconst 0, 1) := by decide +kernel
theorem dX1_restart_69 : decode cX1_restart 69 = .ok (.putfield 97, 3) := by decide +kernel
theorem dX1_restart_72 : decode cX1_restart 72 = .ok (.aload_n 0, 1) := by decide +kernel
theorem dX1_restart_73 : decode cX1_restart 73 = .ok (.getfield 12, 3) := by decide +kernel
theorem dX1_restart_76 : decode cX1_restart 76 = .ok (.iconst 0, 1) := by decide +kernel
theorem dX1_restart_77 : decode cX1_restart 77 = .ok (.putfield 100, 3) := by decide +kernel
theorem dX1_restart_80 : decode cX1_restart 80 = .ok (.aload_n 0, 1) := by decide +kernel
theorem dX1_restart_81 : decode cX1_restart 81 = .ok (.iconst 0, 1) := by decide +kernel
theorem dX1_restart_82 : decode cX1_restart 82 = .ok (.putfield 103, 3) := by decide +kernel
theorem dX1_restart_85 : decode cX1_restart 85 = .ok (.aload_n 0, 1) := by decide +kernel
theorem dX1_restart_86 : decode cX1_restart 86 = .ok (.iconst 0, 1) := by decide +kernel
theorem dX1_restart_87 : decode cX1_restart 87 = .ok (.putfield 106, 3) := by decide +kernel
theorem dX1_restart_90 : decode cX1_restart 90 = .ok (.aload_n 0, 1) := by decide +kernel
theorem dX1_restart_91 : decode cX1_restart 91 = .ok (.iconst 0, 1) := by decide +kernel
theorem dX1_restart_92 : decode cX1_restart 92 = .ok (.putfield 109, 3) := by decide +kernel
theorem dX1_restart_95 : decode cX1_restart 95 = .ok (.aload_n 0, 1) := by decide +kernel
theorem dX1_restart_96 : decode cX1_restart 96 = .ok (.iconst 0, 1) := by decide +kernel
theorem dX1_restart_97 : decode cX1_restart 97 = .ok (.putfield 113, 3) := by decide +kernel
theorem dX1_restart_100 : decode cX1_restart 100 = .ok (.return_, 1) := by decide +kernel
def FX1_restart (G : GG) (M : DD) (a : Nat)  : Option (DD) :=
  bnd (itr (fun (s2 : Int32 × DD) => ((if ((4 : Int32)) ≤ s2.1 then (some (.inr (s2.1, s2.2))) else
  (dr G 15 ((s2.2.2 a 5)) fun b21 =>
  chk (¬ (s2.1 < 0 ∨ G.2.2 b21 ≤ s2.1.toNatClampNeg)) <|
  dr G 13 ((s2.2.2 b21 s2.1.toNatClampNeg)) fun b22 =>
  chk (¬ (((23 : Int32)) < 0 ∨ G.2.2 b22 ≤ ((23 : Int32)).toNatClampNeg)) <|
  ltt (uI s2.2 b22 ((23 : Int32)).toNatClampNeg ((0 : Int32))) fun M23 =>
  dr G 15 ((M23.2 a 6)) fun b24 =>
  chk (¬ (s2.1 < 0 ∨ G.2.2 b24 ≤ s2.1.toNatClampNeg)) <|
  dr G 13 ((M23.2 b24 s2.1.toNatClampNeg)) fun b25 =>
  chk (¬ (((11 : Int32)) < 0 ∨ G.2.2 b25 ≤ ((11 : Int32)).toNatClampNeg)) <|
  ltt (uI M23 b25 ((11 : Int32)).toNatClampNeg ((0 : Int32))) fun M26 =>
  ltt (s2.1 + (1 : Int32)) fun x27 =>
  some (.inl (x27, M26)))) : Option ((Int32 × DD) ⊕ (Int32 × DD)))) 1000000 ((0 : Int32), M)) fun (y1 : Int32 × DD) =>
  ltt (uI y1.2 a 8 ((-1 : Int32))) fun M4 =>
  dr G 7 ((M4.2 a 1)) fun b5 =>
  bnd (FX7_clear G M4 b5) fun y6 =>
  dr G 9 ((y6.2 a 2)) fun b7 =>
  ltt (uP y6 b7 0 none) fun M8 =>
  dr G 9 ((M8.2 a 2)) fun b9 =>
  bnd (FJ7_fill_53178 G M8 ((M8.2 b9 4)) ((0 : Int32))) fun y10 =>
  dr G 2 ((y10.2 a 4)) fun b11 =>
  ltt (uI y10 b11 1 ((0 : Int32))) fun M12 =>
  dr G 5 ((M12.2 a 0)) fun b13 =>
  ltt (uI M12 b13 12 ((0 : Int32))) fun M14 =>
  ltt (uI M14 a 14 ((0 : Int32))) fun M15 =>
  ltt (uI M15 a 15 ((0 : Int32))) fun M16 =>
  chk (((0 : Int32)) = 0 ∨ ((0 : Int32)) = 1) <|
  ltt (uI M16 a 16 ((0 : Int32))) fun M17 =>
  ltt (uI M17 a 18 ((0 : Int32))) fun M18 =>
  some M18
set_option maxHeartbeats 4000000 in
set_option maxRecDepth 100000 in
theorem kX1_restart (l : Launch) (D : va_G) (ct : CT) (ad : Nat → Nat) (Z : Nat → Nat) (G : GG) (M : DD) (sz : Nat) (a : Nat)  (y : DD) (hc : a < G.1) (hk : G.2.1 a = 1) (hF : FX1_restart G M a  = some y) : Met l yX1_restart wsX1_restart ({ frames := 1, cells := 0, slots := 0, locals := 23 }) (va_Pc [.ref (ad a)] (kB D ct ad Z G M sz)) (va_Qv (fun (_ : Unit) => True) (fun _ t => kE D ct ad G (wA ad G sz) y t) (wA ad G sz)) 0 0 (wA ad G sz) := by
  refine Met.ofW (cc := cX1_restart) (maxL := 2) (ret := none) (by decide) rfl ?_
  intro p e s m args below meth c s₁ B hml hv
  obtain ⟨rfl, hsz, hP, hK, hD0, hZ, hN⟩ := hv
  have hx := B.exec
  have hb := B.bytes
  have hr := B.returns
  have hts := atoms_spec (ws := wsX1_restart) B.pre
  have hown : s.vm.findClass RX1 = some m.cls := findClass_of_methodNamed B.named
  have hlocks := B.notSynchronized
  subst hsz
  have hD := wD_self (sz := s.heap.size) hD0
  have hA9 : ∀ q, s.heap.size ≤ q → wA ad G s.heap.size q := fun q h => Or.inr h
  generalize hAe : wA ad G s.heap.size = A at hD hA9 hZ ⊢
  have hS : va_S A s.heap s.heap [] := va_S.rf
  have hl := lv_entry ([.ref (ad a)]) (n := 2) (Nat.le_of_ble_eq_true rfl)
  rw [lg_entry_eq]
  generalize (lg_sl ([.ref (ad a)]) ++ List.replicate (2 - (lg_sl ([.ref (ad a)])).length) Slot.unset).toArray = ls at hl ⊢
  have hl : lv_has ls 2 [(0, .ref (ad a))] := hl
  unfold FX1_restart at hF
  refine lv_iconst (v := (0 : Int32)) hx hb dX1_restart_0 (by decide) ?_
  refine lv_istore_n (lv' := [(1, .int (0 : Int32)), (0, .ref (ad a))]) hx hb dX1_restart_1 rfl hl (by decide) rfl (fun ls hl => ?_)
  obtain ⟨y1, hy1, hF⟩ := bnd_some hF
  have K1 : ∀ (H : Heap) (locs : List Loc) (ls : Array Slot), va_P D classes (wld ct ad G y1.2) H → va_D A (wld ct ad G y1.2) → va_S A s.heap H locs → lv_has ls 2 [(1, .int y1.1), (0, .ref (ad a))] → W p l e (headSpec wsX1_restart ({ frames := 1, cells := 0, slots := 0, locals := 23 })).room s m ([.ref (ad a)] : List Value).toArray below meth c H locs 0 0 (MQ below (va_Qv (fun (_ : Unit) => True) (fun _ t => kE D ct ad G A y t) A) ([.ref (ad a)] : List Value).toArray s 0 0 A) (F0 m 33 ls []) := by
    intro H locs ls hP hD hS hl
    refine lv_aload_n hx hb dX1_restart_33 rfl (lv_at hl 1 rfl) ?_
    refine lv_iconst (v := (-1 : Int32)) hx hb dX1_restart_34 (by decide) ?_
    refine va_put (D := D) (ci := 1) (v := .int (-1 : Int32)) (ty := .int) (C := RX1) (T := TX1) (N := 22) hx hb hts (by decide +kernel) tyX1 tyX1_ok nmX1 hown hK hP hD hS a (wld_o ct ad G y1.2 hc hk (by decide)) rfl 8 (by decide) (hts (.fieldLink RX1 58 "VideoSuite$Decoder" "activeId" "I") (by decide +kernel)) (fun _ h9 => h9) rfl (by decide +kernel) rfl rfl (Nat.le_of_ble_eq_true rfl) dX1_restart_35 (fun H locs hP hD hS => ?_)
    obtain ⟨M4, eM4, hF⟩ := ltt_some hF
    rw [set_oI ct ad G y1.2 hc hk (by decide) (by rfl), ← eM4] at hP hD
    refine lv_aload_n hx hb dX1_restart_38 rfl (lv_at hl 1 rfl) ?_
    refine va_get (D := D) (ci := 1) (v := va_re ad (M4.2 a 1)) (C := RX1) (T := TX1) (N := 22) hx hb hts (by decide +kernel) hown hK hP a (wld_o ct ad G M4 hc hk (by decide)) rfl 1 (by decide) (hts (.fieldLink RX1 21 "VideoSuite$Decoder" "store" "LVideoSuite$Store;") (by decide +kernel)) (fun _ h9 => h9) rfl dX1_restart_39 ?_
    obtain ⟨b5, ho5, hc5, hk5, hF⟩ := dr_some hF
    refine W_st (st' := [.ref (ad b5)]) (by rw [va_some ho5]) ?_
    obtain ⟨y6, hy6, hF⟩ := bnd_some hF
    have hf9 := wA_in hD hA9 hS
    refine va_callv (va_runV (As := []) (rest := []) ⟨hx, hb, hml, hown, hts⟩ (kX7_clear l D ct ad Z G M4 H.size b5 y6 hc5 hk5 hy6) (cwV 0 hts gX1_restart_X7_clear rfl rfl rfl (by decide +kernel) ⟨Nat.le_of_ble_eq_true rfl, Nat.le_of_ble_eq_true rfl⟩) ⟨fun a U g mk q => by obtain ⟨q0, q1, qP, qK, qD, qZ, qN⟩ := q; exact ⟨q0, q1, qP, va_K.moved (u := U) (U := U.calling g mk a) (Vm.Alike.refl U.vm) qK, qD, sF.moved (u := U) (U := U.calling g mk a) (Vm.Alike.refl U.vm) qZ, nF.same rfl qN⟩, va_recv hK hP (ci := 7) (q0 := b5) rfl (wld_o ct ad G M4 hc5 hk5 (by decide)), fun U hU hW => ⟨rfl, by rw [hU], by rw [hU]; exact hP, va_K.moved hW.alike hK, hD.weaken (fun _ _ _ _ => trivial), by rw [hU]; exact ((hZ.kept hS.2.1).narrow hf9).moved hW.alike, hN.warm hW⟩⟩ rfl rfl hl.1 rfl (lv_room (Nat.le_of_ble_eq_true rfl)) dX1_restart_42 ⟨(Nat.zero_le _), (Nat.zero_le _)⟩) hS (fun q _ h => hf9 q h) hf9 (fun u t H locs ht hvm hw hB hz1 hk1 hS => ?_)
    obtain ⟨hP, hK9, hD9⟩ := hB
    rw [ht] at hP
    have hD := hD9.weaken (fun _ q _ h => hf9 q.1 h)
    refine lv_aload_n hx hb dX1_restart_45 rfl (lv_at hl 1 rfl) ?_
    refine va_get (D := D) (ci := 1) (v := va_re ad (y6.2 a 2)) (C := RX1) (T := TX1) (N := 22) hx hb hts (by decide +kernel) hown hK hP a (wld_o ct ad G y6 hc hk (by decide)) rfl 2 (by decide) (hts (.fieldLink RX1 28 "VideoSuite$Decoder" "work" "LVideoSuite$Work;") (by decide +kernel)) (fun _ h9 => h9) rfl dX1_restart_46 ?_
    refine lv_nullq (ad := ad) hx hb dX1_restart_49 ?_
    obtain ⟨b7, ho7, hc7, hk7, hF⟩ := dr_some hF
    refine W_st (st' := [va_re ad none, .ref (ad b7)]) (by rw [va_some ho7]) ?_
    refine va_put (D := D) (ci := 9) (v := va_re ad none) (ty := (.object "VideoSuite$Picture")) (C := RX9) (T := TX9) (N := 20) hx hb hts (by decide +kernel) tyX9 tyX9_ok nmX9 hown hK hP hD hS b7 (wld_o ct ad G y6 hc7 hk7 (by decide)) rfl 0 (by decide) (hts (.fieldLink RX1 84 "VideoSuite$Work" "pic" "LVideoSuite$Picture;") (by decide +kernel)) (fun _ h9 => h9) rfl (by decide +kernel) (nar_q ad (Or.inl ⟨_, rfl⟩) none).1 (nar_q ad (Or.inl ⟨_, rfl⟩) none).2 (Nat.le_of_ble_eq_true rfl) dX1_restart_50 (fun H locs hP hD hS => ?_)
    obtain ⟨M8, eM8, hF⟩ := ltt_some hF
    rw [set_oP ct ad G y6 hc7 hk7 (by decide) (by rfl), ← eM8] at hP hD
    refine lv_aload_n hx hb dX1_restart_53 rfl (lv_at hl 1 rfl) ?_
    refine va_get (D := D) (ci := 1) (v := va_re ad (M8.2 a 2)) (C := RX1) (T := TX1) (N := 22) hx hb hts (by decide +kernel) hown hK hP a (wld_o ct ad G M8 hc hk (by decide)) rfl 2 (by decide) (hts (.fieldLink RX1 28 "VideoSuite$Decoder" "work" "LVideoSuite$Work;") (by decide +kernel)) (fun _ h9 => h9) rfl dX1_restart_54 ?_
    obtain ⟨b9, ho9, hc9, hk9, hF⟩ := dr_some hF
    refine W_st (st' := [.ref (ad b9)]) (by rw [va_some ho9]) ?_
    refine va_get (D := D) (ci := 9) (v := va_re ad (M8.2 b9 4)) (C := RX9) (T := TX9) (N := 20) hx hb hts (by decide +kernel) hown hK hP b9 (wld_o ct ad G M8 hc9 hk9 (by decide)) rfl 4 (by decide) (hts (.fieldLink RX1 88 "VideoSuite$Work" "entryThere" "[I") (by decide +kernel)) (fun _ h9 => h9) rfl dX1_restart_57 ?_
    refine lv_iconst (v := (0 : Int32)) hx hb dX1_restart_60 (by decide) ?_
    obtain ⟨y10, hy10, hF⟩ := bnd_some hF
    have hf9 := wA_in hD hA9 hS
    refine va_callv (va_runS (As := [va_re ad (M8.2 b9 4), .int (0 : Int32)]) (rest := []) ⟨hx, hb, hml, hown, hts⟩ (kJ7_fill_53178 l D ct ad Z G M8 H.size ((M8.2 b9 4)) ((0 : Int32)) y10 hy10) (va_cwS 2 hts gX1_restart_J7_fill_53178 rfl rfl rfl (by decide +kernel) ⟨Nat.le_of_ble_eq_true rfl, Nat.le_of_ble_eq_true rfl⟩) ⟨fun a U g mk q => by obtain ⟨q0, q1, qP, qK, qD, qZ, qN⟩ := q; exact ⟨q0, q1, qP, va_K.moved (u := U) (U := U.calling g mk a) (Vm.Alike.refl U.vm) qK, qD, sF.moved (u := U) (U := U.calling g mk a) (Vm.Alike.refl U.vm) qZ, nF.same rfl qN⟩, fun U hU hW => ⟨rfl, by rw [hU], by rw [hU]; exact hP, va_K.moved hW.alike hK, hD.weaken (fun _ _ _ _ => trivial), by rw [hU]; exact ((hZ.kept hS.2.1).narrow hf9).moved hW.alike, hN.warm hW⟩⟩ rfl rfl hl.1 rfl (lv_room (Nat.le_of_ble_eq_true rfl)) dX1_restart_61 ⟨(Nat.zero_le _), (Nat.zero_le _)⟩) hS (fun q _ h => hf9 q h) hf9 (fun u t H locs ht hvm hw hB hz1 hk1 hS => ?_)
    obtain ⟨hP, hK9, hD9⟩ := hB
    rw [ht] at hP
    have hD := hD9.weaken (fun _ q _ h => hf9 q.1 h)
    refine lv_aload_n hx hb dX1_restart_64 rfl (lv_at hl 1 rfl) ?_
    refine va_get (D := D) (ci := 1) (v := va_re ad (y10.2 a 4)) (C := RX1) (T := TX1) (N := 22) hx hb hts (by decide +kernel) hown hK hP a (wld_o ct ad G y10 hc hk (by decide)) rfl 4 (by decide) (hts (.fieldLink RX1 42 "VideoSuite$Decoder" "edges" "LVideoSuite$Edges;") (by decide +kernel)) (fun _ h9 => h9) rfl dX1_restart_65 ?_
    refine lv_iconst (v := (0 : Int32)) hx hb dX1_restart_68 (by decide) ?_
    obtain ⟨b11, ho11, hc11, hk11, hF⟩ := dr_some hF
    refine W_st (st' := [.int (0 : Int32), .ref (ad b11)]) (by rw [va_some ho11]) ?_
    refine va_put (D := D) (ci := 2) (v := .int (0 : Int32)) (ty := .int) (C := RX2) (T := TX2) (N := 7) hx hb hts (by decide +kernel) tyX2 tyX2_ok nmX2 hown hK hP hD hS b11 (wld_o ct ad G y10 hc11 hk11 (by decide)) rfl 1 (by decide) (hts (.fieldLink RX1 97 "VideoSuite$Edges" "blocks" "I") (by decide +kernel)) (fun _ h9 => h9) rfl (by decide +kernel) rfl rfl (Nat.le_of_ble_eq_true rfl) dX1_restart_69 (fun H locs hP hD hS => ?_)
    obtain ⟨M12, eM12, hF⟩ := ltt_some hF
    rw [set_oI ct ad G y10 hc11 hk11 (by decide) (by rfl), ← eM12] at hP hD
    refine lv_aload_n hx hb dX1_restart_72 rfl (lv_at hl 1 rfl) ?_
    refine va_get (D := D) (ci := 1) (v := va_re ad (M12.2 a 0)) (C := RX1) (T := TX1) (N := 22) hx hb hts (by decide +kernel) hown hK hP a (wld_o ct ad G M12 hc hk (by decide)) rfl 0 (by decide) (hts (.fieldLink RX1 12 "VideoSuite$Decoder" "reader" "LVideoSuite$Reader;") (by decide +kernel)) (fun _ h9 => h9) rfl dX1_restart_73 ?_
    refine lv_iconst (v := (0 : Int32)) hx hb dX1_restart_76 (by decide) ?_
    obtain ⟨b13, ho13, hc13, hk13, hF⟩ := dr_some hF
    refine W_st (st' := [.int (0 : Int32), .ref (ad b13)]) (by rw [va_some ho13]) ?_
    refine va_put (D := D) (ci := 5) (v := .int (0 : Int32)) (ty := .int) (C := RX5) (T := TX5) (N := 17) hx hb hts (by decide +kernel) tyX5 tyX5_ok nmX5 hown hK hP hD hS b13 (wld_o ct ad G M12 hc13 hk13 (by decide)) rfl 12 (by decide) (hts (.fieldLink RX1 100 "VideoSuite$Reader" "elementCount" "I") (by decide +kernel)) (fun _ h9 => h9) rfl (by decide +kernel) rfl rfl (Nat.le_of_ble_eq_true rfl) dX1_restart_77 (fun H locs hP hD hS => ?_)
    obtain ⟨M14, eM14, hF⟩ := ltt_some hF
    rw [set_oI ct ad G M12 hc13 hk13 (by decide) (by rfl), ← eM14] at hP hD
    refine lv_aload_n hx hb dX1_restart_80 rfl (lv_at hl 1 rfl) ?_
    refine lv_iconst (v := (0 : Int32)) hx hb dX1_restart_81 (by decide) ?_
    refine va_put (D := D) (ci := 1) (v := .int (0 : Int32)) (ty := .int) (C := RX1) (T := TX1) (N := 22) hx hb hts (by decide +kernel) tyX1 tyX1_ok nmX1 hown hK hP hD hS a (wld_o ct ad G M14 hc hk (by decide)) rfl 14 (by decide) (hts (.fieldLink RX1 103 "VideoSuite$Decoder" "faultCount" "I") (by decide +kernel)) (fun _ h9 => h9) rfl (by decide +kernel) rfl rfl (Nat.le_of_ble_eq_true rfl) dX1_restart_82 (fun H locs hP hD hS => ?_)
    obtain ⟨M15, eM15, hF⟩ := ltt_some hF
    rw [set_oI ct ad G M14 hc hk (by decide) (by rfl), ← eM15] at hP hD
    refine lv_aload_n hx hb dX1_restart_85 rfl (lv_at hl 1 rfl) ?_
    refine lv_iconst (v := (0 : Int32)) hx hb dX1_restart_86 (by decide) ?_
    refine va_put (D := D) (ci := 1) (v := .int (0 : Int32)) (ty := .int) (C := RX1) (T := TX1) (N := 22) hx hb hts (by decide +kernel) tyX1 tyX1_ok nmX1 hown hK hP hD hS a (wld_o ct ad G M15 hc hk (by decide)) rfl 15 (by decide) (hts (.fieldLink RX1 106 "VideoSuite$Decoder" "slices" "I") (by decide +kernel)) (fun _ h9 => h9) rfl (by decide +kernel) rfl rfl (Nat.le_of_ble_eq_true rfl) dX1_restart_87 (fun H locs hP hD hS => ?_)
    obtain ⟨M16, eM16, hF⟩ := ltt_some hF
    rw [set_oI ct ad G M15 hc hk (by decide) (by rfl), ← eM16] at hP hD
    refine lv_aload_n hx hb dX1_restart_90 rfl (lv_at hl 1 rfl) ?_
    refine lv_iconst (v := (0 : Int32)) hx hb dX1_restart_91 (by decide) ?_
    obtain ⟨hz9, hF⟩ := chk_some hF
    refine va_put (D := D) (ci := 1) (v := .int (0 : Int32)) (ty := .boolean) (C := RX1) (T := TX1) (N := 22) hx hb hts (by decide +kernel) tyX1 tyX1_ok nmX1 hown hK hP hD hS a (wld_o ct ad G M16 hc hk (by decide)) rfl 16 (by decide) (hts (.fieldLink RX1 109 "VideoSuite$Decoder" "underWay" "Z") (by decide +kernel)) (fun _ h9 => h9) rfl (by decide +kernel) (nar_z hz9).1 (nar_z hz9).2 (Nat.le_of_ble_eq_true rfl) dX1_restart_92 (fun H locs hP hD hS => ?_)
    obtain ⟨M17, eM17, hF⟩ := ltt_some hF
    rw [set_oI ct ad G M16 hc hk (by decide) (by rfl), ← eM17] at hP hD
    refine lv_aload_n hx hb dX1_restart_95 rfl (lv_at hl 1 rfl) ?_
    refine lv_iconst (v := (0 : Int32)) hx hb dX1_restart_96 (by decide) ?_
    refine va_put (D := D) (ci := 1) (v := .int (0 : Int32)) (ty := .int) (C := RX1) (T := TX1) (N := 22) hx hb hts (by decide +kernel) tyX1 tyX1_ok nmX1 hown hK hP hD hS a (wld_o ct ad G M17 hc hk (by decide)) rfl 18 (by decide) (hts (.fieldLink RX1 113 "VideoSuite$Decoder" "mended" "I") (by decide +kernel)) (fun _ h9 => h9) rfl (by decide +kernel) rfl rfl (Nat.le_of_ble_eq_true rfl) dX1_restart_97 (fun H locs hP hD hS => ?_)
    obtain ⟨M18, eM18, hF⟩ := ltt_some hF
    rw [set_oI ct ad G M17 hc hk (by decide) (by rfl), ← eM18] at hP hD
    obtain rfl := Option.some.inj hF
    exact W.vret hx hb hr (fun t ht hW => ⟨⟨(), rfl, trivial, ⟨by rw [ht]; exact hP, va_K.moved hW.alike hK, hD⟩⟩, hS.F ht⟩) hS.2.2 dX1_restart_100
  clear hF
  refine itr_rule (fun (s2 : Int32 × DD) => ∀ (H : Heap) (locs : List Loc) (ls : Array Slot), va_P D classes (wld ct ad G s2.2) H → va_D A (wld ct ad G s2.2) → va_S A s.heap H locs → lv_has ls 2 [(1, .int s2.1), (0, .ref (ad a))] → W p l e (headSpec wsX1_restart ({ frames := 1, cells := 0, slots := 0, locals := 23 })).room s m ([.ref (ad a)] : List Value).toArray below meth c H locs 0 0 (MQ below (va_Qv (fun (_ : Unit) => True) (fun _ t => kE D ct ad G A y t) A) ([.ref (ad a)] : List Value).toArray s 0 0 A) (F0 m 2 ls [])) ?_ _ _ hy1 _ _ _ hP hD hS (lv_sub hl [0, 1] rfl)
  rintro s2 ⟨z19, hF, hwz19⟩ H locs ls hP hD hS hl
  try dsimp only at hF
  refine lv_iload_n hx hb dX1_restart_2 rfl (lv_at hl 0 rfl) ?_
  refine lv_iconst (v := (4 : Int32)) hx hb dX1_restart_3 (by decide) ?_
  refine lv_icmp_ge (tgt := 33) hx hb dX1_restart_4 (by decide) (fun c20 => ?_) (fun c20 => ?_)
  · rw [if_pos c20] at hF
    obtain rfl := Option.some.inj hF
    subst hwz19
    exact K1 _ _ _ hP hD hS (lv_sub hl [0, 1] rfl)
  · rw [if_neg c20] at hF
    refine lv_aload_n hx hb dX1_restart_7 rfl (lv_at hl 1 rfl) ?_
    refine va_get (D := D) (ci := 1) (v := va_re ad (s2.2.2 a 5)) (C := RX1) (T := TX1) (N := 22) hx hb hts (by decide +kernel) hown hK hP a (wld_o ct ad G s2.2 hc hk (by decide)) rfl 5 (by decide) (hts (.fieldLink RX1 48 "VideoSuite$Decoder" "sequences" "[[I") (by decide +kernel)) (fun _ h9 => h9) rfl dX1_restart_8 ?_
    refine lv_iload_n hx hb dX1_restart_11 rfl (lv_at hl 0 rfl) ?_
    obtain ⟨b21, ho21, hc21, hk21, hF⟩ := dr_some hF
    refine W_st (st' := [.int s2.1, .ref (ad b21)]) (by rw [va_some ho21]) ?_
    obtain ⟨hvc, hF⟩ := chk_some hF
    refine ld_g hx hb hK hP hc21 hk21 hvc dX1_restart_12 ?_
    refine lv_bipush (v := (23 : Int32)) hx hb dX1_restart_13 (by decide) ?_
    refine lv_iconst (v := (0 : Int32)) hx hb dX1_restart_15 (by decide) ?_
    obtain ⟨b22, ho22, hc22, hk22, hF⟩ := dr_some hF
    refine W_st (st' := [.int (0 : Int32), .int (23 : Int32), .ref (ad b22)]) (by rw [va_some ho22]) ?_
    obtain ⟨hvc, hF⟩ := chk_some hF
    refine va_iast hx hb hK hP hD hS b22 1 (wld_i ct ad G s2.2 hc22 hk22) rfl hvc dX1_restart_16 (fun H locs hP hD hS => ?_)
    obtain ⟨M23, eM23, hF⟩ := ltt_some hF
    rw [set_i ct ad G s2.2 hc22 hk22, ← eM23] at hP hD
    refine lv_aload_n hx hb dX1_restart_17 rfl (lv_at hl 1 rfl) ?_
    refine va_get (D := D) (ci := 1) (v := va_re ad (M23.2 a 6)) (C := RX1) (T := TX1) (N := 22) hx hb hts (by decide +kernel) hown hK hP a (wld_o ct ad G M23 hc hk (by decide)) rfl 6 (by decide) (hts (.fieldLink RX1 51 "VideoSuite$Decoder" "parameters" "[[I") (by decide +kernel)) (fun _ h9 => h9) rfl dX1_restart_18 ?_
    refine lv_iload_n hx hb dX1_restart_21 rfl (lv_at hl 0 rfl) ?_
    obtain ⟨b24, ho24, hc24, hk24, hF⟩ := dr_some hF
    refine W_st (st' := [.int s2.1, .ref (ad b24)]) (by rw [va_some ho24]) ?_
    obtain ⟨hvc, hF⟩ := chk_some hF
    refine ld_g hx hb hK hP hc24 hk24 hvc dX1_restart_22 ?_
    refine lv_bipush (v := (11 : Int32)) hx hb dX1_restart_23 (by decide) ?_
    refine lv_iconst (v := (0 : Int32)) hx hb dX1_restart_25 (by decide) ?_
    obtain ⟨b25, ho25, hc25, hk25, hF⟩ := dr_some hF
    refine W_st (st' := [.int (0 : Int32), .int (11 : Int32), .ref (ad b25)]) (by rw [va_some ho25]) ?_
    obtain ⟨hvc, hF⟩ := chk_some hF
    refine va_iast hx hb hK hP hD hS b25 1 (wld_i ct ad G M23 hc25 hk25) rfl hvc dX1_restart_26 (fun H locs hP hD hS => ?_)
    obtain ⟨M26, eM26, hF⟩ := ltt_some hF
    rw [set_i ct ad G M23 hc25 hk25, ← eM26] at hP hD
    obtain ⟨x27, ex27, hF⟩ := ltt_some hF
    refine lv_iinc (v := x27) (lv' := [(1, .int x27), (0, .ref (ad a))]) hx hb dX1_restart_27 hl (k := 0) rfl (by rw [ex27]; rfl) (by decide) rfl (fun ls hl => ?_)
    refine lv_goto (tgt := 2) hx hb dX1_restart_30 (by decide) ?_
    obtain rfl := Option.some.inj hF
    exact hwz19 _ _ _ hP hD hS (lv_sub hl [0, 1] rfl)
theorem ggX2_filterLine_X11_clip : GoodIn wsX2_filterLine wsX11_clip := goodIn_r _ [15] (by decide +kernel) (by decide +kernel)
set_option maxRecDepth 20000 in
theorem gX2_filterLine_X11_clip_n143 : GoodIn wsX2_filterLine (wsX11_clip) := ggX2_filterLine_X11_clip
theorem ggX2_filterLine_X2_smooth : GoodIn wsX2_filterLine wsX2_smooth := goodIn_r _ [12] (by decide +kernel) (by decide +kernel)
set_option maxRecDepth 20000 in
theorem gX2_filterLine_X2_smooth : GoodIn wsX2_filterLine (va_wsS RX2 136 yX2_smooth wsX2_smooth) := goodIn_app (goodIn_of _ (by decide +kernel)) ggX2_filterLine_X2_smooth
set_option maxRecDepth 20000 in
theorem dX2_filterLine_0 : decode cX2_filterLine 0 = .ok (.aload_n 1, 1) := by decide +kernel
theorem dX2_filterLine_1 : decode cX2_filterLine 1 = .ok (.iload_n 2, 1) := by decide +kernel
theorem dX2_filterLine_2 : decode cX2_filterLine 2 = .ok (.iload_n 3, 1) := by decide +kernel
theorem dX2_filterLine_3 : decode cX2_filterLine 3 = .ok (.isub, 1) := by decide +kernel
theorem dX2_filterLine_4 : decode cX2_filterLine 4 = .ok (.iaload, 1) := by decide +kernel
theorem dX2_filterLine_5 : decode cX2_filterLine 5 = .ok (.istore 6, 2) := by decide +kernel
theorem dX2_filterLine_7 : decode cX2_filterLine 7 = .ok (.aload_n 1, 1) := by decide +kernel
theorem dX2_filterLine_8 : decode cX2_filterLine 8 = .ok (.iload_n 2, 1) := by decide +kernel
theorem dX2_filterLine_9 : decode cX2_filterLine 9 = .ok (.iconst 2, 1) := by decide +kernel
theorem dX2_filterLine_10 : decode cX2_filterLine 10 = .ok (.iload_n 3, 1) := by decide +kernel
theorem dX2_filterLine_11 : decode cX2_filterLine 11 = .ok (.imul, 1) := by decide +kernel
theorem dX2_filterLine_12 : decode cX2_filterLine 12 = .ok (.isub, 1) := by decide +kernel
theorem dX2_filterLine_13 : decode cX2_filterLine 13 = .ok (.iaload, 1) := by decide +kernel
theorem dX2_filterLine_14 : decode cX2_filterLine 14 = .ok (.istore 7, 2) := by decide +kernel
theorem dX2_filterLine_16 : decode cX2_filterLine 16 = .ok (.aload_n 1, 1) := by decide +kernel
theorem dX2_filterLine_17 : decode cX2_filterLine 17 = .ok (.iload_n 2, 1) := by decide +kernel
theorem dX2_filterLine_18 : decode cX2_filterLine 18 = .ok (.iaload, 1) := by decide +kernel
theorem dX2_filterLine_19 : decode cX2_filterLine 19 = .ok (.istore 8, 2) := by decide +kernel
theorem dX2_filterLine_21 : decode cX2_filterLine 21 = .ok (.aload_n 1, 1) := by decide +kernel
theorem dX2_filterLine_22 : decode cX2_filterLine 22 = .ok (.iload_n 2, 1) := by decide +kernel
theorem dX2_filterLine_23 : decode cX2_filterLine 23 = .ok (.iload_n 3, 1) := by decide +kernel
theorem dX2_filterLine_24 : decode cX2_filterLine 24 = .ok (.iadd, 1) := by decide +kernel
theorem dX2_filterLine_25 : decode cX2_filterLine 25 = .ok (.iaload, 1) := by decide +kernel
theorem dX2_filterLine_26 : decode cX2_filterLine 26 = .ok (.istore 9, 2) := by decide +kernel
theorem dX2_filterLine_28 : decode cX2_filterLine 28 = .ok (.iload 6, 2) := by decide +kernel
theorem dX2_filterLine_30 : decode cX2_filterLine 30 = .ok (.iload 8, 2) := by decide +kernel
theorem dX2_filterLine_32 : decode cX2_filterLine 32 = .ok (.isub, 1) := by decide +kernel
theorem dX2_filterLine_33 : decode cX2_filterLine 33 = .ok (.invokestatic 131, 3) := by decide +kernel
theorem dX2_filterLine_36 : decode cX2_filterLine 36 = .ok (.aload_n 0, 1) := by decide +kernel
theorem dX2_filterLine_37 : decode cX2_filterLine 37 = .ok (.getfield 122, 3) := by decide +kernel
theorem dX2_filterLine_40 : decode cX2_filterLine 40 = .ok (.if_icmp .ge 33, 3) := by decide +kernel
theorem dX2_filterLine_43 : decode cX2_filterLine 43 = .ok (.iload 7, 2) := by decide +kernel
theorem dX2_filterLine_45 : decode cX2_filterLine 45 = .ok (.iload 6, 2) := by decide +kernel
theorem dX2_filterLine_47 : decode cX2_filterLine 47 = .ok (.isub, 1) := by decide +kernel
theorem dX2_filterLine_48 : decode cX2_filterLine 48 = .ok (.invokestatic 131, 3) := by decide +kernel
theorem dX2_filterLine_51 : decode cX2_filterLine 51 = .ok (.aload_n 0, 1) := by decide +kernel
theorem dX2_filterLine_52 : decode cX2_filterLine 52 = .ok (.getfield 128, 3) := by decide +kernel
theorem dX2_filterLine_55 : decode cX2_filterLine 55 = .ok (.if_icmp .ge 18, 3) := by decide +kernel
theorem dX2_filterLine_58 : decode cX2_filterLine 58 = .ok (.iload 9, 2) := by decide +kernel
theorem dX2_filterLine_60 : decode cX2_filterLine 60 = .ok (.iload 8, 2) := by decide +kernel
theorem dX2_filterLine_62 : decode cX2_filterLine 62 = .ok (.isub, 1) := by decide +kernel
theorem dX2_filterLine_63 : decode cX2_filterLine 63 = .ok (.invokestatic 131, 3) := by decide +kernel
theorem dX2_filterLine_66 : decode cX2_filterLine 66 = .ok (.aload_n 0, 1) := by decide +kernel
theorem dX2_filterLine_67 : decode cX2_filterLine 67 = .ok (.getfield 128, 3) := by decide +kernel
theorem dX2_filterLine_70 : decode cX2_filterLine 70 = .ok (.if_icmp .lt 4, 3) := by decide +kernel
theorem dX2_filterLine_73 : decode cX2_filterLine 73 = .ok (.return_, 1) := by decide +kernel
theorem dX2_filterLine_74 : decode cX2_filterLine 74 = .ok (.iload 5, 2) := by decide +kernel
theorem dX2_filterLine_76 : decode cX2_filterLine 76 = .ok (.ifCond .eq 27, 3) := by decide +kernel
theorem dX2_filterLine_79 : decode cX2_filterLine 79 = .ok (.aload_n 1, 1) := by decide +kernel
theorem dX2_filterLine_80 : decode cX2_filterLine 80 = .ok (.iload_n 2, 1) := by decide +kernel
theorem dX2_filterLine_81 : decode cX2_filterLine 81 = .ok (.iconst 3, 1) := by decide +kernel
theorem dX2_filterLine_82 : decode cX2_filterLine 82 = .ok (.iload_n 3, 1) := by decide +kernel
theorem dX2_filterLine_83 : decode cX2_filterLine 83 = .ok (.imul, 1) := by decide +kernel
theorem dX2_filterLine_84 : decode cX2_filterLine 84 = .ok (.isub, 1) := by decide +kernel
theorem dX2_filterLine_85 : decode cX2_filterLine 85 = .ok (.iaload, 1) := by decide +kernel
theorem dX2_filterLine_86 : decode cX2_filterLine 86 = .ok (.iload 6, 2) := by decide +kernel
theorem dX2_filterLine_88 : decode cX2_filterLine 88 = .ok (.isub, 1) := by decide +kernel
theorem dX2_filterLine_89 : decode cX2_filterLine 89 = .ok (.invokestatic 131, 3) := by decide +kernel
theorem dX2_filterLine_92 : decode cX2_filterLine 92 = .ok (.aload_n 0, 1) := by decide +kernel
theorem dX2_filterLine_93 : decode cX2_filterLine 93 = .ok (.getfield 128, 3) := by decide +kernel
theorem dX2_filterLine_96 : decode cX2_filterLine 96 = .ok (.if_icmp .ge 7, 3) := by decide +kernel
theorem dX2_filterLine_99 : decode cX2_filterLine 99 = .ok (.iconst 1, 1) := by decide +kernel
theorem dX2_filterLine_100 : decode cX2_filterLine 100 = .ok (.goto 4, 3) := by decide +kernel
theorem dX2_filterLine_103 : decode cX2_filterLine 103 = .ok (.iconst 0, 1) := by decide +kernel
theorem dX2_filterLine_104 : decode cX2_filterLine 104 = .ok (.istore 10, 2) := by decide +kernel
theorem dX2_filterLine_106 : decode cX2_filterLine 106 = .ok (.iload 5, 2) := by decide +kernel
theorem dX2_filterLine_108 : decode cX2_filterLine 108 = .ok (.ifCond .eq 27, 3) := by decide +kernel
theorem dX2_filterLine_111 : decode cX2_filterLine 111 = .ok (.aload_n 1, 1) := by decide +kernel
theorem dX2_filterLine_112 : decode cX2_filterLine 112 = .ok (.iload_n 2, 1) := by decide +kernel
theorem dX2_filterLine_113 : decode cX2_filterLine 113 = .ok (.iconst 2, 1) := by decide +kernel
theorem dX2_filterLine_114 : decode cX2_filterLine 114 = .ok (.iload_n 3, 1) := by decide +kernel
theorem dX2_filterLine_115 : decode cX2_filterLine 115 = .ok (.imul, 1) := by decide +kernel
theorem dX2_filterLine_116 : decode cX2_filterLine 116 = .ok (.iadd, 1) := by decide +kernel
theorem dX2_filterLine_117 : decode cX2_filterLine 117 = .ok (.iaload, 1) := by decide +kernel
theorem dX2_filterLine_118 : decode cX2_filterLine 118 = .ok (.iload 8, 2) := by decide +kernel
theorem dX2_filterLine_120 : decode cX2_filterLine 120 = .ok (.isub, 1) := by decide +kernel
theorem dX2_filterLine_121 : decode cX2_filterLine 121 = .ok (.invokestatic 131, 3) := by decide +kernel
theorem dX2_filterLine_124 : decode cX2_filterLine 124 = .ok (.aload_n 0, 1) := by decide +kernel
theorem dX2_filterLine_125 : decode cX2_filterLine 125 = .ok (.getfield 128, 3) := by decide +kernel
theorem dX2_filterLine_128 : decode cX2_filterLine 128 = .ok (.if_icmp .ge 7, 3) := by decide +kernel
theorem dX2_filterLine_131 : decode cX2_filterLine 131 = .ok (.iconst 1, 1) := by decide +kernel
theorem dX2_filterLine_132 : decode cX2_filterLine 132 = .ok (.goto 4, 3) := by decide +kernel
theorem dX2_filterLine_135 : decode cX2_filterLine 135 = .ok (.iconst 0, 1) := by decide +kernel
theorem dX2_filterLine_136 : decode cX2_filterLine 136 = .ok (.istore 11, 2) := by decide +kernel
theorem dX2_filterLine_138 : decode cX2_filterLine 138 = .ok (.iload 4, 2) := by decide +kernel
theorem dX2_filterLine_140 : decode cX2_filterLine 140 = .ok (.iconst 4, 1) := by decide +kernel
theorem dX2_filterLine_141 : decode cX2_filterLine 141 = .ok (.if_icmp .ne 83, 3) := by decide +kernel
theorem dX2_filterLine_144 : decode cX2_filterLine 144 = .ok (.iload 6, 2) := by decide +kernel
theorem dX2_filterLine_146 : decode cX2_filterLine 146 = .ok (.iload 8, 2) := by decide +kernel
theorem dX2_filterLine_148 : decode cX2_filterLine 148 = .ok (.isub, 1) := by decide +kernel
theorem dX2_filterLine_149 : decode cX2_filterLine 149 = .ok (.invokestatic 131, 3) := by decide +kernel
theorem dX2_filterLine_152 : decode cX2_filterLine 152 = .ok (.aload_n 0, 1) := by decide +kernel
theorem dX2_filterLine_153 : decode cX2_filterLine 153 = .ok (.getfield 122, 3) := by decide +kernel
theorem dX2_filterLine_156 : decode cX2_filterLine 156 = .ok (.iconst 2, 1) := by decide +kernel
theorem dX2_filterLine_157 : decode cX2_filterLine 157 = .ok (.ishr, 1) := by decide +kernel
theorem dX2_filterLine_158 : decode cX2_filterLine 158 = .ok (.iconst 2, 1) := by decide +kernel
theorem dX2_filterLine_159 : decode cX2_filterLine 159 = .ok (.iadd, 1) := by decide +kernel
theorem dX2_filterLine_160 : decode cX2_filterLine 160 = .ok (.if_icmp .ge 7, 3) := by decide +kernel
theorem dX2_filterLine_163 : decode cX2_filterLine 163 = .ok (.iconst 1, 1) := by decide +kernel
theorem dX2_filterLine_164 : decode cX2_filterLine 164 = .ok (.goto 4, 3) := by decide +kernel
theorem dX2_filterLine_167 : decode cX2_filterLine 167 = .ok (.iconst 0, 1) := by decide +kernel
theorem dX2_filterLine_168 : decode cX2_filterLine 168 = .ok (.istore 12, 2) := by decide +kernel
theorem dX2_filterLine_170 : decode cX2_filterLine 170 = .ok (.aload_n 1, 1) := by decide +kernel
theorem dX2_filterLine_171 : decode cX2_filterLine 171 = .ok (.iload_n 2, 1) := by decide +kernel
theorem dX2_filterLine_172 : decode cX2_filterLine 172 = .ok (.iload_n 3, 1) := by decide +kernel
theorem dX2_filterLine_173 : decode cX2_filterLine 173 = .ok (.isub, 1) := by decide +kernel
theorem dX2_filterLine_174 : decode cX2_filterLine 174 = .ok (.iload_n 3, 1) := by decide +kernel
theorem dX2_filterLine_175 : decode cX2_filterLine 175 = .ok (.ineg, 1) := by decide +kernel
theorem dX2_filterLine_176 : decode cX2_filterLine 176 = .ok (.iload 10, 2) := by decide +kernel
theorem dX2_filterLine_178 : decode cX2_filterLine 178 = .ok (.ifCond .eq 12, 3) := by decide +kernel
theorem dX2_filterLine_181 : decode cX2_filterLine 181 = .ok (.iload 12, 2) := by decide +kernel
theorem dX2_filterLine_183 : decode cX2_filterLine 183 = .ok (.ifCond .eq 7, 3) := by decide +kernel
theorem dX2_filterLine_186 : decode cX2_filterLine 186 = .ok (.iconst 1, 1) := by decide +kernel
theorem dX2_filterLine_187 : decode cX2_filterLine 187 = .ok (.goto 4, 3) := by decide +kernel
theorem dX2_filterLine_190 : decode cX2_filterLine 190 = .ok (.iconst 0, 1) := by decide +kernel
theorem dX2_filterLine_191 : decode cX2_filterLine 191 = .ok (.iload 8, 2) := by decide +kernel
theorem dX2_filterLine_193 : decode cX2_filterLine 193 = .ok (.iload 9, 2) := by decide +kernel
theorem dX2_filterLine_195 : decode cX2_filterLine 195 = .ok (.invokestatic 136, 3) := by decide +kernel
theorem dX2_filterLine_198 : decode cX2_filterLine 198 = .ok (.aload_n 1, 1) := by decide +kernel
theorem dX2_filterLine_199 : decode cX2_filterLine 199 = .ok (.iload_n 2, 1) := by decide +kernel
theorem dX2_filterLine_200 : decode cX2_filterLine 200 = .ok (.iload_n 3, 1) := by decide +kernel
theorem dX2_filterLine_201 : decode cX2_filterLine 201 = .ok (.iload 11, 2) := by decide +kernel
theorem dX2_filterLine_203 : decode cX2_filterLine 203 = .ok (.ifCond .eq 12, 3) := by decide +kernel
theorem dX2_filterLine_206 : decode cX2_filterLine 206 = .ok (.iload 12, 2) := by decide +kernel
theorem dX2_filterLine_208 : decode cX2_filterLine 208 = .ok (.ifCond .eq 7, 3) := by decide +kernel
theorem dX2_filterLine_211 : decode cX2_filterLine 211 = .ok (.iconst 1, 1) := by decide +kernel
theorem dX2_filterLine_212 : decode cX2_filterLine 212 = .ok (.goto 4, 3) := by decide +kernel
theorem dX2_filterLine_215 : decode cX2_filterLine 215 = .ok (.iconst 0, 1) := by decide +kernel
theorem dX2_filterLine_216 : decode cX2_filterLine 216 = .ok (.iload 6, 2) := by decide +kernel
theorem dX2_filterLine_218 : decode cX2_filterLine 218 = .ok (.iload 7, 2) := by decide +kernel
theorem dX2_filterLine_220 : decode cX2_filterLine 220 = .ok (.invokestatic 136, 3) := by decide +kernel
theorem dX2_filterLine_223 : decode cX2_filterLine 223 = .ok (.return_, 1) := by decide +kernel
theorem dX2_filterLine_224 : decode cX2_filterLine 224 = .ok (.aload_n 0, 1) := by decide +kernel
theorem dX2_filterLine_225 : decode cX2_filterLine 225 = .ok (.getfield 116, 3) := by decide +kernel
theorem dX2_filterLine_228 : decode cX2_filterLine 228 = .ok (.bipush 17, 2) := by decide +kernel
theorem dX2_filterLine_230 : decode cX2_filterLine 230 = .ok (.if_icmp .ge 7, 3) := by decide +kernel
theorem dX2_filterLine_233 : decode cX2_filterLine 233 = .ok (.iconst 0, 1) := by decide +kernel
theorem dX2_filterLine_234 : decode cX2_filterLine 234 = .ok (.goto 21, 3) := by decide +kernel
theorem dX2_filterLine_237 : decode cX2_filterLine 237 = .ok (.getstatic 140, 3) := by decide +kernel
theorem dX2_filterLine_240 : decode cX2_filterLine 240 = .ok (.iconst 3, 1) := by decide +kernel
theorem dX2_filterLine_241 : decode cX2_filterLine 241 = .ok (.aload_n 0, 1) := by decide +kernel
theorem dX2_filterLine_242 : decode cX2_filterLine 242 = .ok (.getfield 116, 3) := by decide +kernel
theorem dX2_filterLine_245 : decode cX2_filterLine 245 = .ok (.bipush 17, 2) := by decide +kernel
theorem dX2_filterLine_247 : decode cX2_filterLine 247 = .ok (.isub, 1) := by decide +kernel
theorem dX2_filterLine_248 : decode cX2_filterLine 248 = .ok (.imul, 1) := by decide +kernel
theorem dX2_filterLine_249 : decode cX2_filterLine 249 = .ok (.iload 4, 2) := by decide +kernel
theorem dX2_filterLine_251 : decode cX2_filterLine 251 = .ok (.iadd, 1) := by decide +kernel
theorem dX2_filterLine_252 : decode cX2_filterLine 252 = .ok (.iconst 1, 1) := by decide +kernel
theorem dX2_filterLine_253 : decode cX2_filterLine 253 = .ok (.isub, 1) := by decide +kernel
theorem dX2_filterLine_254 : decode cX2_filterLine 254 = .ok (.iaload, 1) := by decide +kernel
theorem dX2_filterLine_255 : decode cX2_filterLine 255 = .ok (.istore 12, 2) := by decide +kernel
theorem dX2_filterLine_257 : decode cX2_filterLine 257 = .ok (.iload 5, 2) := by decide +kernel
theorem dX2_filterLine_259 : decode cX2_filterLine 259 = .ok (.ifCond .eq 30, 3) := by decide +kernel
theorem dX2_filterLine_262 : decode cX2_filterLine 262 = .ok (.iload 12, 2) := by decide +kernel
theorem dX2_filterLine_264 : decode cX2_filterLine 264 = .ok (.iload 10, 2) := by decide +kernel
theorem dX2_filterLine_266 : decode cX2_filterLine 266 = .ok (.ifCond .eq 7, 3) := by decide +kernel
theorem dX2_filterLine_269 : decode cX2_filterLine 269 = .ok (.iconst 1, 1) := by decide +kernel
theorem dX2_filterLine_270 : decode cX2_filterLine 270 = .ok (.goto 4, 3) := by decide +kernel
theorem dX2_filterLine_273 : decode cX2_filterLine 273 = .ok (.iconst 0, 1) := by decide +kernel
theorem dX2_filterLine_274 : decode cX2_filterLine 274 = .ok (.iadd, 1) := by decide +kernel
theorem dX2_filterLine_275 : decode cX2_filterLine 275 = .ok (.iload 11, 2) := by decide +kernel
theorem dX2_filterLine_277 : decode cX2_filterLine 277 = .ok (.ifCond .eq 7, 3) := by decide +kernel
theorem dX2_filterLine_280 : decode cX2_filterLine 280 = .ok (.iconst 1, 1) := by decide +kernel
theorem dX2_filterLine_281 : decode cX2_filterLine 281 = .ok (.goto 4, 3) := by decide +kernel
theorem dX2_filterLine_284 : decode cX2_filterLine 284 = .ok (.iconst 0, 1) := by decide +kernel
theorem dX2_filterLine_285 : decode cX2_filterLine 285 = .ok (.iadd, 1) := by decide +kernel
theorem dX2_filterLine_286 : decode cX2_filterLine 286 = .ok (.goto 7, 3) := by decide +kernel
theorem dX2_filterLine_289 : decode cX2_filterLine 289 = .ok (.iload 12, 2) := by decide +kernel
theorem dX2_filterLine_291 : decode cX2_filterLine 291 = .ok (.iconst 1, 1) := by decide +kernel
theorem dX2_filterLine_292 : decode cX2_filterLine 292 = .ok (.iadd, 1) := by decide +kernel
theorem dX2_filterLine_293 : decode cX2_filterLine 293 = .ok (.istore 13, 2) := by decide +kernel
theorem dX2_filterLine_295 : decode cX2_filterLine 295 = .ok (.iload 8, 2) := by decide +kernel
theorem dX2_filterLine_297 : decode cX2_filterLine 297 = .ok (.iload 6, 2) := by decide +kernel
theorem dX2_filterLine_299 : decode cX2_filterLine 299 = .ok (.isub, 1) := by decide +kernel
theorem dX2_filterLine_300 : decode cX2_filterLine 300 = .ok (.iconst 4, 1) := by decide +kernel
theorem dX2_filterLine_301 : decode cX2_filterLine 301 = .ok (.imul, 1) := by decide +kernel
theorem dX2_filterLine_302 : decode cX2_filterLine 302 = .ok (.iload 7, 2) := by decide +kernel
theorem dX2_filterLine_304 : decode cX2_filterLine 304 = .ok (.iload 9, 2) := by decide +kernel
theorem dX2_filterLine_306 : decode cX2_filterLine 306 = .ok (.isub, 1) := by decide +kernel
theorem dX2_filterLine_307 : decode cX2_filterLine 307 = .ok (.iadd, 1) := by decide +kernel
theorem dX2_filterLine_308 : decode cX2_filterLine 308 = .ok (.iconst 4, 1) := by decide +kernel
theorem dX2_filterLine_309 : decode cX2_filterLine 309 = .ok (.iadd, 1) := by decide +kernel
theorem dX2_filterLine_310 : decode cX2_filterLine 310 = .ok (.iconst 3, 1) := by decide +kernel
theorem dX2_filterLine_311 : decode cX2_filterLine 311 = .ok (.ishr, 1) := by decide +kernel
theorem dX2_filterLine_312 : decode cX2_filterLine 312 = .ok (.istore 14, 2) := by decide +kernel
theorem dX2_filterLine_314 : decode cX2_filterLine 314 = .ok (.iload 14, 2) := by decide +kernel
theorem dX2_filterLine_316 : decode cX2_filterLine 316 = .ok (.iload 13, 2) := by decide +kernel
theorem dX2_filterLine_318 : decode cX2_filterLine 318 = .ok (.ineg, 1) := by decide +kernel
theorem dX2_filterLine_319 : decode cX2_filterLine 319 = .ok (.if_icmp .ge 9, 3) := by decide +kernel
theorem dX2_filterLine_322 : decode cX2_filterLine 322 = .ok (.iload 13, 2) := by decide +kernel
theorem dX2_filterLine_324 : decode cX2_filterLine 324 = .ok (.ineg, 1) := by decide +kernel
theorem dX2_filterLine_325 : decode cX2_filterLine 325 = .ok (.goto 17, 3) := by decide +kernel
theorem dX2_filterLine_328 : decode cX2_filterLine 328 = .ok (.iload 14, 2) := by decide +kernel
theorem dX2_filterLine_330 : decode cX2_filterLine 330 = .ok (.iload 13, 2) := by decide +kernel
theorem dX2_filterLine_332 : decode cX2_filterLine 332 = .ok (.if_icmp .le 8, 3) := by decide +kernel
theorem dX2_filterLine_335 : decode cX2_filterLine 335 = .ok (.iload 13, 2) := by decide +kernel
theorem dX2_filterLine_337 : decode cX2_filterLine 337 = .ok (.goto 5, 3) := by decide +kernel
theorem dX2_filterLine_340 : decode cX2_filterLine 340 = .ok (.iload 14, 2) := by decide +kernel
theorem dX2_filterLine_342 : decode cX2_filterLine 342 = .ok (.istore 14, 2) := by decide +kernel
theorem dX2_filterLine_344 : decode cX2_filterLine 344 = .ok (.iload 6, 2) := by decide +kernel
theorem dX2_filterLine_346 : decode cX2_filterLine 346 = .ok (.iload 8, 2) := by decide +kernel
theorem dX2_filterLine_348 : decode cX2_filterLine 348 = .ok (.iadd, 1) := by decide +kernel
theorem dX2_filterLine_349 : decode cX2_filterLine 349 = .ok (.iconst 1, 1) := by decide +kernel
theorem dX2_filterLine_350 : decode cX2_filterLine 350 = .ok (.iadd, 1) := by decide +kernel
theorem dX2_filterLine_351 : decode cX2_filterLine 351 = .ok (.iconst 1, 1) := by decide +kernel
theorem dX2_filterLine_352 : decode cX2_filterLine 352 = .ok (.ishr, 1) := by decide +kernel
theorem dX2_filterLine_353 : decode cX2_filterLine 353 = .ok (.istore 15, 2) := by decide +kernel
theorem dX2_filterLine_355 : decode cX2_filterLine 355 = .ok (.iload 10, 2) := by decide +kernel
theorem dX2_filterLine_357 : decode cX2_filterLine 357 = .ok (.ifCond .eq 60, 3) := by decide +kernel
theorem dX2_filterLine_360 : decode cX2_filterLine 360 = .ok (.aload_n 1, 1) := by decide +kernel
theorem dX2_filterLine_361 : decode cX2_filterLine 361 = .ok (.iload_n 2, 1) := by decide +kernel
theorem dX2_filterLine_362 : decode cX2_filterLine 362 = .ok (.iconst 3, 1) := by decide +kernel
theorem dX2_filterLine_363 : decode cX2_filterLine 363 = .ok (.iload_n 3, 1) := by decide +kernel
theorem dX2_filterLine_364 : decode cX2_filterLine 364 = .ok (.imul, 1) := by decide +kernel
theorem dX2_filterLine_365 : decode cX2_filterLine 365 = .ok (.isub, 1) := by decide +kernel
theorem dX2_filterLine_366 : decode cX2_filterLine 366 = .ok (.iaload, 1) := by decide +kernel
theorem dX2_filterLine_367 : decode cX2_filterLine 367 = .ok (.iload 15, 2) := by decide +kernel
theorem dX2_filterLine_369 : decode cX2_filterLine 369 = .ok (.iadd, 1) := by decide +kernel
theorem dX2_filterLine_370 : decode cX2_filterLine 370 = .ok (.iconst 2, 1) := by decide +kernel
theorem dX2_filterLine_371 : decode cX2_filterLine 371 = .ok (.iload 7, 2) := by decide +kernel
theorem dX2_filterLine_373 : decode cX2_filterLine 373 = .ok (.imul, 1) := by decide +kernel
theorem dX2_filterLine_374 : decode cX2_filterLine 374 = .ok (.isub, 1) := by decide +kernel
theorem dX2_filterLine_375 : decode cX2_filterLine 375 = .ok (.iconst 1, 1) := by decide +kernel
theorem dX2_filterLine_376 : decode cX2_filterLine 376 = .ok (.ishr, 1) := by decide +kernel
theorem dX2_filterLine_377 : decode cX2_filterLine 377 = .ok (.istore 16, 2) := by decide +kernel
theorem dX2_filterLine_379 : decode cX2_filterLine 379 = .ok (.aload_n 1, 1) := by decide +kernel
theorem dX2_filterLine_380 : decode cX2_filterLine 380 = .ok (.iload_n 2, 1) := by decide +kernel
theorem dX2_filterLine_381 : decode cX2_filterLine 381 = .ok (.iconst 2, 1) := by decide +kernel
theorem dX2_filterLine_382 : decode cX2_filterLine 382 = .ok (.iload_n 3, 1) := by decide +kernel
theorem dX2_filterLine_383 : decode cX2_filterLine 383 = .ok (.imul, 1) := by decide +kernel
theorem dX2_filterLine_384 : decode cX2_filterLine 384 = .ok (.isub, 1) := by decide +kernel
theorem dX2_filterLine_385 : decode cX2_filterLine 385 = .ok (.iload 7, 2) := by decide +kernel
theorem dX2_filterLine_387 : decode cX2_filterLine 387 = .ok (.iload 16, 2) := by decide +kernel
theorem dX2_filterLine_389 : decode cX2_filterLine 389 = .ok (.iload 12, 2) := by decide +kernel
theorem dX2_filterLine_391 : decode cX2_filterLine 391 = .ok (.ineg, 1) := by decide +kernel
theorem dX2_filterLine_392 : decode cX2_filterLine 392 = .ok (.if_icmp .ge 9, 3) := by decide +kernel
theorem dX2_filterLine_395 : decode cX2_filterLine 395 = .ok (.iload 12, 2) := by decide +kernel
theorem dX2_filterLine_397 : decode cX2_filterLine 397 = .ok (.ineg, 1) := by decide +kernel
theorem dX2_filterLine_398 : decode cX2_filterLine 398 = .ok (.goto 17, 3) := by decide +kernel
theorem dX2_filterLine_401 : decode cX2_filterLine 401 = .ok (.iload 16, 2) := by decide +kernel
theorem dX2_filterLine_403 : decode cX2_filterLine 403 = .ok (.iload 12, 2) := by decide +kernel
theorem dX2_filterLine_405 : decode cX2_filterLine 405 = .ok (.if_icmp .le 8, 3) := by decide +kernel
theorem dX2_filterLine_408 : decode cX2_filterLine 408 = .ok (.iload 12, 2) := by decide +kernel
theorem dX2_filterLine_410 : decode cX2_filterLine 410 = .ok (.goto 5, 3) := by decide +kernel
theorem dX2_filterLine_413 : decode cX2_filterLine 413 = .ok (.iload 16, 2) := by decide +kernel
theorem dX2_filterLine_415 : decode cX2_filterLine 415 = .ok (.iadd, 1) := by decide +kernel
theorem dX2_filterLine_416 : decode cX2_filterLine 416 = .ok (.iastore, 1) := by decide +kernel
theorem dX2_filterLine_417 : decode cX2_filterLine 417 = .ok (.iload 11, 2) := by decide +kernel
theorem dX2_filterLine_419 : decode cX2_filterLine 419 = .ok (.ifCond .eq 58, 3) := by decide +kernel
theorem dX2_filterLine_422 : decode cX2_filterLine 422 = .ok (.aload_n 1, 1) := by decide +kernel
theorem dX2_filterLine_423 : decode cX2_filterLine 423 = .ok (.iload_n 2, 1) := by decide +kernel
theorem dX2_filterLine_424 : decode cX2_filterLine 424 = .ok (.iconst 2, 1) := by decide +kernel
theorem dX2_filterLine_425 : decode cX2_filterLine 425 = .ok (.iload_n 3, 1) := by decide +kernel
theorem dX2_filterLine_426 : decode cX2_filterLine 426 = .ok (.imul, 1) := by decide +kernel
theorem dX2_filterLine_427 : decode cX2_filterLine 427 = .ok (.iadd, 1) := by decide +kernel
theorem dX2_filterLine_428 : decode cX2_filterLine 428 = .ok (.iaload, 1) := by decide +kernel
theorem dX2_filterLine_429 : decode cX2_filterLine 429 = .ok (.iload 15, 2) := by decide +kernel
theorem dX2_filterLine_431 : decode cX2_filterLine 431 = .ok (.iadd, 1) := by decide +kernel
theorem dX2_filterLine_432 : decode cX2_filterLine 432 = .ok (.iconst 2, 1) := by decide +kernel
theorem dX2_filterLine_433 : decode cX2_filterLine 433 = .ok (.iload 9, 2) := by decide +kernel
theorem dX2_filterLine_435 : decode cX2_filterLine 435 = .ok (.imul, 1) := by decide +kernel
theorem dX2_filterLine_436 : decode cX2_filterLine 436 = .ok (.isub, 1) := by decide +kernel
theorem dX2_filterLine_437 : decode cX2_filterLine 437 = .ok (.iconst 1, 1) := by decide +kernel
theorem dX2_filterLine_438 : decode cX2_filterLine 438 = .ok (.ishr, 1) := by decide +kernel
theorem dX2_filterLine_439 : decode cX2_filterLine 439 = .ok (.istore 16, 2) := by decide +kernel
theorem dX2_filterLine_441 : decode cX2_filterLine 441 = .ok (.aload_n 1, 1) := by decide +kernel
theorem dX2_filterLine_442 : decode cX2_filterLine 442 = .ok (.iload_n 2, 1) := by decide +kernel
theorem dX2_filterLine_443 : decode cX2_filterLine 443 = .ok (.iload_n 3, 1) := by decide +kernel
theorem dX2_filterLine_444 : decode cX2_filterLine 444 = .ok (.iadd, 1) := by decide +kernel
theorem dX2_filterLine_445 : decode cX2_filterLine 445 = .ok (.iload 9, 2) := by decide +kernel
theorem dX2_filterLine_447 : decode cX2_filterLine 447 = .ok (.iload 16, 2) := by decide +kernel
theorem dX2_filterLine_449 : decode cX2_filterLine 449 = .ok (.iload 12, 2) := by decide +kernel
theorem dX2_filterLine_451 : decode cX2_filterLine 451 = .ok (.ineg, 1) := by decide +kernel
theorem dX2_filterLine_452 : decode cX2_filterLine 452 = .ok (.if_icmp .ge 9, 3) := by decide +kernel
theorem dX2_filterLine_455 : decode cX2_filterLine 455 = .ok (.iload 12, 2) := by decide +kernel
theorem dX2_filterLine_457 : decode cX2_filterLine 457 = .ok (.ineg, 1) := by decide +kernel
theorem dX2_filterLine_458 : decode cX2_filterLine 458 = .ok (.goto 17, 3) := by decide +kernel
theorem dX2_filterLine_461 : decode cX2_filterLine 461 = .ok (.iload 16, 2) := by decide +kernel
theorem dX2_filterLine_463 : decode cX2_filterLine 463 = .ok (.iload 12, 2) := by decide +kernel
theorem dX2_filterLine_465 : decode cX2_filterLine 465 = .ok (.if_icmp .le 8, 3) := by decide +kernel
theorem dX2_filterLine_468 : decode cX2_filterLine 468 = .ok (.iload 12, 2) := by decide +kernel
theorem dX2_filterLine_470 : decode cX2_filterLine 470 = .ok (.goto 5, 3) := by decide +kernel
theorem dX2_filterLine_473 : decode cX2_filterLine 473 = .ok (.iload 16, 2) := by decide +kernel
theorem dX2_filterLine_475 : decode cX2_filterLine 475 = .ok (.iadd, 1) := by decide +kernel
theorem dX2_filterLine_476 : decode cX2_filterLine 476 = .ok (.iastore, 1) := by decide +kernel
theorem dX2_filterLine_477 : decode cX2_filterLine 477 = .ok (.aload_n 1, 1) := by decide +kernel
theorem dX2_filterLine_478 : decode cX2_filterLine 478 = .ok (.iload_n 2, 1) := by decide +kernel
theorem dX2_filterLine_479 : decode cX2_filterLine 479 = .ok (.iload_n 3, 1) := by decide +kernel
theorem dX2_filterLine_480 : decode cX2_filterLine 480 = .ok (.isub, 1) := by decide +kernel
theorem dX2_filterLine_481 : decode cX2_filterLine 481 = .ok (.iload 6, 2) := by decide +kernel
theorem dX2_filterLine_483 : decode cX2_filterLine 483 = .ok (.iload 14, 2) := by decide +kernel
theorem dX2_filterLine_485 : decode cX2_filterLine 485 = .ok (.iadd, 1) := by decide +kernel
theorem dX2_filterLine_486 : decode cX2_filterLine 486 = .ok (.invokestatic 143, 3) := by decide +kernel
theorem dX2_filterLine_489 : decode cX2_filterLine 489 = .ok (.iastore, 1) := by decide +kernel
theorem dX2_filterLine_490 : decode cX2_filterLine 490 = .ok (.aload_n 1, 1) := by decide +kernel
theorem dX2_filterLine_491 : decode cX2_filterLine 491 = .ok (.iload_n 2, 1) := by decide +kernel
theorem dX2_filterLine_492 : decode cX2_filterLine 492 = .ok (.iload 8, 2) := by decide +kernel
theorem dX2_filterLine_494 : decode cX2_filterLine 494 = .ok (.iload 14, 2) := by decide +kernel
theorem dX2_filterLine_496 : decode cX2_filterLine 496 = .ok (.isub, 1) := by decide +kernel
theorem dX2_filterLine_497 : decode cX2_filterLine 497 = .ok (.invokestatic 143, 3) := by decide +kernel
theorem dX2_filterLine_500 : decode cX2_filterLine 500 = .ok (.iastore, 1) := by decide +kernel
theorem dX2_filterLine_501 : decode cX2_filterLine 501 = .ok (.return_, 1) := by decide +kernel
def FX2_filterLine (G : GG) (M : DD) (a : Nat) (p0 : Option Nat) (p1 : Int32) (p2 : Int32) (p3 : Int32) (p4 : Int32) : Option (DD) :=
  ltt ((p1 - p2)) fun x1 =>
  dr G 13 p0 fun b2 =>
  chk (¬ (x1 < 0 ∨ G.2.2 b2 ≤ x1.toNatClampNeg)) <|
  ltt (M.1 b2 x1.toNatClampNeg) fun x3 =>
  ltt ((((2 : Int32)) * p2)) fun x4 =>
  ltt ((p1 - x4)) fun x5 =>
  chk (¬ (x5 < 0 ∨ G.2.2 b2 ≤ x5.toNatClampNeg)) <|
  ltt (M.1 b2 x5.toNatClampNeg) fun x6 =>
  chk (¬ (p1 < 0 ∨ G.2.2 b2 ≤ p1.toNatClampNeg)) <|
  ltt (M.1 b2 p1.toNatClampNeg) fun x7 =>
  ltt ((p1 + p2)) fun x8 =>
  chk (¬ (x8 < 0 ∨ G.2.2 b2 ≤ x8.toNatClampNeg)) <|
  ltt (M.1 b2 x8.toNatClampNeg) fun x9 =>
  ltt ((x3 - x7)) fun x10 =>
  ltt (if (0 : Int32) ≤ x10 then x10 else 0 - x10) fun x11 =>
  ltt (M.1 a 2) fun x12 =>
  if x12 ≤ x11 then (some M) else
  (ltt ((x6 - x3)) fun x14 =>
  ltt (if (0 : Int32) ≤ x14 then x14 else 0 - x14) fun x15 =>
  ltt (M.1 a 3) fun x16 =>
  if x16 ≤ x15 then (some M) else
  (ltt ((x9 - x7)) fun x18 =>
  ltt (if (0 : Int32) ≤ x18 then x18 else 0 - x18) fun x19 =>
  ltt (M.1 a 3) fun x20 =>
  if x19 < x20 then (bnd (if p4 = ((0 : Int32)) then (some ((0 : Int32), M)) else
  (ltt ((((3 : Int32)) * p2)) fun x131 =>
  ltt ((p1 - x131)) fun x132 =>
  chk (¬ (x132 < 0 ∨ G.2.2 b2 ≤ x132.toNatClampNeg)) <|
  ltt (M.1 b2 x132.toNatClampNeg) fun x133 =>
  ltt ((x133 - x3)) fun x134 =>
  ltt (if (0 : Int32) ≤ x134 then x134 else 0 - x134) fun x135 =>
  ltt (M.1 a 3) fun x136 =>
  bnd (if x136 ≤ x135 then (some ((0 : Int32))) else
  (some ((1 : Int32)))) fun (y137 : Int32) =>
  some (y137, M))) fun (y22 : Int32 × DD) =>
  bnd (if p4 = ((0 : Int32)) then (some ((0 : Int32), y22.2)) else
  (ltt ((((2 : Int32)) * p2)) fun x122 =>
  ltt ((p1 + x122)) fun x123 =>
  chk (¬ (x123 < 0 ∨ G.2.2 b2 ≤ x123.toNatClampNeg)) <|
  ltt (y22.2.1 b2 x123.toNatClampNeg) fun x124 =>
  ltt ((x124 - x7)) fun x125 =>
  ltt (if (0 : Int32) ≤ x125 then x125 else 0 - x125) fun x126 =>
  ltt (y22.2.1 a 3) fun x127 =>
  bnd (if x127 ≤ x126 then (some ((0 : Int32))) else
  (some ((1 : Int32)))) fun (y128 : Int32) =>
  some (y128, y22.2))) fun (y23 : Int32 × DD) =>
  if p3 = ((4 : Int32)) then (ltt ((x3 - x7)) fun x102 =>
  ltt (if (0 : Int32) ≤ x102 then x102 else 0 - x102) fun x103 =>
  ltt (y23.2.1 a 2) fun x104 =>
  ltt ((x104 >>> (((2 : Int32)) &&& 31))) fun x105 =>
  ltt ((x105 + ((2 : Int32)))) fun x106 =>
  bnd (if x106 ≤ x103 then (some ((0 : Int32))) else
  (some ((1 : Int32)))) fun (y107 : Int32) =>
  ltt ((p1 - p2)) fun x108 =>
  ltt (-p2) fun x109 =>
  bnd (if y22.1 = ((0 : Int32)) then (some ((0 : Int32))) else
  (bnd (if y107 = ((0 : Int32)) then (some ((0 : Int32))) else
  (some ((1 : Int32)))) fun (y118 : Int32) =>
  some (y118))) fun (y110 : Int32) =>
  bnd (FX2_smooth G y23.2 p0 x108 x109 y110 x7 x9) fun y111 =>
  bnd (if y23.1 = ((0 : Int32)) then (some ((0 : Int32))) else
  (bnd (if y107 = ((0 : Int32)) then (some ((0 : Int32))) else
  (some ((1 : Int32)))) fun (y115 : Int32) =>
  some (y115))) fun (y112 : Int32) =>
  bnd (FX2_smooth G y111 p0 p1 p2 y112 x3 x6) fun y113 =>
  some y113) else
  (ltt (y23.2.1 a 4) fun x25 =>
  bnd (if ((17 : Int32)) ≤ x25 then (ltt (y23.2.1 a 4) fun x96 =>
  ltt ((x96 - ((17 : Int32)))) fun x97 =>
  ltt ((((3 : Int32)) * x97)) fun x98 =>
  ltt ((x98 + p3)) fun x99 =>
  ltt ((x99 - ((1 : Int32)))) fun x100 =>
  chk (¬ (x100 < 0 ∨ 105 ≤ x100.toNatClampNeg)) <|
  ltt ((sT 5).getD x100.toNatClampNeg 0) fun x101 =>
  some (x101)) else
  (some ((0 : Int32)))) fun (y26 : Int32) =>
  bnd (if p4 = ((0 : Int32)) then (ltt ((y26 + ((1 : Int32)))) fun x88 =>
  some (x88)) else
  (bnd (if y22.1 = ((0 : Int32)) then (some ((0 : Int32))) else
  (some ((1 : Int32)))) fun (y89 : Int32) =>
  ltt ((y26 + y89)) fun x90 =>
  bnd (if y23.1 = ((0 : Int32)) then (some ((0 : Int32))) else
  (some ((1 : Int32)))) fun (y91 : Int32) =>
  ltt ((x90 + y91)) fun x92 =>
  some (x92))) fun (y27 : Int32) =>
  ltt ((x7 - x3)) fun x28 =>
  ltt ((x28 * ((4 : Int32)))) fun x29 =>
  ltt ((x6 - x9)) fun x30 =>
  ltt ((x29 + x30)) fun x31 =>
  ltt ((x31 + ((4 : Int32)))) fun x32 =>
  ltt ((x32 >>> (((3 : Int32)) &&& 31))) fun x33 =>
  ltt (-y27) fun x34 =>
  bnd (if x34 ≤ x33 then (bnd (if x33 ≤ y27 then (some (x33)) else
  (some (y27))) fun (y84 : Int32) =>
  some (y84)) else
  (ltt (-y27) fun x86 =>
  some (x86))) fun (y35 : Int32) =>
  ltt ((x3 + x7)) fun x36 =>
  ltt ((x36 + ((1 : Int32)))) fun x37 =>
  ltt ((x37 >>> (((1 : Int32)) &&& 31))) fun x38 =>
  bnd (if y22.1 = ((0 : Int32)) then (some (y23.2)) else
  (ltt ((((3 : Int32)) * p2)) fun x66 =>
  ltt ((p1 - x66)) fun x67 =>
  chk (¬ (x67 < 0 ∨ G.2.2 b2 ≤ x67.toNatClampNeg)) <|
  ltt (y23.2.1 b2 x67.toNatClampNeg) fun x68 =>
  ltt ((x68 + x38)) fun x69 =>
  ltt ((((2 : Int32)) * x6)) fun x70 =>
  ltt ((x69 - x70)) fun x71 =>
  ltt ((x71 >>> (((1 : Int32)) &&& 31))) fun x72 =>
  ltt ((((2 : Int32)) * p2)) fun x73 =>
  ltt ((p1 - x73)) fun x74 =>
  ltt (-y26) fun x75 =>
  bnd (if x75 ≤ x72 then (bnd (if x72 ≤ y26 then (some (x72)) else
  (some (y26))) fun (y80 : Int32) =>
  some (y80)) else
  (ltt (-y26) fun x82 =>
  some (x82))) fun (y76 : Int32) =>
  ltt ((x6 + y76)) fun x77 =>
  chk (¬ (x74 < 0 ∨ G.2.2 b2 ≤ x74.toNatClampNeg)) <|
  ltt (uI y23.2 b2 x74.toNatClampNeg x77) fun M78 =>
  some (M78))) fun (y39 : DD) =>
  bnd (if y23.1 = ((0 : Int32)) then (some (y39)) else
  (ltt ((((2 : Int32)) * p2)) fun x49 =>
  ltt ((p1 + x49)) fun x50 =>
  chk (¬ (x50 < 0 ∨ G.2.2 b2 ≤ x50.toNatClampNeg)) <|
  ltt (y39.1 b2 x50.toNatClampNeg) fun x51 =>
  ltt ((x51 + x38)) fun x52 =>
  ltt ((((2 : Int32)) * x9)) fun x53 =>
  ltt ((x52 - x53)) fun x54 =>
  ltt ((x54 >>> (((1 : Int32)) &&& 31))) fun x55 =>
  ltt ((p1 + p2)) fun x56 =>
  ltt (-y26) fun x57 =>
  bnd (if x57 ≤ x55 then (bnd (if x55 ≤ y26 then (some (x55)) else
  (some (y26))) fun (y62 : Int32) =>
  some (y62)) else
  (ltt (-y26) fun x64 =>
  some (x64))) fun (y58 : Int32) =>
  ltt ((x9 + y58)) fun x59 =>
  chk (¬ (x56 < 0 ∨ G.2.2 b2 ≤ x56.toNatClampNeg)) <|
  ltt (uI y39 b2 x56.toNatClampNeg x59) fun M60 =>
  some (M60))) fun (y40 : DD) =>
  ltt ((p1 - p2)) fun x41 =>
  ltt ((x3 + y35)) fun x42 =>
  bnd (FX11_clip G y40 x42) fun y43 =>
  chk (¬ (x41 < 0 ∨ G.2.2 b2 ≤ x41.toNatClampNeg)) <|
  ltt (uI y43.1 b2 x41.toNatClampNeg y43.2) fun M44 =>
  ltt ((x7 - y35)) fun x45 =>
  bnd (FX11_clip G M44 x45) fun y46 =>
  chk (¬ (p1 < 0 ∨ G.2.2 b2 ≤ p1.toNatClampNeg)) <|
  ltt (uI y46.1 b2 p1.toNatClampNeg y46.2) fun M47 =>
  some M47)) else
  (some M)))
set_option maxHeartbeats 4000000 in
set_option maxRecDepth 100000 in
theorem kX2_filterLine (l : Launch) (D : va_G) (ct : CT) (ad : Nat → Nat) (Z : Nat → Nat) (G : GG) (M : DD) (sz : Nat) (a : Nat) (p0 : Option Nat) (p1 : Int32) (p2 : Int32) (p3 : Int32) (p4 : Int32) (y : DD) (hc : a < G.1) (hk : G.2.1 a = 2) (hF : FX2_filterLine G M a p0 p1 p2 p3 p4 = some y) : Met l yX2_filterLine wsX2_filterLine ({ frames := 1, cells := 0, slots := 0, locals := 29 }) (va_Pc [.ref (ad a), va_re ad p0, .int p1, .int p2, .int p3, .int p4] (kB D ct ad Z G M sz)) (va_Qv (fun (_ : Unit) => True) (fun _ t => kE D ct ad G (wA ad G sz) y t) (wA ad G sz)) 0 0 (wA ad G sz) := by
  refine Met.ofW (cc := cX2_filterLine) (maxL := 17) (ret := none) (by decide) rfl ?_
  intro p e s m args below meth c s₁ B hml hv
  obtain ⟨rfl, hsz, hP, hK, hD0, hZ, hN⟩ := hv
  have hx := B.exec
  have hb := B.bytes
  have hr := B.returns
  have hts := atoms_spec (ws := wsX2_filterLine) B.pre
  have hown : s.vm.findClass RX2 = some m.cls := findClass_of_methodNamed B.named
  have hlocks := B.notSynchronized
  subst hsz
  have hD := wD_self (sz := s.heap.size) hD0
  have hA9 : ∀ q, s.heap.size ≤ q → wA ad G s.heap.size q := fun q h => Or.inr h
  generalize hAe : wA ad G s.heap.size = A at hD hA9 hZ ⊢
  have hS : va_S A s.heap s.heap [] := va_S.rf
  have hl := lv_entry ([.ref (ad a), va_re ad p0, .int p1, .int p2, .int p3, .int p4]) (n := 17) (by cases p0 <;> exact Nat.le_of_ble_eq_true rfl)
  rw [lg_entry_eq]
  generalize (lg_sl ([.ref (ad a), va_re ad p0, .int p1, .int p2, .int p3, .int p4]) ++ List.replicate (17 - (lg_sl ([.ref (ad a), va_re ad p0, .int p1, .int p2, .int p3, .int p4])).length) Slot.unset).toArray = ls at hl ⊢
  have hl : lv_has ls 17 [(0, .ref (ad a)), (1, va_re ad p0), (2, .int p1), (3, .int p2), (4, .int p3), (5, .int p4)] := by have e9 : lv_args 0 [.ref (ad a), va_re ad p0, .int p1, .int p2, .int p3, .int p4] = [(0, .ref (ad a)), (1, va_re ad p0), (2, .int p1), (3, .int p2), (4, .int p3), (5, .int p4)] := (by cases p0 <;> rfl); rw [e9] at hl; exact hl
  unfold FX2_filterLine at hF
  refine lv_aloadq_n hx hb dX2_filterLine_0 rfl (lv_at hl 1 rfl) ?_
  refine lv_iload_n hx hb dX2_filterLine_1 rfl (lv_at hl 2 rfl) ?_
  refine lv_iload_n hx hb dX2_filterLine_2 rfl (lv_at hl 3 rfl) ?_
  refine lv_isub hx hb dX2_filterLine_3 ?_
  obtain ⟨x1, ex1, hF⟩ := ltt_some hF
  refine lv_topi (fun zx1 ezx1 => ?_)
  obtain rfl : x1 = zx1 := ex1.trans ezx1.symm
  obtain ⟨b2, ho2, hc2, hk2, hF⟩ := dr_some hF
  refine W_st (st' := [.int x1, .ref (ad b2)]) (by rw [va_some ho2]) ?_
  obtain ⟨hvc, hF⟩ := chk_some hF
  refine va_iald hx hb hK hP b2 1 (wld_i ct ad G M hc2 hk2) rfl hvc dX2_filterLine_4 ?_
  obtain ⟨x3, ex3, hF⟩ := ltt_some hF
  refine lv_topi (fun zx3 ezx3 => ?_)
  obtain rfl : x3 = zx3 := ex3.trans ezx3.symm
  refine lv_istore (lv' := [(6, .int x3), (0, .ref (ad a)), (1, va_re ad p0), (2, .int p1), (3, .int p2), (4, .int p3), (5, .int p4)]) hx hb dX2_filterLine_5 hl (by decide) rfl (fun ls hl => ?_)
  refine lv_aloadq_n hx hb dX2_filterLine_7 rfl (lv_at hl 2 rfl) ?_
  refine lv_iload_n hx hb dX2_filterLine_8 rfl (lv_at hl 3 rfl) ?_
  refine lv_iconst (v := (2 : Int32)) hx hb dX2_filterLine_9 (by decide) ?_
  refine lv_iload_n hx hb dX2_filterLine_10 rfl (lv_at hl 4 rfl) ?_
  refine lv_imul hx hb dX2_filterLine_11 ?_
  obtain ⟨x4, ex4, hF⟩ := ltt_some hF
  refine lv_topi (fun zx4 ezx4 => ?_)
  obtain rfl : x4 = zx4 := ex4.trans ezx4.symm
  refine lv_isub hx hb dX2_filterLine_12 ?_
  obtain ⟨x5, ex5, hF⟩ := ltt_some hF
  refine lv_topi (fun zx5 ezx5 => ?_)
  obtain rfl : x5 = zx5 := ex5.trans ezx5.symm
  refine W_st (st' := [.int x5, .ref (ad b2)]) (by rw [va_some ho2]) ?_
  obtain ⟨hvc, hF⟩ := chk_some hF
  refine va_iald hx hb hK hP b2 1 (wld_i ct ad G M hc2 hk2) rfl hvc dX2_filterLine_13 ?_
  obtain ⟨x6, ex6, hF⟩ := ltt_some hF
  refine lv_topi (fun zx6 ezx6 => ?_)
  obtain rfl : x6 = zx6 := ex6.trans ezx6.symm
  refine lv_istore (lv' := [(7, .int x6), (6, .int x3), (0, .ref (ad a)), (1, va_re ad p0), (2, .int p1), (3, .int p2), (4, .int p3), (5, .int p4)]) hx hb dX2_filterLine_14 hl (by decide) rfl (fun ls hl => ?_)
  refine lv_aloadq_n hx hb dX2_filterLine_16 rfl (lv_at hl 3 rfl) ?_
  refine lv_iload_n hx hb dX2_filterLine_17 rfl (lv_at hl 4 rfl) ?_
  refine W_st (st' := [.int p1, .ref (ad b2)]) (by rw [va_some ho2]) ?_
  obtain ⟨hvc, hF⟩ := chk_some hF
  refine va_iald hx hb hK hP b2 1 (wld_i ct ad G M hc2 hk2) rfl hvc dX2_filterLine_18 ?_
  obtain ⟨x7, ex7, hF⟩ := ltt_some hF
  refine lv_topi (fun zx7 ezx7 => ?_)
  obtain rfl : x7 = zx7 := ex7.trans ezx7.symm
  refine lv_istore (lv' := [(8, .int x7), (7, .int x6), (6, .int x3), (0, .ref (ad a)), (1, va_re ad p0), (2, .int p1), (3, .int p2), (4, .int p3), (5, .int p4)]) hx hb dX2_filterLine_19 hl (by decide) rfl (fun ls hl => ?_)
  refine lv_aloadq_n hx hb dX2_filterLine_21 rfl (lv_at hl 4 rfl) ?_
  refine lv_iload_n hx hb dX2_filterLine_22 rfl (lv_at hl 5 rfl) ?_
  refine lv_iload_n hx hb dX2_filterLine_23 rfl (lv_at hl 6 rfl) ?_
  refine lv_iadd hx hb dX2_filterLine_24 ?_
  obtain ⟨x8, ex8, hF⟩ := ltt_some hF
  refine lv_topi (fun zx8 ezx8 => ?_)
  obtain rfl : x8 = zx8 := ex8.trans ezx8.symm
  refine W_st (st' := [.int x8, .ref (ad b2)]) (by rw [va_some ho2]) ?_
  obtain ⟨hvc, hF⟩ := chk_some hF
  refine va_iald hx hb hK hP b2 1 (wld_i ct ad G M hc2 hk2) rfl hvc dX2_filterLine_25 ?_
  obtain ⟨x9, ex9, hF⟩ := ltt_some hF
  refine lv_topi (fun zx9 ezx9 => ?_)
  obtain rfl : x9 = zx9 := ex9.trans ezx9.symm
  refine lv_istore (lv' := [(9, .int x9), (8, .int x7), (7, .int x6), (6, .int x3), (0, .ref (ad a)), (1, va_re ad p0), (2, .int p1), (3, .int p2), (4, .int p3), (5, .int p4)]) hx hb dX2_filterLine_26 hl (by decide) rfl (fun ls hl => ?_)
  refine lv_iload hx hb dX2_filterLine_28 (lv_at hl 3 rfl) ?_
  refine lv_iload hx hb dX2_filterLine_30 (lv_at hl 1 rfl) ?_
  refine lv_isub hx hb dX2_filterLine_32 ?_
  obtain ⟨x10, ex10, hF⟩ := ltt_some hF
  refine lv_topi (fun zx10 ezx10 => ?_)
  obtain rfl : x10 = zx10 := ex10.trans ezx10.symm
  refine va_mabs hx hb (hml.trans hl.1.symm) hown (hts (.methodLink RX2 131 Lib.Math.abs.name) (by decide +kernel)) (hts (.static Lib.Math.abs.name) (by decide +kernel)) (hts (.initialized "java/lang/Math") (by decide +kernel)) (hts (.code Lib.Math.abs.name Lib.Math.abs.code 1 (some .int)) (by decide +kernel)) (Nat.le_of_ble_eq_true rfl) (Nat.le_of_ble_eq_true rfl) (Nat.zero_le _) (Nat.zero_le _) dX2_filterLine_33 ?_
  obtain ⟨x11, ex11, hF⟩ := ltt_some hF
  refine lv_topi (fun zx11 ezx11 => ?_)
  obtain rfl : x11 = zx11 := ex11.trans ezx11.symm
  refine lv_aload_n hx hb dX2_filterLine_36 rfl (lv_at hl 4 rfl) ?_
  refine va_get (D := D) (ci := 2) (v := .int (M.1 a 2)) (C := RX2) (T := TX2) (N := 7) hx hb hts (by decide +kernel) hown hK hP a (wld_o ct ad G M hc hk (by decide)) rfl 2 (by decide) (hts (.fieldLink RX2 122 "VideoSuite$Edges" "alpha" "I") (by decide +kernel)) (fun _ h9 => h9) rfl dX2_filterLine_37 ?_
  obtain ⟨x12, ex12, hF⟩ := ltt_some hF
  refine lv_topi (fun zx12 ezx12 => ?_)
  obtain rfl : x12 = zx12 := ex12.trans ezx12.symm
  refine lv_icmp_ge (tgt := 73) hx hb dX2_filterLine_40 (by decide) (fun c13 => ?_) (fun c13 => ?_)
  · rw [if_pos c13] at hF
    obtain rfl := Option.some.inj hF
    exact W.vret hx hb hr (fun t ht hW => ⟨⟨(), rfl, trivial, ⟨by rw [ht]; exact hP, va_K.moved hW.alike hK, hD⟩⟩, hS.F ht⟩) hS.2.2 dX2_filterLine_73
  · rw [if_neg c13] at hF
    refine lv_iload hx hb dX2_filterLine_43 (lv_at hl 2 rfl) ?_
    refine lv_iload hx hb dX2_filterLine_45 (lv_at hl 3 rfl) ?_
    refine lv_isub hx hb dX2_filterLine_47 ?_
    obtain ⟨x14, ex14, hF⟩ := ltt_some hF
    refine lv_topi (fun zx14 ezx14 => ?_)
    obtain rfl : x14 = zx14 := ex14.trans ezx14.symm
    refine va_mabs hx hb (hml.trans hl.1.symm) hown (hts (.methodLink RX2 131 Lib.Math.abs.name) (by decide +kernel)) (hts (.static Lib.Math.abs.name) (by decide +kernel)) (hts (.initialized "java/lang/Math") (by decide +kernel)) (hts (.code Lib.Math.abs.name Lib.Math.abs.code 1 (some .int)) (by decide +kernel)) (Nat.le_of_ble_eq_true rfl) (Nat.le_of_ble_eq_true rfl) (Nat.zero_le _) (Nat.zero_le _) dX2_filterLine_48 ?_
    obtain ⟨x15, ex15, hF⟩ := ltt_some hF
    refine lv_topi (fun zx15 ezx15 => ?_)
    obtain rfl : x15 = zx15 := ex15.trans ezx15.symm
    refine lv_aload_n hx hb dX2_filterLine_51 rfl (lv_at hl 4 rfl) ?_
    refine va_get (D := D) (ci := 2) (v := .int (M.1 a 3)) (C := RX2) (T := TX2) (N := 7) hx hb hts (by decide +kernel) hown hK hP a (wld_o ct ad G M hc hk (by decide)) rfl 3 (by decide) (hts (.fieldLink RX2 128 "VideoSuite$Edges" "beta" "I") (by decide +kernel)) (fun _ h9 => h9) rfl dX2_filterLine_52 ?_
    obtain ⟨x16, ex16, hF⟩ := ltt_some hF
    refine lv_topi (fun zx16 ezx16 => ?_)
    obtain rfl : x16 = zx16 := ex16.trans ezx16.symm
    refine lv_icmp_ge (tgt := 73) hx hb dX2_filterLine_55 (by decide) (fun c17 => ?_) (fun c17 => ?_)
    · rw [if_pos c17] at hF
      obtain rfl := Option.some.inj hF
      exact W.vret hx hb hr (fun t ht hW => ⟨⟨(), rfl, trivial, ⟨by rw [ht]; exact hP, va_K.moved hW.alike hK, hD⟩⟩, hS.F ht⟩) hS.2.2 dX2_filterLine_73
    · rw [if_neg c17] at hF
      refine lv_iload hx hb dX2_filterLine_58 (lv_at hl 0 rfl) ?_
      refine lv_iload hx hb dX2_filterLine_60 (lv_at hl 1 rfl) ?_
      refine lv_isub hx hb dX2_filterLine_62 ?_
      obtain ⟨x18, ex18, hF⟩ := ltt_some hF
      refine lv_topi (fun zx18 ezx18 => ?_)
      obtain rfl : x18 = zx18 := ex18.trans ezx18.symm
      refine va_mabs hx hb (hml.trans hl.1.symm) hown (hts (.methodLink RX2 131 Lib.Math.abs.name) (by decide +kernel)) (hts (.static Lib.Math.abs.name) (by decide +kernel)) (hts (.initialized "java/lang/Math") (by decide +kernel)) (hts (.code Lib.Math.abs.name Lib.Math.abs.code 1 (some .int)) (by decide +kernel)) (Nat.le_of_ble_eq_true rfl) (Nat.le_of_ble_eq_true rfl) (Nat.zero_le _) (Nat.zero_le _) dX2_filterLine_63 ?_
      obtain ⟨x19, ex19, hF⟩ := ltt_some hF
      refine lv_topi (fun zx19 ezx19 => ?_)
      obtain rfl : x19 = zx19 := ex19.trans ezx19.symm
      refine lv_aload_n hx hb dX2_filterLine_66 rfl (lv_at hl 4 rfl) ?_
      refine va_get (D := D) (ci := 2) (v := .int (M.1 a 3)) (C := RX2) (T := TX2) (N := 7) hx hb hts (by decide +kernel) hown hK hP a (wld_o ct ad G M hc hk (by decide)) rfl 3 (by decide) (hts (.fieldLink RX2 128 "VideoSuite$Edges" "beta" "I") (by decide +kernel)) (fun _ h9 => h9) rfl dX2_filterLine_67 ?_
      obtain ⟨x20, ex20, hF⟩ := ltt_some hF
      refine lv_topi (fun zx20 ezx20 => ?_)
      obtain rfl : x20 = zx20 := ex20.trans ezx20.symm
      refine lv_icmp_lt (tgt := 74) hx hb dX2_filterLine_70 (by decide) (fun c21 => ?_) (fun c21 => ?_)
      · rw [if_pos c21] at hF
        refine lv_iload hx hb dX2_filterLine_74 (lv_at hl 9 rfl) ?_
        obtain ⟨y22, hy22, hF⟩ := bnd_some hF
        have J22 : ∀ (H : Heap) (locs : List Loc) (ls : Array Slot), va_P D classes (wld ct ad G y22.2) H → va_D A (wld ct ad G y22.2) → va_S A s.heap H locs → lv_has ls 17 [(9, .int x9), (8, .int x7), (7, .int x6), (6, .int x3), (0, .ref (ad a)), (1, va_re ad p0), (2, .int p1), (3, .int p2), (4, .int p3), (5, .int p4)] → W p l e (headSpec wsX2_filterLine ({ frames := 1, cells := 0, slots := 0, locals := 29 })).room s m ([.ref (ad a), va_re ad p0, .int p1, .int p2, .int p3, .int p4] : List Value).toArray below meth c H locs 0 0 (MQ below (va_Qv (fun (_ : Unit) => True) (fun _ t => kE D ct ad G A y t) A) ([.ref (ad a), va_re ad p0, .int p1, .int p2, .int p3, .int p4] : List Value).toArray s 0 0 A) (F0 m 104 ls [.int y22.1]) := by
          intro H locs ls hP hD hS hl
          refine lv_istore (lv' := [(10, .int y22.1), (9, .int x9), (8, .int x7), (7, .int x6), (6, .int x3), (0, .ref (ad a)), (1, va_re ad p0), (2, .int p1), (3, .int p2), (4, .int p3), (5, .int p4)]) hx hb dX2_filterLine_104 hl (by decide) rfl (fun ls hl => ?_)
          refine lv_iload hx hb dX2_filterLine_106 (lv_at hl 10 rfl) ?_
          obtain ⟨y23, hy23, hF⟩ := bnd_some hF
          have J23 : ∀ (H : Heap) (locs : List Loc) (ls : Array Slot), va_P D classes (wld ct ad G y23.2) H → va_D A (wld ct ad G y23.2) → va_S A s.heap H locs → lv_has ls 17 [(10, .int y22.1), (9, .int x9), (8, .int x7), (7, .int x6), (6, .int x3), (0, .ref (ad a)), (1, va_re ad p0), (2, .int p1), (3, .int p2), (4, .int p3), (5, .int p4)] → W p l e (headSpec wsX2_filterLine ({ frames := 1, cells := 0, slots := 0, locals := 29 })).room s m ([.ref (ad a), va_re ad p0, .int p1, .int p2, .int p3, .int p4] : List Value).toArray below meth c H locs 0 0 (MQ below (va_Qv (fun (_ : Unit) => True) (fun _ t => kE D ct ad G A y t) A) ([.ref (ad a), va_re ad p0, .int p1, .int p2, .int p3, .int p4] : List Value).toArray s 0 0 A) (F0 m 136 ls [.int y23.1]) := by
            intro H locs ls hP hD hS hl
            refine lv_istore (lv' := [(11, .int y23.1), (10, .int y22.1), (9, .int x9), (8, .int x7), (7, .int x6), (6, .int x3), (0, .ref (ad a)), (1, va_re ad p0), (2, .int p1), (3, .int p2), (4, .int p3), (5, .int p4)]) hx hb dX2_filterLine_136 hl (by decide) rfl (fun ls hl => ?_)
            refine lv_iload hx hb dX2_filterLine_138 (lv_at hl 10 rfl) ?_
            refine lv_iconst (v := (4 : Int32)) hx hb dX2_filterLine_140 (by decide) ?_
            refine lv_icmp_ne (tgt := 224) hx hb dX2_filterLine_141 (by decide) (fun c24 => ?_) (fun c24 => ?_)
            · rw [if_neg c24] at hF
              refine lv_aload_n hx hb dX2_filterLine_224 rfl (lv_at hl 6 rfl) ?_
              refine va_get (D := D) (ci := 2) (v := .int (y23.2.1 a 4)) (C := RX2) (T := TX2) (N := 7) hx hb hts (by decide +kernel) hown hK hP a (wld_o ct ad G y23.2 hc hk (by decide)) rfl 4 (by decide) (hts (.fieldLink RX2 116 "VideoSuite$Edges" "indexA" "I") (by decide +kernel)) (fun _ h9 => h9) rfl dX2_filterLine_225 ?_
              obtain ⟨x25, ex25, hF⟩ := ltt_some hF
              refine lv_topi (fun zx25 ezx25 => ?_)
              obtain rfl : x25 = zx25 := ex25.trans ezx25.symm
              refine lv_bipush (v := (17 : Int32)) hx hb dX2_filterLine_228 (by decide) ?_
              obtain ⟨y26, hy26, hF⟩ := bnd_some hF
              have J26 : ∀ (H : Heap) (locs : List Loc) (ls : Array Slot), va_P D classes (wld ct ad G y23.2) H → va_D A (wld ct ad G y23.2) → va_S A s.heap H locs → lv_has ls 17 [(11, .int y23.1), (10, .int y22.1), (9, .int x9), (8, .int x7), (7, .int x6), (6, .int x3), (0, .ref (ad a)), (1, va_re ad p0), (2, .int p1), (3, .int p2), (4, .int p3), (5, .int p4)] → W p l e (headSpec wsX2_filterLine ({ frames := 1, cells := 0, slots := 0, locals := 29 })).room s m ([.ref (ad a), va_re ad p0, .int p1, .int p2, .int p3, .int p4] : List Value).toArray below meth c H locs 0 0 (MQ below (va_Qv (fun (_ : Unit) => True) (fun _ t => kE D ct ad G A y t) A) ([.ref (ad a), va_re ad p0, .int p1, .int p2, .int p3, .int p4] : List Value).toArray s 0 0 A) (F0 m 255 ls [.int y26]) := by
                intro H locs ls hP hD hS hl
                refine lv_istore (lv' := [(12, .int y26), (11, .int y23.1), (10, .int y22.1), (9, .int x9), (8, .int x7), (7, .int x6), (6, .int x3), (0, .ref (ad a)), (1, va_re ad p0), (2, .int p1), (3, .int p2), (4, .int p3), (5, .int p4)]) hx hb dX2_filterLine_255 hl (by decide) rfl (fun ls hl => ?_)
                refine lv_iload hx hb dX2_filterLine_257 (lv_at hl 12 rfl) ?_
                obtain ⟨y27, hy27, hF⟩ := bnd_some hF
                have J27 : ∀ (H : Heap) (locs : List Loc) (ls : Array Slot), va_P D classes (wld ct ad G y23.2) H → va_D A (wld ct ad G y23.2) → va_S A s.heap H locs → lv_has ls 17 [(12, .int y26), (11, .int y23.1), (10, .int y22.1), (9, .int x9), (8, .int x7), (7, .int x6), (6, .int x3), (0, .ref (ad a)), (1, va_re ad p0), (2, .int p1), (3, .int p2), (4, .int p3), (5, .int p4)] → W p l e (headSpec wsX2_filterLine ({ frames := 1, cells := 0, slots := 0, locals := 29 })).room s m ([.ref (ad a), va_re ad p0, .int p1, .int p2, .int p3, .int p4] : List Value).toArray below meth c H locs 0 0 (MQ below (va_Qv (fun (_ : Unit) => True) (fun _ t => kE D ct ad G A y t) A) ([.ref (ad a), va_re ad p0, .int p1, .int p2, .int p3, .int p4] : List Value).toArray s 0 0 A) (F0 m 293 ls [.int y27]) := by
                  intro H locs ls hP hD hS hl
                  refine lv_istore (lv' := [(13, .int y27), (12, .int y26), (11, .int y23.1), (10, .int y22.1), (9, .int x9), (8, .int x7), (7, .int x6), (6, .int x3), (0, .ref (ad a)), (1, va_re ad p0), (2, .int p1), (3, .int p2), (4, .int p3), (5, .int p4)]) hx hb dX2_filterLine_293 hl (by decide) rfl (fun ls hl => ?_)
                  refine lv_iload hx hb dX2_filterLine_295 (lv_at hl 5 rfl) ?_
                  refine lv_iload hx hb dX2_filterLine_297 (lv_at hl 7 rfl) ?_
                  refine lv_isub hx hb dX2_filterLine_299 ?_
                  obtain ⟨x28, ex28, hF⟩ := ltt_some hF
                  refine lv_topi (fun zx28 ezx28 => ?_)
                  obtain rfl : x28 = zx28 := ex28.trans ezx28.symm
                  refine lv_iconst (v := (4 : Int32)) hx hb dX2_filterLine_300 (by decide) ?_
                  refine lv_imul hx hb dX2_filterLine_301 ?_
                  obtain ⟨x29, ex29, hF⟩ := ltt_some hF
                  refine lv_topi (fun zx29 ezx29 => ?_)
                  obtain rfl : x29 = zx29 := ex29.trans ezx29.symm
                  refine lv_iload hx hb dX2_filterLine_302 (lv_at hl 6 rfl) ?_
                  refine lv_iload hx hb dX2_filterLine_304 (lv_at hl 4 rfl) ?_
                  refine lv_isub hx hb dX2_filterLine_306 ?_
                  obtain ⟨x30, ex30, hF⟩ := ltt_some hF
                  refine lv_topi (fun zx30 ezx30 => ?_)
                  obtain rfl : x30 = zx30 := ex30.trans ezx30.symm
                  refine lv_iadd hx hb dX2_filterLine_307 ?_
                  obtain ⟨x31, ex31, hF⟩ := ltt_some hF
                  refine lv_topi (fun zx31 ezx31 => ?_)
                  obtain rfl : x31 = zx31 := ex31.trans ezx31.symm
                  refine lv_iconst (v := (4 : Int32)) hx hb dX2_filterLine_308 (by decide) ?_
                  refine lv_iadd hx hb dX2_filterLine_309 ?_
                  obtain ⟨x32, ex32, hF⟩ := ltt_some hF
                  refine lv_topi (fun zx32 ezx32 => ?_)
                  obtain rfl : x32 = zx32 := ex32.trans ezx32.symm
                  refine lv_iconst (v := (3 : Int32)) hx hb dX2_filterLine_310 (by decide) ?_
                  refine lv_ishr hx hb dX2_filterLine_311 ?_
                  obtain ⟨x33, ex33, hF⟩ := ltt_some hF
                  refine lv_topi (fun zx33 ezx33 => ?_)
                  obtain rfl : x33 = zx33 := ex33.trans ezx33.symm
                  refine lv_istore (lv' := [(14, .int x33), (13, .int y27), (12, .int y26), (11, .int y23.1), (10, .int y22.1), (9, .int x9), (8, .int x7), (7, .int x6), (6, .int x3), (0, .ref (ad a)), (1, va_re ad p0), (2, .int p1), (3, .int p2), (4, .int p3), (5, .int p4)]) hx hb dX2_filterLine_312 hl (by decide) rfl (fun ls hl => ?_)
                  refine lv_iload hx hb dX2_filterLine_314 (lv_at hl 0 rfl) ?_
                  refine lv_iload hx hb dX2_filterLine_316 (lv_at hl 1 rfl) ?_
                  refine lv_ineg hx hb dX2_filterLine_318 ?_
                  obtain ⟨x34, ex34, hF⟩ := ltt_some hF
                  refine lv_topi (fun zx34 ezx34 => ?_)
                  obtain rfl : x34 = zx34 := ex34.trans ezx34.symm
                  obtain ⟨y35, hy35, hF⟩ := bnd_some hF
                  have J35 : ∀ (H : Heap) (locs : List Loc) (ls : Array Slot), va_P D classes (wld ct ad G y23.2) H → va_D A (wld ct ad G y23.2) → va_S A s.heap H locs → lv_has ls 17 [(14, .int x33), (13, .int y27), (12, .int y26), (11, .int y23.1), (10, .int y22.1), (9, .int x9), (8, .int x7), (7, .int x6), (6, .int x3), (0, .ref (ad a)), (1, va_re ad p0), (2, .int p1), (3, .int p2), (4, .int p3), (5, .int p4)] → W p l e (headSpec wsX2_filterLine ({ frames := 1, cells := 0, slots := 0, locals := 29 })).room s m ([.ref (ad a), va_re ad p0, .int p1, .int p2, .int p3, .int p4] : List Value).toArray below meth c H locs 0 0 (MQ below (va_Qv (fun (_ : Unit) => True) (fun _ t => kE D ct ad G A y t) A) ([.ref (ad a), va_re ad p0, .int p1, .int p2, .int p3, .int p4] : List Value).toArray s 0 0 A) (F0 m 342 ls [.int y35]) := by
                    intro H locs ls hP hD hS hl
                    refine lv_istore (lv' := [(14, .int y35), (13, .int y27), (12, .int y26), (11, .int y23.1), (10, .int y22.1), (9, .int x9), (8, .int x7), (7, .int x6), (6, .int x3), (0, .ref (ad a)), (1, va_re ad p0), (2, .int p1), (3, .int p2), (4, .int p3), (5, .int p4)]) hx hb dX2_filterLine_342 hl (by decide) rfl (fun ls hl => ?_)
                    refine lv_iload hx hb dX2_filterLine_344 (lv_at hl 8 rfl) ?_
                    refine lv_iload hx hb dX2_filterLine_346 (lv_at hl 6 rfl) ?_
                    refine lv_iadd hx hb dX2_filterLine_348 ?_
                    obtain ⟨x36, ex36, hF⟩ := ltt_some hF
                    refine lv_topi (fun zx36 ezx36 => ?_)
                    obtain rfl : x36 = zx36 := ex36.trans ezx36.symm
                    refine lv_iconst (v := (1 : Int32)) hx hb dX2_filterLine_349 (by decide) ?_
                    refine lv_iadd hx hb dX2_filterLine_350 ?_
                    obtain ⟨x37, ex37, hF⟩ := ltt_some hF
                    refine lv_topi (fun zx37 ezx37 => ?_)
                    obtain rfl : x37 = zx37 := ex37.trans ezx37.symm
                    refine lv_iconst (v := (1 : Int32)) hx hb dX2_filterLine_351 (by decide) ?_
                    refine lv_ishr hx hb dX2_filterLine_352 ?_
                    obtain ⟨x38, ex38, hF⟩ := ltt_some hF
                    refine lv_topi (fun zx38 ezx38 => ?_)
                    obtain rfl : x38 = zx38 := ex38.trans ezx38.symm
                    refine lv_istore (lv' := [(15, .int x38), (14, .int y35), (13, .int y27), (12, .int y26), (11, .int y23.1), (10, .int y22.1), (9, .int x9), (8, .int x7), (7, .int x6), (6, .int x3), (0, .ref (ad a)), (1, va_re ad p0), (2, .int p1), (3, .int p2), (4, .int p3), (5, .int p4)]) hx hb dX2_filterLine_353 hl (by decide) rfl (fun ls hl => ?_)
                    refine lv_iload hx hb dX2_filterLine_355 (lv_at hl 5 rfl) ?_
                    obtain ⟨y39, hy39, hF⟩ := bnd_some hF
                    have J39 : ∀ (H : Heap) (locs : List Loc) (ls : Array Slot), va_P D classes (wld ct ad G y39) H → va_D A (wld ct ad G y39) → va_S A s.heap H locs → lv_has ls 17 [(15, .int x38), (14, .int y35), (13, .int y27), (12, .int y26), (11, .int y23.1), (10, .int y22.1), (9, .int x9), (8, .int x7), (7, .int x6), (6, .int x3), (0, .ref (ad a)), (1, va_re ad p0), (2, .int p1), (3, .int p2), (4, .int p3), (5, .int p4)] → W p l e (headSpec wsX2_filterLine ({ frames := 1, cells := 0, slots := 0, locals := 29 })).room s m ([.ref (ad a), va_re ad p0, .int p1, .int p2, .int p3, .int p4] : List Value).toArray below meth c H locs 0 0 (MQ below (va_Qv (fun (_ : Unit) => True) (fun _ t => kE D ct ad G A y t) A) ([.ref (ad a), va_re ad p0, .int p1, .int p2, .int p3, .int p4] : List Value).toArray s 0 0 A) (F0 m 417 ls []) := by
                      intro H locs ls hP hD hS hl
                      refine lv_iload hx hb dX2_filterLine_417 (lv_at hl 4 rfl) ?_
                      obtain ⟨y40, hy40, hF⟩ := bnd_some hF
                      have J40 : ∀ (H : Heap) (locs : List Loc) (ls : Array Slot), va_P D classes (wld ct ad G y40) H → va_D A (wld ct ad G y40) → va_S A s.heap H locs → lv_has ls 17 [(15, .int x38), (14, .int y35), (13, .int y27), (12, .int y26), (11, .int y23.1), (10, .int y22.1), (9, .int x9), (8, .int x7), (7, .int x6), (6, .int x3), (0, .ref (ad a)), (1, va_re ad p0), (2, .int p1), (3, .int p2), (4, .int p3), (5, .int p4)] → W p l e (headSpec wsX2_filterLine ({ frames := 1, cells := 0, slots := 0, locals := 29 })).room s m ([.ref (ad a), va_re ad p0, .int p1, .int p2, .int p3, .int p4] : List Value).toArray below meth c H locs 0 0 (MQ below (va_Qv (fun (_ : Unit) => True) (fun _ t => kE D ct ad G A y t) A) ([.ref (ad a), va_re ad p0, .int p1, .int p2, .int p3, .int p4] : List Value).toArray s 0 0 A) (F0 m 477 ls []) := by
                        intro H locs ls hP hD hS hl
                        refine lv_aloadq_n hx hb dX2_filterLine_477 rfl (lv_at hl 11 rfl) ?_
                        refine lv_iload_n hx hb dX2_filterLine_478 rfl (lv_at hl 12 rfl) ?_
                        refine lv_iload_n hx hb dX2_filterLine_479 rfl (lv_at hl 13 rfl) ?_
                        refine lv_isub hx hb dX2_filterLine_480 ?_
                        obtain ⟨x41, ex41, hF⟩ := ltt_some hF
                        refine lv_topi (fun zx41 ezx41 => ?_)
                        obtain rfl : x41 = zx41 := ex41.trans ezx41.symm
                        refine lv_iload hx hb dX2_filterLine_481 (lv_at hl 9 rfl) ?_
                        refine lv_iload hx hb dX2_filterLine_483 (lv_at hl 1 rfl) ?_
                        refine lv_iadd hx hb dX2_filterLine_485 ?_
                        obtain ⟨x42, ex42, hF⟩ := ltt_some hF
                        refine lv_topi (fun zx42 ezx42 => ?_)
                        obtain rfl : x42 = zx42 := ex42.trans ezx42.symm
                        obtain ⟨y43, hy43, hF⟩ := bnd_some hF
                        have hf9 := wA_in hD hA9 hS
                        refine va_calli (va_runSN (As := [.int x42]) (rest := [.int x41, va_re ad p0]) ⟨hx, hb, hml, hown, hts⟩ (kX11_clip l D ct ad Z G y40 H.size x42 y43 hy43) ⟨va_cnB 1 hts gX2_filterLine_X11_clip_n143 rfl rfl rfl (hN.1 (RX2, 143, yX11_clip, RX11) (List.mem_of_getElem? (i := 17) rfl)) (hts (.initialized RX11) (by decide +kernel)) (by decide +kernel) ⟨Nat.le_of_ble_eq_true rfl, Nat.le_of_ble_eq_true rfl⟩, hts (.static yX11_clip) (by decide +kernel), trivial⟩ ⟨fun a U g mk q => by obtain ⟨q0, q1, qP, qK, qD, qZ, qN⟩ := q; exact ⟨q0, q1, qP, va_K.moved (u := U) (U := U.calling g mk a) (Vm.Alike.refl U.vm) qK, qD, sF.moved (u := U) (U := U.calling g mk a) (Vm.Alike.refl U.vm) qZ, nF.same rfl qN⟩, fun U hU hW => ⟨rfl, by rw [hU], by rw [hU]; exact hP, va_K.moved hW.alike hK, hD.weaken (fun _ _ _ _ => trivial), by rw [hU]; exact ((hZ.kept hS.2.1).narrow hf9).moved hW.alike, hN.warm hW⟩⟩ rfl rfl hl.1 rfl (lv_room (by simp only [List.map, va_re_cat]; exact Nat.le_of_ble_eq_true rfl)) dX2_filterLine_486 ⟨(Nat.zero_le _), (Nat.zero_le _)⟩) hS (fun q _ h => hf9 q h) hf9 (fun r u t H locs ht hvm hw hB hz1 hk1 hS => ?_)
                        obtain ⟨hP, hK9, hD9⟩ := hB
                        rw [ht] at hP
                        try dsimp only at hw
                        subst hw
                        have hD := hD9.weaken (fun _ q _ h => hf9 q.1 h)
                        refine W_st (st' := [.int y43.2, .int x41, .ref (ad b2)]) (by rw [va_some ho2]) ?_
                        obtain ⟨hvc, hF⟩ := chk_some hF
                        refine va_iast hx hb hK hP hD hS b2 1 (wld_i ct ad G y43.1 hc2 hk2) rfl hvc dX2_filterLine_489 (fun H locs hP hD hS => ?_)
                        obtain ⟨M44, eM44, hF⟩ := ltt_some hF
                        rw [set_i ct ad G y43.1 hc2 hk2, ← eM44] at hP hD
                        refine lv_aloadq_n hx hb dX2_filterLine_490 rfl (lv_at hl 11 rfl) ?_
                        refine lv_iload_n hx hb dX2_filterLine_491 rfl (lv_at hl 12 rfl) ?_
                        refine lv_iload hx hb dX2_filterLine_492 (lv_at hl 7 rfl) ?_
                        refine lv_iload hx hb dX2_filterLine_494 (lv_at hl 1 rfl) ?_
                        refine lv_isub hx hb dX2_filterLine_496 ?_
                        obtain ⟨x45, ex45, hF⟩ := ltt_some hF
                        refine lv_topi (fun zx45 ezx45 => ?_)
                        obtain rfl : x45 = zx45 := ex45.trans ezx45.symm
                        obtain ⟨y46, hy46, hF⟩ := bnd_some hF
                        have hf9 := wA_in hD hA9 hS
                        refine va_calli (va_runSN (As := [.int x45]) (rest := [.int p1, va_re ad p0]) ⟨hx, hb, hml, hown, hts⟩ (kX11_clip l D ct ad Z G M44 H.size x45 y46 hy46) ⟨va_cnB 1 hts gX2_filterLine_X11_clip_n143 rfl rfl rfl (hN.1 (RX2, 143, yX11_clip, RX11) (List.mem_of_getElem? (i := 17) rfl)) (hts (.initialized RX11) (by decide +kernel)) (by decide +kernel) ⟨Nat.le_of_ble_eq_true rfl, Nat.le_of_ble_eq_true rfl⟩, hts (.static yX11_clip) (by decide +kernel), trivial⟩ ⟨fun a U g mk q => by obtain ⟨q0, q1, qP, qK, qD, qZ, qN⟩ := q; exact ⟨q0, q1, qP, va_K.moved (u := U) (U := U.calling g mk a) (Vm.Alike.refl U.vm) qK, qD, sF.moved (u := U) (U := U.calling g mk a) (Vm.Alike.refl U.vm) qZ, nF.same rfl qN⟩, fun U hU hW => ⟨rfl, by rw [hU], by rw [hU]; exact hP, va_K.moved hW.alike hK, hD.weaken (fun _ _ _ _ => trivial), by rw [hU]; exact ((hZ.kept hS.2.1).narrow hf9).moved hW.alike, hN.warm hW⟩⟩ rfl rfl hl.1 rfl (lv_room (by simp only [List.map, va_re_cat]; exact Nat.le_of_ble_eq_true rfl)) dX2_filterLine_497 ⟨(Nat.zero_le _), (Nat.zero_le _)⟩) hS (fun q _ h => hf9 q h) hf9 (fun r u t H locs ht hvm hw hB hz1 hk1 hS => ?_)
                        obtain ⟨hP, hK9, hD9⟩ := hB
                        rw [ht] at hP
                        try dsimp only at hw
                        subst hw
                        have hD := hD9.weaken (fun _ q _ h => hf9 q.1 h)
                        refine W_st (st' := [.int y46.2, .int p1, .ref (ad b2)]) (by rw [va_some ho2]) ?_
                        obtain ⟨hvc, hF⟩ := chk_some hF
                        refine va_iast hx hb hK hP hD hS b2 1 (wld_i ct ad G y46.1 hc2 hk2) rfl hvc dX2_filterLine_500 (fun H locs hP hD hS => ?_)
                        obtain ⟨M47, eM47, hF⟩ := ltt_some hF
                        rw [set_i ct ad G y46.1 hc2 hk2, ← eM47] at hP hD
                        obtain rfl := Option.some.inj hF
                        exact W.vret hx hb hr (fun t ht hW => ⟨⟨(), rfl, trivial, ⟨by rw [ht]; exact hP, va_K.moved hW.alike hK, hD⟩⟩, hS.F ht⟩) hS.2.2 dX2_filterLine_501
                      clear hF
                      have hF := hy40
                      clear hy40
                      refine lv_if_eq (tgt := 477) hx hb dX2_filterLine_419 (by decide) (fun c48 => ?_) (fun c48 => ?_)
                      · rw [if_pos c48] at hF
                        obtain rfl := Option.some.inj hF
                        exact J40 _ _ _ hP hD hS (lv_sub hl [0, 1, 2, 3, 4, 5, 6, 7, 8, 9, 10, 11, 12, 13, 14, 15] rfl)
                      · rw [if_neg c48] at hF
                        refine lv_aloadq_n hx hb dX2_filterLine_422 rfl (lv_at hl 11 rfl) ?_
                        refine lv_iload_n hx hb dX2_filterLine_423 rfl (lv_at hl 12 rfl) ?_
                        refine lv_iconst (v := (2 : Int32)) hx hb dX2_filterLine_424 (by decide) ?_
                        refine lv_iload_n hx hb dX2_filterLine_425 rfl (lv_at hl 13 rfl) ?_
                        refine lv_imul hx hb dX2_filterLine_426 ?_
                        obtain ⟨x49, ex49, hF⟩ := ltt_some hF
                        refine lv_topi (fun zx49 ezx49 => ?_)
                        obtain rfl : x49 = zx49 := ex49.trans ezx49.symm
                        refine lv_iadd hx hb dX2_filterLine_427 ?_
                        obtain ⟨x50, ex50, hF⟩ := ltt_some hF
                        refine lv_topi (fun zx50 ezx50 => ?_)
                        obtain rfl : x50 = zx50 := ex50.trans ezx50.symm
                        refine W_st (st' := [.int x50, .ref (ad b2)]) (by rw [va_some ho2]) ?_
                        obtain ⟨hvc, hF⟩ := chk_some hF
                        refine va_iald hx hb hK hP b2 1 (wld_i ct ad G y39 hc2 hk2) rfl hvc dX2_filterLine_428 ?_
                        obtain ⟨x51, ex51, hF⟩ := ltt_some hF
                        refine lv_topi (fun zx51 ezx51 => ?_)
                        obtain rfl : x51 = zx51 := ex51.trans ezx51.symm
                        refine lv_iload hx hb dX2_filterLine_429 (lv_at hl 0 rfl) ?_
                        refine lv_iadd hx hb dX2_filterLine_431 ?_
                        obtain ⟨x52, ex52, hF⟩ := ltt_some hF
                        refine lv_topi (fun zx52 ezx52 => ?_)
                        obtain rfl : x52 = zx52 := ex52.trans ezx52.symm
                        refine lv_iconst (v := (2 : Int32)) hx hb dX2_filterLine_432 (by decide) ?_
                        refine lv_iload hx hb dX2_filterLine_433 (lv_at hl 6 rfl) ?_
                        refine lv_imul hx hb dX2_filterLine_435 ?_
                        obtain ⟨x53, ex53, hF⟩ := ltt_some hF
                        refine lv_topi (fun zx53 ezx53 => ?_)
                        obtain rfl : x53 = zx53 := ex53.trans ezx53.symm
                        refine lv_isub hx hb dX2_filterLine_436 ?_
                        obtain ⟨x54, ex54, hF⟩ := ltt_some hF
                        refine lv_topi (fun zx54 ezx54 => ?_)
                        obtain rfl : x54 = zx54 := ex54.trans ezx54.symm
                        refine lv_iconst (v := (1 : Int32)) hx hb dX2_filterLine_437 (by decide) ?_
                        refine lv_ishr hx hb dX2_filterLine_438 ?_
                        obtain ⟨x55, ex55, hF⟩ := ltt_some hF
                        refine lv_topi (fun zx55 ezx55 => ?_)
                        obtain rfl : x55 = zx55 := ex55.trans ezx55.symm
                        refine lv_istore (lv' := [(16, .int x55), (15, .int x38), (14, .int y35), (13, .int y27), (12, .int y26), (11, .int y23.1), (10, .int y22.1), (9, .int x9), (8, .int x7), (7, .int x6), (6, .int x3), (0, .ref (ad a)), (1, va_re ad p0), (2, .int p1), (3, .int p2), (4, .int p3), (5, .int p4)]) hx hb dX2_filterLine_439 hl (by decide) rfl (fun ls hl => ?_)
                        refine lv_aloadq_n hx hb dX2_filterLine_441 rfl (lv_at hl 12 rfl) ?_
                        refine lv_iload_n hx hb dX2_filterLine_442 rfl (lv_at hl 13 rfl) ?_
                        refine lv_iload_n hx hb dX2_filterLine_443 rfl (lv_at hl 14 rfl) ?_
                        refine lv_iadd hx hb dX2_filterLine_444 ?_
                        obtain ⟨x56, ex56, hF⟩ := ltt_some hF
                        refine lv_topi (fun zx56 ezx56 => ?_)
                        obtain rfl : x56 = zx56 := ex56.trans ezx56.symm
                        refine lv_iload hx hb dX2_filterLine_445 (lv_at hl 7 rfl) ?_
                        refine lv_iload hx hb dX2_filterLine_447 (lv_at hl 0 rfl) ?_
                        refine lv_iload hx hb dX2_filterLine_449 (lv_at hl 4 rfl) ?_
                        refine lv_ineg hx hb dX2_filterLine_451 ?_
                        obtain ⟨x57, ex57, hF⟩ := ltt_some hF
                        refine lv_topi (fun zx57 ezx57 => ?_)
                        obtain rfl : x57 = zx57 := ex57.trans ezx57.symm
                        obtain ⟨y58, hy58, hF⟩ := bnd_some hF
                        have J58 : ∀ (H : Heap) (locs : List Loc) (ls : Array Slot), va_P D classes (wld ct ad G y39) H → va_D A (wld ct ad G y39) → va_S A s.heap H locs → lv_has ls 17 [(16, .int x55), (15, .int x38), (14, .int y35), (13, .int y27), (12, .int y26), (11, .int y23.1), (10, .int y22.1), (9, .int x9), (8, .int x7), (7, .int x6), (6, .int x3), (0, .ref (ad a)), (1, va_re ad p0), (2, .int p1), (3, .int p2), (4, .int p3), (5, .int p4)] → W p l e (headSpec wsX2_filterLine ({ frames := 1, cells := 0, slots := 0, locals := 29 })).room s m ([.ref (ad a), va_re ad p0, .int p1, .int p2, .int p3, .int p4] : List Value).toArray below meth c H locs 0 0 (MQ below (va_Qv (fun (_ : Unit) => True) (fun _ t => kE D ct ad G A y t) A) ([.ref (ad a), va_re ad p0, .int p1, .int p2, .int p3, .int p4] : List Value).toArray s 0 0 A) (F0 m 475 ls [.int y58, .int x9, .int x56, va_re ad p0]) := by
                          intro H locs ls hP hD hS hl
                          refine lv_iadd hx hb dX2_filterLine_475 ?_
                          obtain ⟨x59, ex59, hF⟩ := ltt_some hF
                          refine lv_topi (fun zx59 ezx59 => ?_)
                          obtain rfl : x59 = zx59 := ex59.trans ezx59.symm
                          refine W_st (st' := [.int x59, .int x56, .ref (ad b2)]) (by rw [va_some ho2]) ?_
                          obtain ⟨hvc, hF⟩ := chk_some hF
                          refine va_iast hx hb hK hP hD hS b2 1 (wld_i ct ad G y39 hc2 hk2) rfl hvc dX2_filterLine_476 (fun H locs hP hD hS => ?_)
                          obtain ⟨M60, eM60, hF⟩ := ltt_some hF
                          rw [set_i ct ad G y39 hc2 hk2, ← eM60] at hP hD
                          obtain rfl := Option.some.inj hF
                          exact J40 _ _ _ hP hD hS (lv_sub hl [1, 2, 3, 4, 5, 6, 7, 8, 9, 10, 11, 12, 13, 14, 15, 16] rfl)
                        clear hF
                        have hF := hy58
                        clear hy58
                        refine lv_icmp_ge (tgt := 461) hx hb dX2_filterLine_452 (by decide) (fun c61 => ?_) (fun c61 => ?_)
                        · rw [if_pos c61] at hF
                          refine lv_iload hx hb dX2_filterLine_461 (lv_at hl 0 rfl) ?_
                          refine lv_iload hx hb dX2_filterLine_463 (lv_at hl 4 rfl) ?_
                          obtain ⟨y62, hy62, hF⟩ := bnd_some hF
                          have J62 : ∀ (H : Heap) (locs : List Loc) (ls : Array Slot), va_P D classes (wld ct ad G y39) H → va_D A (wld ct ad G y39) → va_S A s.heap H locs → lv_has ls 17 [(16, .int x55), (15, .int x38), (14, .int y35), (13, .int y27), (12, .int y26), (11, .int y23.1), (10, .int y22.1), (9, .int x9), (8, .int x7), (7, .int x6), (6, .int x3), (0, .ref (ad a)), (1, va_re ad p0), (2, .int p1), (3, .int p2), (4, .int p3), (5, .int p4)] → W p l e (headSpec wsX2_filterLine ({ frames := 1, cells := 0, slots := 0, locals := 29 })).room s m ([.ref (ad a), va_re ad p0, .int p1, .int p2, .int p3, .int p4] : List Value).toArray below meth c H locs 0 0 (MQ below (va_Qv (fun (_ : Unit) => True) (fun _ t => kE D ct ad G A y t) A) ([.ref (ad a), va_re ad p0, .int p1, .int p2, .int p3, .int p4] : List Value).toArray s 0 0 A) (F0 m 475 ls [.int y62, .int x9, .int x56, va_re ad p0]) := by
                            intro H locs ls hP hD hS hl
                            obtain rfl := Option.some.inj hF
                            exact J58 _ _ _ hP hD hS (lv_sub hl [0, 1, 2, 3, 4, 5, 6, 7, 8, 9, 10, 11, 12, 13, 14, 15, 16] rfl)
                          clear hF
                          have hF := hy62
                          clear hy62
                          refine lv_icmp_le (tgt := 473) hx hb dX2_filterLine_465 (by decide) (fun c63 => ?_) (fun c63 => ?_)
                          · rw [if_pos c63] at hF
                            refine lv_iload hx hb dX2_filterLine_473 (lv_at hl 0 rfl) ?_
                            obtain rfl := Option.some.inj hF
                            exact J62 _ _ _ hP hD hS (lv_sub hl [0, 1, 2, 3, 4, 5, 6, 7, 8, 9, 10, 11, 12, 13, 14, 15, 16] rfl)
                          · rw [if_neg c63] at hF
                            refine lv_iload hx hb dX2_filterLine_468 (lv_at hl 4 rfl) ?_
                            refine lv_goto (tgt := 475) hx hb dX2_filterLine_470 (by decide) ?_
                            obtain rfl := Option.some.inj hF
                            exact J62 _ _ _ hP hD hS (lv_sub hl [0, 1, 2, 3, 4, 5, 6, 7, 8, 9, 10, 11, 12, 13, 14, 15, 16] rfl)
                        · rw [if_neg c61] at hF
                          refine lv_iload hx hb dX2_filterLine_455 (lv_at hl 4 rfl) ?_
                          refine lv_ineg hx hb dX2_filterLine_457 ?_
                          obtain ⟨x64, ex64, hF⟩ := ltt_some hF
                          refine lv_topi (fun zx64 ezx64 => ?_)
                          obtain rfl : x64 = zx64 := ex64.trans ezx64.symm
                          refine lv_goto (tgt := 475) hx hb dX2_filterLine_458 (by decide) ?_
                          obtain rfl := Option.some.inj hF
                          exact J58 _ _ _ hP hD hS (lv_sub hl [0, 1, 2, 3, 4, 5, 6, 7, 8, 9, 10, 11, 12, 13, 14, 15, 16] rfl)
                    clear hF
                    have hF := hy39
                    clear hy39
                    refine lv_if_eq (tgt := 417) hx hb dX2_filterLine_357 (by decide) (fun c65 => ?_) (fun c65 => ?_)
                    · rw [if_pos c65] at hF
                      obtain rfl := Option.some.inj hF
                      exact J39 _ _ _ hP hD hS (lv_sub hl [0, 1, 2, 3, 4, 5, 6, 7, 8, 9, 10, 11, 12, 13, 14, 15] rfl)
                    · rw [if_neg c65] at hF
                      refine lv_aloadq_n hx hb dX2_filterLine_360 rfl (lv_at hl 11 rfl) ?_
                      refine lv_iload_n hx hb dX2_filterLine_361 rfl (lv_at hl 12 rfl) ?_
                      refine lv_iconst (v := (3 : Int32)) hx hb dX2_filterLine_362 (by decide) ?_
                      refine lv_iload_n hx hb dX2_filterLine_363 rfl (lv_at hl 13 rfl) ?_
                      refine lv_imul hx hb dX2_filterLine_364 ?_
                      obtain ⟨x66, ex66, hF⟩ := ltt_some hF
                      refine lv_topi (fun zx66 ezx66 => ?_)
                      obtain rfl : x66 = zx66 := ex66.trans ezx66.symm
                      refine lv_isub hx hb dX2_filterLine_365 ?_
                      obtain ⟨x67, ex67, hF⟩ := ltt_some hF
                      refine lv_topi (fun zx67 ezx67 => ?_)
                      obtain rfl : x67 = zx67 := ex67.trans ezx67.symm
                      refine W_st (st' := [.int x67, .ref (ad b2)]) (by rw [va_some ho2]) ?_
                      obtain ⟨hvc, hF⟩ := chk_some hF
                      refine va_iald hx hb hK hP b2 1 (wld_i ct ad G y23.2 hc2 hk2) rfl hvc dX2_filterLine_366 ?_
                      obtain ⟨x68, ex68, hF⟩ := ltt_some hF
                      refine lv_topi (fun zx68 ezx68 => ?_)
                      obtain rfl : x68 = zx68 := ex68.trans ezx68.symm
                      refine lv_iload hx hb dX2_filterLine_367 (lv_at hl 0 rfl) ?_
                      refine lv_iadd hx hb dX2_filterLine_369 ?_
                      obtain ⟨x69, ex69, hF⟩ := ltt_some hF
                      refine lv_topi (fun zx69 ezx69 => ?_)
                      obtain rfl : x69 = zx69 := ex69.trans ezx69.symm
                      refine lv_iconst (v := (2 : Int32)) hx hb dX2_filterLine_370 (by decide) ?_
                      refine lv_iload hx hb dX2_filterLine_371 (lv_at hl 8 rfl) ?_
                      refine lv_imul hx hb dX2_filterLine_373 ?_
                      obtain ⟨x70, ex70, hF⟩ := ltt_some hF
                      refine lv_topi (fun zx70 ezx70 => ?_)
                      obtain rfl : x70 = zx70 := ex70.trans ezx70.symm
                      refine lv_isub hx hb dX2_filterLine_374 ?_
                      obtain ⟨x71, ex71, hF⟩ := ltt_some hF
                      refine lv_topi (fun zx71 ezx71 => ?_)
                      obtain rfl : x71 = zx71 := ex71.trans ezx71.symm
                      refine lv_iconst (v := (1 : Int32)) hx hb dX2_filterLine_375 (by decide) ?_
                      refine lv_ishr hx hb dX2_filterLine_376 ?_
                      obtain ⟨x72, ex72, hF⟩ := ltt_some hF
                      refine lv_topi (fun zx72 ezx72 => ?_)
                      obtain rfl : x72 = zx72 := ex72.trans ezx72.symm
                      refine lv_istore (lv' := [(16, .int x72), (15, .int x38), (14, .int y35), (13, .int y27), (12, .int y26), (11, .int y23.1), (10, .int y22.1), (9, .int x9), (8, .int x7), (7, .int x6), (6, .int x3), (0, .ref (ad a)), (1, va_re ad p0), (2, .int p1), (3, .int p2), (4, .int p3), (5, .int p4)]) hx hb dX2_filterLine_377 hl (by decide) rfl (fun ls hl => ?_)
                      refine lv_aloadq_n hx hb dX2_filterLine_379 rfl (lv_at hl 12 rfl) ?_
                      refine lv_iload_n hx hb dX2_filterLine_380 rfl (lv_at hl 13 rfl) ?_
                      refine lv_iconst (v := (2 : Int32)) hx hb dX2_filterLine_381 (by decide) ?_
                      refine lv_iload_n hx hb dX2_filterLine_382 rfl (lv_at hl 14 rfl) ?_
                      refine lv_imul hx hb dX2_filterLine_383 ?_
                      obtain ⟨x73, ex73, hF⟩ := ltt_some hF
                      refine lv_topi (fun zx73 ezx73 => ?_)
                      obtain rfl : x73 = zx73 := ex73.trans ezx73.symm
                      refine lv_isub hx hb dX2_filterLine_384 ?_
                      obtain ⟨x74, ex74, hF⟩ := ltt_some hF
                      refine lv_topi (fun zx74 ezx74 => ?_)
                      obtain rfl : x74 = zx74 := ex74.trans ezx74.symm
                      refine lv_iload hx hb dX2_filterLine_385 (lv_at hl 9 rfl) ?_
                      refine lv_iload hx hb dX2_filterLine_387 (lv_at hl 0 rfl) ?_
                      refine lv_iload hx hb dX2_filterLine_389 (lv_at hl 4 rfl) ?_
                      refine lv_ineg hx hb dX2_filterLine_391 ?_
                      obtain ⟨x75, ex75, hF⟩ := ltt_some hF
                      refine lv_topi (fun zx75 ezx75 => ?_)
                      obtain rfl : x75 = zx75 := ex75.trans ezx75.symm
                      obtain ⟨y76, hy76, hF⟩ := bnd_some hF
                      have J76 : ∀ (H : Heap) (locs : List Loc) (ls : Array Slot), va_P D classes (wld ct ad G y23.2) H → va_D A (wld ct ad G y23.2) → va_S A s.heap H locs → lv_has ls 17 [(16, .int x72), (15, .int x38), (14, .int y35), (13, .int y27), (12, .int y26), (11, .int y23.1), (10, .int y22.1), (9, .int x9), (8, .int x7), (7, .int x6), (6, .int x3), (0, .ref (ad a)), (1, va_re ad p0), (2, .int p1), (3, .int p2), (4, .int p3), (5, .int p4)] → W p l e (headSpec wsX2_filterLine ({ frames := 1, cells := 0, slots := 0, locals := 29 })).room s m ([.ref (ad a), va_re ad p0, .int p1, .int p2, .int p3, .int p4] : List Value).toArray below meth c H locs 0 0 (MQ below (va_Qv (fun (_ : Unit) => True) (fun _ t => kE D ct ad G A y t) A) ([.ref (ad a), va_re ad p0, .int p1, .int p2, .int p3, .int p4] : List Value).toArray s 0 0 A) (F0 m 415 ls [.int y76, .int x6, .int x74, va_re ad p0]) := by
                        intro H locs ls hP hD hS hl
                        refine lv_iadd hx hb dX2_filterLine_415 ?_
                        obtain ⟨x77, ex77, hF⟩ := ltt_some hF
                        refine lv_topi (fun zx77 ezx77 => ?_)
                        obtain rfl : x77 = zx77 := ex77.trans ezx77.symm
                        refine W_st (st' := [.int x77, .int x74, .ref (ad b2)]) (by rw [va_some ho2]) ?_
                        obtain ⟨hvc, hF⟩ := chk_some hF
                        refine va_iast hx hb hK hP hD hS b2 1 (wld_i ct ad G y23.2 hc2 hk2) rfl hvc dX2_filterLine_416 (fun H locs hP hD hS => ?_)
                        obtain ⟨M78, eM78, hF⟩ := ltt_some hF
                        rw [set_i ct ad G y23.2 hc2 hk2, ← eM78] at hP hD
                        obtain rfl := Option.some.inj hF
                        exact J39 _ _ _ hP hD hS (lv_sub hl [1, 2, 3, 4, 5, 6, 7, 8, 9, 10, 11, 12, 13, 14, 15, 16] rfl)
                      clear hF
                      have hF := hy76
                      clear hy76
                      refine lv_icmp_ge (tgt := 401) hx hb dX2_filterLine_392 (by decide) (fun c79 => ?_) (fun c79 => ?_)
                      · rw [if_pos c79] at hF
                        refine lv_iload hx hb dX2_filterLine_401 (lv_at hl 0 rfl) ?_
                        refine lv_iload hx hb dX2_filterLine_403 (lv_at hl 4 rfl) ?_
                        obtain ⟨y80, hy80, hF⟩ := bnd_some hF
                        have J80 : ∀ (H : Heap) (locs : List Loc) (ls : Array Slot), va_P D classes (wld ct ad G y23.2) H → va_D A (wld ct ad G y23.2) → va_S A s.heap H locs → lv_has ls 17 [(16, .int x72), (15, .int x38), (14, .int y35), (13, .int y27), (12, .int y26), (11, .int y23.1), (10, .int y22.1), (9, .int x9), (8, .int x7), (7, .int x6), (6, .int x3), (0, .ref (ad a)), (1, va_re ad p0), (2, .int p1), (3, .int p2), (4, .int p3), (5, .int p4)] → W p l e (headSpec wsX2_filterLine ({ frames := 1, cells := 0, slots := 0, locals := 29 })).room s m ([.ref (ad a), va_re ad p0, .int p1, .int p2, .int p3, .int p4] : List Value).toArray below meth c H locs 0 0 (MQ below (va_Qv (fun (_ : Unit) => True) (fun _ t => kE D ct ad G A y t) A) ([.ref (ad a), va_re ad p0, .int p1, .int p2, .int p3, .int p4] : List Value).toArray s 0 0 A) (F0 m 415 ls [.int y80, .int x6, .int x74, va_re ad p0]) := by
                          intro H locs ls hP hD hS hl
                          obtain rfl := Option.some.inj hF
                          exact J76 _ _ _ hP hD hS (lv_sub hl [0, 1, 2, 3, 4, 5, 6, 7, 8, 9, 10, 11, 12, 13, 14, 15, 16] rfl)
                        clear hF
                        have hF := hy80
                        clear hy80
                        refine lv_icmp_le (tgt := 413) hx hb dX2_filterLine_405 (by decide) (fun c81 => ?_) (fun c81 => ?_)
                        · rw [if_pos c81] at hF
                          refine lv_iload hx hb dX2_filterLine_413 (lv_at hl 0 rfl) ?_
                          obtain rfl := Option.some.inj hF
                          exact J80 _ _ _ hP hD hS (lv_sub hl [0, 1, 2, 3, 4, 5, 6, 7, 8, 9, 10, 11, 12, 13, 14, 15, 16] rfl)
                        · rw [if_neg c81] at hF
                          refine lv_iload hx hb dX2_filterLine_408 (lv_at hl 4 rfl) ?_
                          refine lv_goto (tgt := 415) hx hb dX2_filterLine_410 (by decide) ?_
                          obtain rfl := Option.some.inj hF
                          exact J80 _ _ _ hP hD hS (lv_sub hl [0, 1, 2, 3, 4, 5, 6, 7, 8, 9, 10, 11, 12, 13, 14, 15, 16] rfl)
                      · rw [if_neg c79] at hF
                        refine lv_iload hx hb dX2_filterLine_395 (lv_at hl 4 rfl) ?_
                        refine lv_ineg hx hb dX2_filterLine_397 ?_
                        obtain ⟨x82, ex82, hF⟩ := ltt_some hF
                        refine lv_topi (fun zx82 ezx82 => ?_)
                        obtain rfl : x82 = zx82 := ex82.trans ezx82.symm
                        refine lv_goto (tgt := 415) hx hb dX2_filterLine_398 (by decide) ?_
                        obtain rfl := Option.some.inj hF
                        exact J76 _ _ _ hP hD hS (lv_sub hl [0, 1, 2, 3, 4, 5, 6, 7, 8, 9, 10, 11, 12, 13, 14, 15, 16] rfl)
                  clear hF
                  have hF := hy35
                  clear hy35
                  refine lv_icmp_ge (tgt := 328) hx hb dX2_filterLine_319 (by decide) (fun c83 => ?_) (fun c83 => ?_)
                  · rw [if_pos c83] at hF
                    refine lv_iload hx hb dX2_filterLine_328 (lv_at hl 0 rfl) ?_
                    refine lv_iload hx hb dX2_filterLine_330 (lv_at hl 1 rfl) ?_
                    obtain ⟨y84, hy84, hF⟩ := bnd_some hF
                    have J84 : ∀ (H : Heap) (locs : List Loc) (ls : Array Slot), va_P D classes (wld ct ad G y23.2) H → va_D A (wld ct ad G y23.2) → va_S A s.heap H locs → lv_has ls 17 [(14, .int x33), (13, .int y27), (12, .int y26), (11, .int y23.1), (10, .int y22.1), (9, .int x9), (8, .int x7), (7, .int x6), (6, .int x3), (0, .ref (ad a)), (1, va_re ad p0), (2, .int p1), (3, .int p2), (4, .int p3), (5, .int p4)] → W p l e (headSpec wsX2_filterLine ({ frames := 1, cells := 0, slots := 0, locals := 29 })).room s m ([.ref (ad a), va_re ad p0, .int p1, .int p2, .int p3, .int p4] : List Value).toArray below meth c H locs 0 0 (MQ below (va_Qv (fun (_ : Unit) => True) (fun _ t => kE D ct ad G A y t) A) ([.ref (ad a), va_re ad p0, .int p1, .int p2, .int p3, .int p4] : List Value).toArray s 0 0 A) (F0 m 342 ls [.int y84]) := by
                      intro H locs ls hP hD hS hl
                      obtain rfl := Option.some.inj hF
                      exact J35 _ _ _ hP hD hS (lv_sub hl [0, 1, 2, 3, 4, 5, 6, 7, 8, 9, 10, 11, 12, 13, 14] rfl)
                    clear hF
                    have hF := hy84
                    clear hy84
                    refine lv_icmp_le (tgt := 340) hx hb dX2_filterLine_332 (by decide) (fun c85 => ?_) (fun c85 => ?_)
                    · rw [if_pos c85] at hF
                      refine lv_iload hx hb dX2_filterLine_340 (lv_at hl 0 rfl) ?_
                      obtain rfl := Option.some.inj hF
                      exact J84 _ _ _ hP hD hS (lv_sub hl [0, 1, 2, 3, 4, 5, 6, 7, 8, 9, 10, 11, 12, 13, 14] rfl)
                    · rw [if_neg c85] at hF
                      refine lv_iload hx hb dX2_filterLine_335 (lv_at hl 1 rfl) ?_
                      refine lv_goto (tgt := 342) hx hb dX2_filterLine_337 (by decide) ?_
                      obtain rfl := Option.some.inj hF
                      exact J84 _ _ _ hP hD hS (lv_sub hl [0, 1, 2, 3, 4, 5, 6, 7, 8, 9, 10, 11, 12, 13, 14] rfl)
                  · rw [if_neg c83] at hF
                    refine lv_iload hx hb dX2_filterLine_322 (lv_at hl 1 rfl) ?_
                    refine lv_ineg hx hb dX2_filterLine_324 ?_
                    obtain ⟨x86, ex86, hF⟩ := ltt_some hF
                    refine lv_topi (fun zx86 ezx86 => ?_)
                    obtain rfl : x86 = zx86 := ex86.trans ezx86.symm
                    refine lv_goto (tgt := 342) hx hb dX2_filterLine_325 (by decide) ?_
                    obtain rfl := Option.some.inj hF
                    exact J35 _ _ _ hP hD hS (lv_sub hl [0, 1, 2, 3, 4, 5, 6, 7, 8, 9, 10, 11, 12, 13, 14] rfl)
                clear hF
                have hF := hy27
                clear hy27
                refine lv_if_eq (tgt := 289) hx hb dX2_filterLine_259 (by decide) (fun c87 => ?_) (fun c87 => ?_)
                · rw [if_pos c87] at hF
                  refine lv_iload hx hb dX2_filterLine_289 (lv_at hl 0 rfl) ?_
                  refine lv_iconst (v := (1 : Int32)) hx hb dX2_filterLine_291 (by decide) ?_
                  refine lv_iadd hx hb dX2_filterLine_292 ?_
                  obtain ⟨x88, ex88, hF⟩ := ltt_some hF
                  refine lv_topi (fun zx88 ezx88 => ?_)
                  obtain rfl : x88 = zx88 := ex88.trans ezx88.symm
                  obtain rfl := Option.some.inj hF
                  exact J27 _ _ _ hP hD hS (lv_sub hl [0, 1, 2, 3, 4, 5, 6, 7, 8, 9, 10, 11, 12] rfl)
                · rw [if_neg c87] at hF
                  refine lv_iload hx hb dX2_filterLine_262 (lv_at hl 0 rfl) ?_
                  refine lv_iload hx hb dX2_filterLine_264 (lv_at hl 2 rfl) ?_
                  obtain ⟨y89, hy89, hF⟩ := bnd_some hF
                  have J89 : ∀ (H : Heap) (locs : List Loc) (ls : Array Slot), va_P D classes (wld ct ad G y23.2) H → va_D A (wld ct ad G y23.2) → va_S A s.heap H locs → lv_has ls 17 [(12, .int y26), (11, .int y23.1), (10, .int y22.1), (9, .int x9), (8, .int x7), (7, .int x6), (6, .int x3), (0, .ref (ad a)), (1, va_re ad p0), (2, .int p1), (3, .int p2), (4, .int p3), (5, .int p4)] → W p l e (headSpec wsX2_filterLine ({ frames := 1, cells := 0, slots := 0, locals := 29 })).room s m ([.ref (ad a), va_re ad p0, .int p1, .int p2, .int p3, .int p4] : List Value).toArray below meth c H locs 0 0 (MQ below (va_Qv (fun (_ : Unit) => True) (fun _ t => kE D ct ad G A y t) A) ([.ref (ad a), va_re ad p0, .int p1, .int p2, .int p3, .int p4] : List Value).toArray s 0 0 A) (F0 m 274 ls [.int y89, .int y26]) := by
                    intro H locs ls hP hD hS hl
                    refine lv_iadd hx hb dX2_filterLine_274 ?_
                    obtain ⟨x90, ex90, hF⟩ := ltt_some hF
                    refine lv_topi (fun zx90 ezx90 => ?_)
                    obtain rfl : x90 = zx90 := ex90.trans ezx90.symm
                    refine lv_iload hx hb dX2_filterLine_275 (lv_at hl 1 rfl) ?_
                    obtain ⟨y91, hy91, hF⟩ := bnd_some hF
                    have J91 : ∀ (H : Heap) (locs : List Loc) (ls : Array Slot), va_P D classes (wld ct ad G y23.2) H → va_D A (wld ct ad G y23.2) → va_S A s.heap H locs → lv_has ls 17 [(12, .int y26), (11, .int y23.1), (10, .int y22.1), (9, .int x9), (8, .int x7), (7, .int x6), (6, .int x3), (0, .ref (ad a)), (1, va_re ad p0), (2, .int p1), (3, .int p2), (4, .int p3), (5, .int p4)] → W p l e (headSpec wsX2_filterLine ({ frames := 1, cells := 0, slots := 0, locals := 29 })).room s m ([.ref (ad a), va_re ad p0, .int p1, .int p2, .int p3, .int p4] : List Value).toArray below meth c H locs 0 0 (MQ below (va_Qv (fun (_ : Unit) => True) (fun _ t => kE D ct ad G A y t) A) ([.ref (ad a), va_re ad p0, .int p1, .int p2, .int p3, .int p4] : List Value).toArray s 0 0 A) (F0 m 285 ls [.int y91, .int x90]) := by
                      intro H locs ls hP hD hS hl
                      refine lv_iadd hx hb dX2_filterLine_285 ?_
                      obtain ⟨x92, ex92, hF⟩ := ltt_some hF
                      refine lv_topi (fun zx92 ezx92 => ?_)
                      obtain rfl : x92 = zx92 := ex92.trans ezx92.symm
                      refine lv_goto (tgt := 293) hx hb dX2_filterLine_286 (by decide) ?_
                      obtain rfl := Option.some.inj hF
                      exact J27 _ _ _ hP hD hS (lv_sub hl [0, 1, 2, 3, 4, 5, 6, 7, 8, 9, 10, 11, 12] rfl)
                    clear hF
                    have hF := hy91
                    clear hy91
                    refine lv_if_eq (tgt := 284) hx hb dX2_filterLine_277 (by decide) (fun c93 => ?_) (fun c93 => ?_)
                    · rw [if_pos c93] at hF
                      refine lv_iconst (v := (0 : Int32)) hx hb dX2_filterLine_284 (by decide) ?_
                      obtain rfl := Option.some.inj hF
                      exact J91 _ _ _ hP hD hS (lv_sub hl [0, 1, 2, 3, 4, 5, 6, 7, 8, 9, 10, 11, 12] rfl)
                    · rw [if_neg c93] at hF
                      refine lv_iconst (v := (1 : Int32)) hx hb dX2_filterLine_280 (by decide) ?_
                      refine lv_goto (tgt := 285) hx hb dX2_filterLine_281 (by decide) ?_
                      obtain rfl := Option.some.inj hF
                      exact J91 _ _ _ hP hD hS (lv_sub hl [0, 1, 2, 3, 4, 5, 6, 7, 8, 9, 10, 11, 12] rfl)
                  clear hF
                  have hF := hy89
                  clear hy89
                  refine lv_if_eq (tgt := 273) hx hb dX2_filterLine_266 (by decide) (fun c94 => ?_) (fun c94 => ?_)
                  · rw [if_pos c94] at hF
                    refine lv_iconst (v := (0 : Int32)) hx hb dX2_filterLine_273 (by decide) ?_
                    obtain rfl := Option.some.inj hF
                    exact J89 _ _ _ hP hD hS (lv_sub hl [0, 1, 2, 3, 4, 5, 6, 7, 8, 9, 10, 11, 12] rfl)
                  · rw [if_neg c94] at hF
                    refine lv_iconst (v := (1 : Int32)) hx hb dX2_filterLine_269 (by decide) ?_
                    refine lv_goto (tgt := 274) hx hb dX2_filterLine_270 (by decide) ?_
                    obtain rfl := Option.some.inj hF
                    exact J89 _ _ _ hP hD hS (lv_sub hl [0, 1, 2, 3, 4, 5, 6, 7, 8, 9, 10, 11, 12] rfl)
              clear hF
              have hF := hy26
              clear hy26
              refine lv_icmp_ge (tgt := 237) hx hb dX2_filterLine_230 (by decide) (fun c95 => ?_) (fun c95 => ?_)
              · rw [if_pos c95] at hF
                refine va_gets hx hb (hZ.1 5 (by decide)).1 hS hown (hts (.fieldLink RX2 140 "VideoSuite$Edges" "SOFT" "[I") (by decide +kernel)) (fun _ h => h) dX2_filterLine_237 ?_
                refine lv_iconst (v := (3 : Int32)) hx hb dX2_filterLine_240 (by decide) ?_
                refine lv_aload_n hx hb dX2_filterLine_241 rfl (lv_at hl 6 rfl) ?_
                refine va_get (D := D) (ci := 2) (v := .int (y23.2.1 a 4)) (C := RX2) (T := TX2) (N := 7) hx hb hts (by decide +kernel) hown hK hP a (wld_o ct ad G y23.2 hc hk (by decide)) rfl 4 (by decide) (hts (.fieldLink RX2 116 "VideoSuite$Edges" "indexA" "I") (by decide +kernel)) (fun _ h9 => h9) rfl dX2_filterLine_242 ?_
                obtain ⟨x96, ex96, hF⟩ := ltt_some hF
                refine lv_topi (fun zx96 ezx96 => ?_)
                obtain rfl : x96 = zx96 := ex96.trans ezx96.symm
                refine lv_bipush (v := (17 : Int32)) hx hb dX2_filterLine_245 (by decide) ?_
                refine lv_isub hx hb dX2_filterLine_247 ?_
                obtain ⟨x97, ex97, hF⟩ := ltt_some hF
                refine lv_topi (fun zx97 ezx97 => ?_)
                obtain rfl : x97 = zx97 := ex97.trans ezx97.symm
                refine lv_imul hx hb dX2_filterLine_248 ?_
                obtain ⟨x98, ex98, hF⟩ := ltt_some hF
                refine lv_topi (fun zx98 ezx98 => ?_)
                obtain rfl : x98 = zx98 := ex98.trans ezx98.symm
                refine lv_iload hx hb dX2_filterLine_249 (lv_at hl 10 rfl) ?_
                refine lv_iadd hx hb dX2_filterLine_251 ?_
                obtain ⟨x99, ex99, hF⟩ := ltt_some hF
                refine lv_topi (fun zx99 ezx99 => ?_)
                obtain rfl : x99 = zx99 := ex99.trans ezx99.symm
                refine lv_iconst (v := (1 : Int32)) hx hb dX2_filterLine_252 (by decide) ?_
                refine lv_isub hx hb dX2_filterLine_253 ?_
                obtain ⟨x100, ex100, hF⟩ := ltt_some hF
                refine lv_topi (fun zx100 ezx100 => ?_)
                obtain rfl : x100 = zx100 := ex100.trans ezx100.symm
                obtain ⟨hvc, hF⟩ := chk_some hF
                refine va_ti (v := .int ((sT 5).getD x100.toNatClampNeg 0)) hx hb (hZ.1 5 (by decide)).2 hS hvc rfl dX2_filterLine_254 ?_
                obtain ⟨x101, ex101, hF⟩ := ltt_some hF
                refine lv_topi (fun zx101 ezx101 => ?_)
                obtain rfl : x101 = zx101 := ex101.trans ezx101.symm
                obtain rfl := Option.some.inj hF
                exact J26 _ _ _ hP hD hS (lv_sub hl [0, 1, 2, 3, 4, 5, 6, 7, 8, 9, 10, 11] rfl)
              · rw [if_neg c95] at hF
                refine lv_iconst (v := (0 : Int32)) hx hb dX2_filterLine_233 (by decide) ?_
                refine lv_goto (tgt := 255) hx hb dX2_filterLine_234 (by decide) ?_
                obtain rfl := Option.some.inj hF
                exact J26 _ _ _ hP hD hS (lv_sub hl [0, 1, 2, 3, 4, 5, 6, 7, 8, 9, 10, 11] rfl)
            · rw [if_pos c24] at hF
              refine lv_iload hx hb dX2_filterLine_144 (lv_at hl 5 rfl) ?_
              refine lv_iload hx hb dX2_filterLine_146 (lv_at hl 3 rfl) ?_
              refine lv_isub hx hb dX2_filterLine_148 ?_
              obtain ⟨x102, ex102, hF⟩ := ltt_some hF
              refine lv_topi (fun zx102 ezx102 => ?_)
              obtain rfl : x102 = zx102 := ex102.trans ezx102.symm
              refine va_mabs hx hb (hml.trans hl.1.symm) hown (hts (.methodLink RX2 131 Lib.Math.abs.name) (by decide +kernel)) (hts (.static Lib.Math.abs.name) (by decide +kernel)) (hts (.initialized "java/lang/Math") (by decide +kernel)) (hts (.code Lib.Math.abs.name Lib.Math.abs.code 1 (some .int)) (by decide +kernel)) (Nat.le_of_ble_eq_true rfl) (Nat.le_of_ble_eq_true rfl) (Nat.zero_le _) (Nat.zero_le _) dX2_filterLine_149 ?_
              obtain ⟨x103, ex103, hF⟩ := ltt_some hF
              refine lv_topi (fun zx103 ezx103 => ?_)
              obtain rfl : x103 = zx103 := ex103.trans ezx103.symm
              refine lv_aload_n hx hb dX2_filterLine_152 rfl (lv_at hl 6 rfl) ?_
              refine va_get (D := D) (ci := 2) (v := .int (y23.2.1 a 2)) (C := RX2) (T := TX2) (N := 7) hx hb hts (by decide +kernel) hown hK hP a (wld_o ct ad G y23.2 hc hk (by decide)) rfl 2 (by decide) (hts (.fieldLink RX2 122 "VideoSuite$Edges" "alpha" "I") (by decide +kernel)) (fun _ h9 => h9) rfl dX2_filterLine_153 ?_
              obtain ⟨x104, ex104, hF⟩ := ltt_some hF
              refine lv_topi (fun zx104 ezx104 => ?_)
              obtain rfl : x104 = zx104 := ex104.trans ezx104.symm
              refine lv_iconst (v := (2 : Int32)) hx hb dX2_filterLine_156 (by decide) ?_
              refine lv_ishr hx hb dX2_filterLine_157 ?_
              obtain ⟨x105, ex105, hF⟩ := ltt_some hF
              refine lv_topi (fun zx105 ezx105 => ?_)
              obtain rfl : x105 = zx105 := ex105.trans ezx105.symm
              refine lv_iconst (v := (2 : Int32)) hx hb dX2_filterLine_158 (by decide) ?_
              refine lv_iadd hx hb dX2_filterLine_159 ?_
              obtain ⟨x106, ex106, hF⟩ := ltt_some hF
              refine lv_topi (fun zx106 ezx106 => ?_)
              obtain rfl : x106 = zx106 := ex106.trans ezx106.symm
              obtain ⟨y107, hy107, hF⟩ := bnd_some hF
              have J107 : ∀ (H : Heap) (locs : List Loc) (ls : Array Slot), va_P D classes (wld ct ad G y23.2) H → va_D A (wld ct ad G y23.2) → va_S A s.heap H locs → lv_has ls 17 [(11, .int y23.1), (10, .int y22.1), (9, .int x9), (8, .int x7), (7, .int x6), (6, .int x3), (0, .ref (ad a)), (1, va_re ad p0), (2, .int p1), (3, .int p2), (4, .int p3), (5, .int p4)] → W p l e (headSpec wsX2_filterLine ({ frames := 1, cells := 0, slots := 0, locals := 29 })).room s m ([.ref (ad a), va_re ad p0, .int p1, .int p2, .int p3, .int p4] : List Value).toArray below meth c H locs 0 0 (MQ below (va_Qv (fun (_ : Unit) => True) (fun _ t => kE D ct ad G A y t) A) ([.ref (ad a), va_re ad p0, .int p1, .int p2, .int p3, .int p4] : List Value).toArray s 0 0 A) (F0 m 168 ls [.int y107]) := by
                intro H locs ls hP hD hS hl
                refine lv_istore (lv' := [(12, .int y107), (11, .int y23.1), (10, .int y22.1), (9, .int x9), (8, .int x7), (7, .int x6), (6, .int x3), (0, .ref (ad a)), (1, va_re ad p0), (2, .int p1), (3, .int p2), (4, .int p3), (5, .int p4)]) hx hb dX2_filterLine_168 hl (by decide) rfl (fun ls hl => ?_)
                refine lv_aloadq_n hx hb dX2_filterLine_170 rfl (lv_at hl 8 rfl) ?_
                refine lv_iload_n hx hb dX2_filterLine_171 rfl (lv_at hl 9 rfl) ?_
                refine lv_iload_n hx hb dX2_filterLine_172 rfl (lv_at hl 10 rfl) ?_
                refine lv_isub hx hb dX2_filterLine_173 ?_
                obtain ⟨x108, ex108, hF⟩ := ltt_some hF
                refine lv_topi (fun zx108 ezx108 => ?_)
                obtain rfl : x108 = zx108 := ex108.trans ezx108.symm
                refine lv_iload_n hx hb dX2_filterLine_174 rfl (lv_at hl 10 rfl) ?_
                refine lv_ineg hx hb dX2_filterLine_175 ?_
                obtain ⟨x109, ex109, hF⟩ := ltt_some hF
                refine lv_topi (fun zx109 ezx109 => ?_)
                obtain rfl : x109 = zx109 := ex109.trans ezx109.symm
                refine lv_iload hx hb dX2_filterLine_176 (lv_at hl 2 rfl) ?_
                obtain ⟨y110, hy110, hF⟩ := bnd_some hF
                have J110 : ∀ (H : Heap) (locs : List Loc) (ls : Array Slot), va_P D classes (wld ct ad G y23.2) H → va_D A (wld ct ad G y23.2) → va_S A s.heap H locs → lv_has ls 17 [(12, .int y107), (11, .int y23.1), (10, .int y22.1), (9, .int x9), (8, .int x7), (7, .int x6), (6, .int x3), (0, .ref (ad a)), (1, va_re ad p0), (2, .int p1), (3, .int p2), (4, .int p3), (5, .int p4)] → W p l e (headSpec wsX2_filterLine ({ frames := 1, cells := 0, slots := 0, locals := 29 })).room s m ([.ref (ad a), va_re ad p0, .int p1, .int p2, .int p3, .int p4] : List Value).toArray below meth c H locs 0 0 (MQ below (va_Qv (fun (_ : Unit) => True) (fun _ t => kE D ct ad G A y t) A) ([.ref (ad a), va_re ad p0, .int p1, .int p2, .int p3, .int p4] : List Value).toArray s 0 0 A) (F0 m 191 ls [.int y110, .int x109, .int x108, va_re ad p0]) := by
                  intro H locs ls hP hD hS hl
                  refine lv_iload hx hb dX2_filterLine_191 (lv_at hl 4 rfl) ?_
                  refine lv_iload hx hb dX2_filterLine_193 (lv_at hl 3 rfl) ?_
                  obtain ⟨y111, hy111, hF⟩ := bnd_some hF
                  have hf9 := wA_in hD hA9 hS
                  refine va_callv (va_runS (As := [va_re ad p0, .int x108, .int x109, .int y110, .int x7, .int x9]) (rest := []) ⟨hx, hb, hml, hown, hts⟩ (kX2_smooth l D ct ad Z G y23.2 H.size p0 x108 x109 y110 x7 x9 y111 hy111) (va_cwS 6 hts gX2_filterLine_X2_smooth rfl rfl rfl (by decide +kernel) ⟨Nat.le_of_ble_eq_true rfl, Nat.le_of_ble_eq_true rfl⟩) ⟨fun a U g mk q => by obtain ⟨q0, q1, qP, qK, qD, qZ, qN⟩ := q; exact ⟨q0, q1, qP, va_K.moved (u := U) (U := U.calling g mk a) (Vm.Alike.refl U.vm) qK, qD, sF.moved (u := U) (U := U.calling g mk a) (Vm.Alike.refl U.vm) qZ, nF.same rfl qN⟩, fun U hU hW => ⟨rfl, by rw [hU], by rw [hU]; exact hP, va_K.moved hW.alike hK, hD.weaken (fun _ _ _ _ => trivial), by rw [hU]; exact ((hZ.kept hS.2.1).narrow hf9).moved hW.alike, hN.warm hW⟩⟩ rfl rfl hl.1 rfl (lv_room (Nat.le_of_ble_eq_true rfl)) dX2_filterLine_195 ⟨(Nat.zero_le _), (Nat.zero_le _)⟩) hS (fun q _ h => hf9 q h) hf9 (fun u t H locs ht hvm hw hB hz1 hk1 hS => ?_)
                  obtain ⟨hP, hK9, hD9⟩ := hB
                  rw [ht] at hP
                  have hD := hD9.weaken (fun _ q _ h => hf9 q.1 h)
                  refine lv_aloadq_n hx hb dX2_filterLine_198 rfl (lv_at hl 8 rfl) ?_
                  refine lv_iload_n hx hb dX2_filterLine_199 rfl (lv_at hl 9 rfl) ?_
                  refine lv_iload_n hx hb dX2_filterLine_200 rfl (lv_at hl 10 rfl) ?_
                  refine lv_iload hx hb dX2_filterLine_201 (lv_at hl 1 rfl) ?_
                  obtain ⟨y112, hy112, hF⟩ := bnd_some hF
                  have J112 : ∀ (H : Heap) (locs : List Loc) (ls : Array Slot), va_P D classes (wld ct ad G y111) H → va_D A (wld ct ad G y111) → va_S A s.heap H locs → lv_has ls 17 [(12, .int y107), (11, .int y23.1), (10, .int y22.1), (9, .int x9), (8, .int x7), (7, .int x6), (6, .int x3), (0, .ref (ad a)), (1, va_re ad p0), (2, .int p1), (3, .int p2), (4, .int p3), (5, .int p4)] → W p l e (headSpec wsX2_filterLine ({ frames := 1, cells := 0, slots := 0, locals := 29 })).room s m ([.ref (ad a), va_re ad p0, .int p1, .int p2, .int p3, .int p4] : List Value).toArray below meth c H locs 0 0 (MQ below (va_Qv (fun (_ : Unit) => True) (fun _ t => kE D ct ad G A y t) A) ([.ref (ad a), va_re ad p0, .int p1, .int p2, .int p3, .int p4] : List Value).toArray s 0 0 A) (F0 m 216 ls [.int y112, .int p2, .int p1, va_re ad p0]) := by
                    intro H locs ls hP hD hS hl
                    refine lv_iload hx hb dX2_filterLine_216 (lv_at hl 6 rfl) ?_
                    refine lv_iload hx hb dX2_filterLine_218 (lv_at hl 5 rfl) ?_
                    obtain ⟨y113, hy113, hF⟩ := bnd_some hF
                    have hf9 := wA_in hD hA9 hS
                    refine va_callv (va_runS (As := [va_re ad p0, .int p1, .int p2, .int y112, .int x3, .int x6]) (rest := []) ⟨hx, hb, hml, hown, hts⟩ (kX2_smooth l D ct ad Z G y111 H.size p0 p1 p2 y112 x3 x6 y113 hy113) (va_cwS 6 hts gX2_filterLine_X2_smooth rfl rfl rfl (by decide +kernel) ⟨Nat.le_of_ble_eq_true rfl, Nat.le_of_ble_eq_true rfl⟩) ⟨fun a U g mk q => by obtain ⟨q0, q1, qP, qK, qD, qZ, qN⟩ := q; exact ⟨q0, q1, qP, va_K.moved (u := U) (U := U.calling g mk a) (Vm.Alike.refl U.vm) qK, qD, sF.moved (u := U) (U := U.calling g mk a) (Vm.Alike.refl U.vm) qZ, nF.same rfl qN⟩, fun U hU hW => ⟨rfl, by rw [hU], by rw [hU]; exact hP, va_K.moved hW.alike hK, hD.weaken (fun _ _ _ _ => trivial), by rw [hU]; exact ((hZ.kept hS.2.1).narrow hf9).moved hW.alike, hN.warm hW⟩⟩ rfl rfl hl.1 rfl (lv_room (Nat.le_of_ble_eq_true rfl)) dX2_filterLine_220 ⟨(Nat.zero_le _), (Nat.zero_le _)⟩) hS (fun q _ h => hf9 q h) hf9 (fun u t H locs ht hvm hw hB hz1 hk1 hS => ?_)
                    obtain ⟨hP, hK9, hD9⟩ := hB
                    rw [ht] at hP
                    have hD := hD9.weaken (fun _ q _ h => hf9 q.1 h)
                    obtain rfl := Option.some.inj hF
                    exact W.vret hx hb hr (fun t ht hW => ⟨⟨(), rfl, trivial, ⟨by rw [ht]; exact hP, va_K.moved hW.alike hK, hD⟩⟩, hS.F ht⟩) hS.2.2 dX2_filterLine_223
                  clear hF
                  have hF := hy112
                  clear hy112
                  refine lv_if_eq (tgt := 215) hx hb dX2_filterLine_203 (by decide) (fun c114 => ?_) (fun c114 => ?_)
                  · rw [if_pos c114] at hF
                    refine lv_iconst (v := (0 : Int32)) hx hb dX2_filterLine_215 (by decide) ?_
                    obtain rfl := Option.some.inj hF
                    exact J112 _ _ _ hP hD hS (lv_sub hl [0, 1, 2, 3, 4, 5, 6, 7, 8, 9, 10, 11, 12] rfl)
                  · rw [if_neg c114] at hF
                    refine lv_iload hx hb dX2_filterLine_206 (lv_at hl 0 rfl) ?_
                    obtain ⟨y115, hy115, hF⟩ := bnd_some hF
                    have J115 : ∀ (H : Heap) (locs : List Loc) (ls : Array Slot), va_P D classes (wld ct ad G y111) H → va_D A (wld ct ad G y111) → va_S A s.heap H locs → lv_has ls 17 [(12, .int y107), (11, .int y23.1), (10, .int y22.1), (9, .int x9), (8, .int x7), (7, .int x6), (6, .int x3), (0, .ref (ad a)), (1, va_re ad p0), (2, .int p1), (3, .int p2), (4, .int p3), (5, .int p4)] → W p l e (headSpec wsX2_filterLine ({ frames := 1, cells := 0, slots := 0, locals := 29 })).room s m ([.ref (ad a), va_re ad p0, .int p1, .int p2, .int p3, .int p4] : List Value).toArray below meth c H locs 0 0 (MQ below (va_Qv (fun (_ : Unit) => True) (fun _ t => kE D ct ad G A y t) A) ([.ref (ad a), va_re ad p0, .int p1, .int p2, .int p3, .int p4] : List Value).toArray s 0 0 A) (F0 m 216 ls [.int y115, .int p2, .int p1, va_re ad p0]) := by
                      intro H locs ls hP hD hS hl
                      obtain rfl := Option.some.inj hF
                      exact J112 _ _ _ hP hD hS (lv_sub hl [0, 1, 2, 3, 4, 5, 6, 7, 8, 9, 10, 11, 12] rfl)
                    clear hF
                    have hF := hy115
                    clear hy115
                    refine lv_if_eq (tgt := 215) hx hb dX2_filterLine_208 (by decide) (fun c116 => ?_) (fun c116 => ?_)
                    · rw [if_pos c116] at hF
                      refine lv_iconst (v := (0 : Int32)) hx hb dX2_filterLine_215 (by decide) ?_
                      obtain rfl := Option.some.inj hF
                      exact J115 _ _ _ hP hD hS (lv_sub hl [0, 1, 2, 3, 4, 5, 6, 7, 8, 9, 10, 11, 12] rfl)
                    · rw [if_neg c116] at hF
                      refine lv_iconst (v := (1 : Int32)) hx hb dX2_filterLine_211 (by decide) ?_
                      refine lv_goto (tgt := 216) hx hb dX2_filterLine_212 (by decide) ?_
                      obtain rfl := Option.some.inj hF
                      exact J115 _ _ _ hP hD hS (lv_sub hl [0, 1, 2, 3, 4, 5, 6, 7, 8, 9, 10, 11, 12] rfl)
                clear hF
                have hF := hy110
                clear hy110
                refine lv_if_eq (tgt := 190) hx hb dX2_filterLine_178 (by decide) (fun c117 => ?_) (fun c117 => ?_)
                · rw [if_pos c117] at hF
                  refine lv_iconst (v := (0 : Int32)) hx hb dX2_filterLine_190 (by decide) ?_
                  obtain rfl := Option.some.inj hF
                  exact J110 _ _ _ hP hD hS (lv_sub hl [0, 1, 2, 3, 4, 5, 6, 7, 8, 9, 10, 11, 12] rfl)
                · rw [if_neg c117] at hF
                  refine lv_iload hx hb dX2_filterLine_181 (lv_at hl 0 rfl) ?_
                  obtain ⟨y118, hy118, hF⟩ := bnd_some hF
                  have J118 : ∀ (H : Heap) (locs : List Loc) (ls : Array Slot), va_P D classes (wld ct ad G y23.2) H → va_D A (wld ct ad G y23.2) → va_S A s.heap H locs → lv_has ls 17 [(12, .int y107), (11, .int y23.1), (10, .int y22.1), (9, .int x9), (8, .int x7), (7, .int x6), (6, .int x3), (0, .ref (ad a)), (1, va_re ad p0), (2, .int p1), (3, .int p2), (4, .int p3), (5, .int p4)] → W p l e (headSpec wsX2_filterLine ({ frames := 1, cells := 0, slots := 0, locals := 29 })).room s m ([.ref (ad a), va_re ad p0, .int p1, .int p2, .int p3, .int p4] : List Value).toArray below meth c H locs 0 0 (MQ below (va_Qv (fun (_ : Unit) => True) (fun _ t => kE D ct ad G A y t) A) ([.ref (ad a), va_re ad p0, .int p1, .int p2, .int p3, .int p4] : List Value).toArray s 0 0 A) (F0 m 191 ls [.int y118, .int x109, .int x108, va_re ad p0]) := by
                    intro H locs ls hP hD hS hl
                    obtain rfl := Option.some.inj hF
                    exact J110 _ _ _ hP hD hS (lv_sub hl [0, 1, 2, 3, 4, 5, 6, 7, 8, 9, 10, 11, 12] rfl)
                  clear hF
                  have hF := hy118
                  clear hy118
                  refine lv_if_eq (tgt := 190) hx hb dX2_filterLine_183 (by decide) (fun c119 => ?_) (fun c119 => ?_)
                  · rw [if_pos c119] at hF
                    refine lv_iconst (v := (0 : Int32)) hx hb dX2_filterLine_190 (by decide) ?_
                    obtain rfl := Option.some.inj hF
                    exact J118 _ _ _ hP hD hS (lv_sub hl [0, 1, 2, 3, 4, 5, 6, 7, 8, 9, 10, 11, 12] rfl)
                  · rw [if_neg c119] at hF
                    refine lv_iconst (v := (1 : Int32)) hx hb dX2_filterLine_186 (by decide) ?_
                    refine lv_goto (tgt := 191) hx hb dX2_filterLine_187 (by decide) ?_
                    obtain rfl := Option.some.inj hF
                    exact J118 _ _ _ hP hD hS (lv_sub hl [0, 1, 2, 3, 4, 5, 6, 7, 8, 9, 10, 11, 12] rfl)
              clear hF
              have hF := hy107
              clear hy107
              refine lv_icmp_ge (tgt := 167) hx hb dX2_filterLine_160 (by decide) (fun c120 => ?_) (fun c120 => ?_)
              · rw [if_pos c120] at hF
                refine lv_iconst (v := (0 : Int32)) hx hb dX2_filterLine_167 (by decide) ?_
                obtain rfl := Option.some.inj hF
                exact J107 _ _ _ hP hD hS (lv_sub hl [0, 1, 2, 3, 4, 5, 6, 7, 8, 9, 10, 11] rfl)
              · rw [if_neg c120] at hF
                refine lv_iconst (v := (1 : Int32)) hx hb dX2_filterLine_163 (by decide) ?_
                refine lv_goto (tgt := 168) hx hb dX2_filterLine_164 (by decide) ?_
                obtain rfl := Option.some.inj hF
                exact J107 _ _ _ hP hD hS (lv_sub hl [0, 1, 2, 3, 4, 5, 6, 7, 8, 9, 10, 11] rfl)
          clear hF
          have hF := hy23
          clear hy23
          refine lv_if_eq (tgt := 135) hx hb dX2_filterLine_108 (by decide) (fun c121 => ?_) (fun c121 => ?_)
          · rw [if_pos c121] at hF
            refine lv_iconst (v := (0 : Int32)) hx hb dX2_filterLine_135 (by decide) ?_
            obtain rfl := Option.some.inj hF
            exact J23 _ _ _ hP hD hS (lv_sub hl [0, 1, 2, 3, 4, 5, 6, 7, 8, 9, 10] rfl)
          · rw [if_neg c121] at hF
            refine lv_aloadq_n hx hb dX2_filterLine_111 rfl (lv_at hl 6 rfl) ?_
            refine lv_iload_n hx hb dX2_filterLine_112 rfl (lv_at hl 7 rfl) ?_
            refine lv_iconst (v := (2 : Int32)) hx hb dX2_filterLine_113 (by decide) ?_
            refine lv_iload_n hx hb dX2_filterLine_114 rfl (lv_at hl 8 rfl) ?_
            refine lv_imul hx hb dX2_filterLine_115 ?_
            obtain ⟨x122, ex122, hF⟩ := ltt_some hF
            refine lv_topi (fun zx122 ezx122 => ?_)
            obtain rfl : x122 = zx122 := ex122.trans ezx122.symm
            refine lv_iadd hx hb dX2_filterLine_116 ?_
            obtain ⟨x123, ex123, hF⟩ := ltt_some hF
            refine lv_topi (fun zx123 ezx123 => ?_)
            obtain rfl : x123 = zx123 := ex123.trans ezx123.symm
            refine W_st (st' := [.int x123, .ref (ad b2)]) (by rw [va_some ho2]) ?_
            obtain ⟨hvc, hF⟩ := chk_some hF
            refine va_iald hx hb hK hP b2 1 (wld_i ct ad G y22.2 hc2 hk2) rfl hvc dX2_filterLine_117 ?_
            obtain ⟨x124, ex124, hF⟩ := ltt_some hF
            refine lv_topi (fun zx124 ezx124 => ?_)
            obtain rfl : x124 = zx124 := ex124.trans ezx124.symm
            refine lv_iload hx hb dX2_filterLine_118 (lv_at hl 2 rfl) ?_
            refine lv_isub hx hb dX2_filterLine_120 ?_
            obtain ⟨x125, ex125, hF⟩ := ltt_some hF
            refine lv_topi (fun zx125 ezx125 => ?_)
            obtain rfl : x125 = zx125 := ex125.trans ezx125.symm
            refine va_mabs hx hb (hml.trans hl.1.symm) hown (hts (.methodLink RX2 131 Lib.Math.abs.name) (by decide +kernel)) (hts (.static Lib.Math.abs.name) (by decide +kernel)) (hts (.initialized "java/lang/Math") (by decide +kernel)) (hts (.code Lib.Math.abs.name Lib.Math.abs.code 1 (some .int)) (by decide +kernel)) (Nat.le_of_ble_eq_true rfl) (Nat.le_of_ble_eq_true rfl) (Nat.zero_le _) (Nat.zero_le _) dX2_filterLine_121 ?_
            obtain ⟨x126, ex126, hF⟩ := ltt_some hF
            refine lv_topi (fun zx126 ezx126 => ?_)
            obtain rfl : x126 = zx126 := ex126.trans ezx126.symm
            refine lv_aload_n hx hb dX2_filterLine_124 rfl (lv_at hl 5 rfl) ?_
            refine va_get (D := D) (ci := 2) (v := .int (y22.2.1 a 3)) (C := RX2) (T := TX2) (N := 7) hx hb hts (by decide +kernel) hown hK hP a (wld_o ct ad G y22.2 hc hk (by decide)) rfl 3 (by decide) (hts (.fieldLink RX2 128 "VideoSuite$Edges" "beta" "I") (by decide +kernel)) (fun _ h9 => h9) rfl dX2_filterLine_125 ?_
            obtain ⟨x127, ex127, hF⟩ := ltt_some hF
            refine lv_topi (fun zx127 ezx127 => ?_)
            obtain rfl : x127 = zx127 := ex127.trans ezx127.symm
            obtain ⟨y128, hy128, hF⟩ := bnd_some hF
            have J128 : ∀ (H : Heap) (locs : List Loc) (ls : Array Slot), va_P D classes (wld ct ad G y22.2) H → va_D A (wld ct ad G y22.2) → va_S A s.heap H locs → lv_has ls 17 [(10, .int y22.1), (9, .int x9), (8, .int x7), (7, .int x6), (6, .int x3), (0, .ref (ad a)), (1, va_re ad p0), (2, .int p1), (3, .int p2), (4, .int p3), (5, .int p4)] → W p l e (headSpec wsX2_filterLine ({ frames := 1, cells := 0, slots := 0, locals := 29 })).room s m ([.ref (ad a), va_re ad p0, .int p1, .int p2, .int p3, .int p4] : List Value).toArray below meth c H locs 0 0 (MQ below (va_Qv (fun (_ : Unit) => True) (fun _ t => kE D ct ad G A y t) A) ([.ref (ad a), va_re ad p0, .int p1, .int p2, .int p3, .int p4] : List Value).toArray s 0 0 A) (F0 m 136 ls [.int y128]) := by
              intro H locs ls hP hD hS hl
              obtain rfl := Option.some.inj hF
              exact J23 _ _ _ hP hD hS (lv_sub hl [0, 1, 2, 3, 4, 5, 6, 7, 8, 9, 10] rfl)
            clear hF
            have hF := hy128
            clear hy128
            refine lv_icmp_ge (tgt := 135) hx hb dX2_filterLine_128 (by decide) (fun c129 => ?_) (fun c129 => ?_)
            · rw [if_pos c129] at hF
              refine lv_iconst (v := (0 : Int32)) hx hb dX2_filterLine_135 (by decide) ?_
              obtain rfl := Option.some.inj hF
              exact J128 _ _ _ hP hD hS (lv_sub hl [0, 1, 2, 3, 4, 5, 6, 7, 8, 9, 10] rfl)
            · rw [if_neg c129] at hF
              refine lv_iconst (v := (1 : Int32)) hx hb dX2_filterLine_131 (by decide) ?_
              refine lv_goto (tgt := 136) hx hb dX2_filterLine_132 (by decide) ?_
              obtain rfl := Option.some.inj hF
              exact J128 _ _ _ hP hD hS (lv_sub hl [0, 1, 2, 3, 4, 5, 6, 7, 8, 9, 10] rfl)
        clear hF
        have hF := hy22
        clear hy22
        refine lv_if_eq (tgt := 103) hx hb dX2_filterLine_76 (by decide) (fun c130 => ?_) (fun c130 => ?_)
        · rw [if_pos c130] at hF
          refine lv_iconst (v := (0 : Int32)) hx hb dX2_filterLine_103 (by decide) ?_
          obtain rfl := Option.some.inj hF
          exact J22 _ _ _ hP hD hS (lv_sub hl [0, 1, 2, 3, 4, 5, 6, 7, 8, 9] rfl)
        · rw [if_neg c130] at hF
          refine lv_aloadq_n hx hb dX2_filterLine_79 rfl (lv_at hl 5 rfl) ?_
          refine lv_iload_n hx hb dX2_filterLine_80 rfl (lv_at hl 6 rfl) ?_
          refine lv_iconst (v := (3 : Int32)) hx hb dX2_filterLine_81 (by decide) ?_
          refine lv_iload_n hx hb dX2_filterLine_82 rfl (lv_at hl 7 rfl) ?_
          refine lv_imul hx hb dX2_filterLine_83 ?_
          obtain ⟨x131, ex131, hF⟩ := ltt_some hF
          refine lv_topi (fun zx131 ezx131 => ?_)
          obtain rfl : x131 = zx131 := ex131.trans ezx131.symm
          refine lv_isub hx hb dX2_filterLine_84 ?_
          obtain ⟨x132, ex132, hF⟩ := ltt_some hF
          refine lv_topi (fun zx132 ezx132 => ?_)
          obtain rfl : x132 = zx132 := ex132.trans ezx132.symm
          refine W_st (st' := [.int x132, .ref (ad b2)]) (by rw [va_some ho2]) ?_
          obtain ⟨hvc, hF⟩ := chk_some hF
          refine va_iald hx hb hK hP b2 1 (wld_i ct ad G M hc2 hk2) rfl hvc dX2_filterLine_85 ?_
          obtain ⟨x133, ex133, hF⟩ := ltt_some hF
          refine lv_topi (fun zx133 ezx133 => ?_)
          obtain rfl : x133 = zx133 := ex133.trans ezx133.symm
          refine lv_iload hx hb dX2_filterLine_86 (lv_at hl 3 rfl) ?_
          refine lv_isub hx hb dX2_filterLine_88 ?_
          obtain ⟨x134, ex134, hF⟩ := ltt_some hF
          refine lv_topi (fun zx134 ezx134 => ?_)
          obtain rfl : x134 = zx134 := ex134.trans ezx134.symm
          refine va_mabs hx hb (hml.trans hl.1.symm) hown (hts (.methodLink RX2 131 Lib.Math.abs.name) (by decide +kernel)) (hts (.static Lib.Math.abs.name) (by decide +kernel)) (hts (.initialized "java/lang/Math") (by decide +kernel)) (hts (.code Lib.Math.abs.name Lib.Math.abs.code 1 (some .int)) (by decide +kernel)) (Nat.le_of_ble_eq_true rfl) (Nat.le_of_ble_eq_true rfl) (Nat.zero_le _) (Nat.zero_le _) dX2_filterLine_89 ?_
          obtain ⟨x135, ex135, hF⟩ := ltt_some hF
          refine lv_topi (fun zx135 ezx135 => ?_)
          obtain rfl : x135 = zx135 := ex135.trans ezx135.symm
          refine lv_aload_n hx hb dX2_filterLine_92 rfl (lv_at hl 4 rfl) ?_
          refine va_get (D := D) (ci := 2) (v := .int (M.1 a 3)) (C := RX2) (T := TX2) (N := 7) hx hb hts (by decide +kernel) hown hK hP a (wld_o ct ad G M hc hk (by decide)) rfl 3 (by decide) (hts (.fieldLink RX2 128 "VideoSuite$Edges" "beta" "I") (by decide +kernel)) (fun _ h9 => h9) rfl dX2_filterLine_93 ?_
          obtain ⟨x136, ex136, hF⟩ := ltt_some hF
          refine lv_topi (fun zx136 ezx136 => ?_)
          obtain rfl : x136 = zx136 := ex136.trans ezx136.symm
          obtain ⟨y137, hy137, hF⟩ := bnd_some hF
          have J137 : ∀ (H : Heap) (locs : List Loc) (ls : Array Slot), va_P D classes (wld ct ad G M) H → va_D A (wld ct ad G M) → va_S A s.heap H locs → lv_has ls 17 [(9, .int x9), (8, .int x7), (7, .int x6), (6, .int x3), (0, .ref (ad a)), (1, va_re ad p0), (2, .int p1), (3, .int p2), (4, .int p3), (5, .int p4)] → W p l e (headSpec wsX2_filterLine ({ frames := 1, cells := 0, slots := 0, locals := 29 })).room s m ([.ref (ad a), va_re ad p0, .int p1, .int p2, .int p3, .int p4] : List Value).toArray below meth c H locs 0 0 (MQ below (va_Qv (fun (_ : Unit) => True) (fun _ t => kE D ct ad G A y t) A) ([.ref (ad a), va_re ad p0, .int p1, .int p2, .int p3, .int p4] : List Value).toArray s 0 0 A) (F0 m 104 ls [.int y137]) := by
            intro H locs ls hP hD hS hl
            obtain rfl := Option.some.inj hF
            exact J22 _ _ _ hP hD hS (lv_sub hl [0, 1, 2, 3, 4, 5, 6, 7, 8, 9] rfl)
          clear hF
          have hF := hy137
          clear hy137
          refine lv_icmp_ge (tgt := 103) hx hb dX2_filterLine_96 (by decide) (fun c138 => ?_) (fun c138 => ?_)
          · rw [if_pos c138] at hF
            refine lv_iconst (v := (0 : Int32)) hx hb dX2_filterLine_103 (by decide) ?_
            obtain rfl := Option.some.inj hF
            exact J137 _ _ _ hP hD hS (lv_sub hl [0, 1, 2, 3, 4, 5, 6, 7, 8, 9] rfl)
          · rw [if_neg c138] at hF
            refine lv_iconst (v := (1 : Int32)) hx hb dX2_filterLine_99 (by decide) ?_
            refine lv_goto (tgt := 104) hx hb dX2_filterLine_100 (by decide) ?_
            obtain rfl := Option.some.inj hF
            exact J137 _ _ _ hP hD hS (lv_sub hl [0, 1, 2, 3, 4, 5, 6, 7, 8, 9] rfl)
      · rw [if_neg c21] at hF
        obtain rfl := Option.some.inj hF
        exact W.vret hx hb hr (fun t ht hW => ⟨⟨(), rfl, trivial, ⟨by rw [ht]; exact hP, va_K.moved hW.alike hK, hD⟩⟩, hS.F ht⟩) hS.2.2 dX2_filterLine_73
