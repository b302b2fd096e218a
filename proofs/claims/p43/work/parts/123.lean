set_option maxRecDepth 20000 in
theorem gX0_writeLists_X0_flag : GoodIn wuX0_writeLists (wsV RX0 166 RX0 yX0_flag wuX0_flag) := gu_V mw_1177 mw_1179 mw_28 mw_175 mw_1180
set_option maxRecDepth 20000 in
set_option maxRecDepth 20000 in
theorem gX0_writeLists_X10_ue : GoodIn wuX0_writeLists (wsV RX0 162 RX10 yX10_ue wuX10_ue) := gu_V mw_1169 mw_1170 mw_1171 mw_176 mw_1172
theorem dX0_writeLists_0 : decode cX0_writeLists 0 = .ok (.aload_n 0, 1) := by decide +kernel
theorem dX0_writeLists_1 : decode cX0_writeLists 1 = .ok (.getfield 36, 3) := by decide +kernel
theorem dX0_writeLists_4 : decode cX0_writeLists 4 = .ok (.getfield 81, 3) := by decide +kernel
theorem dX0_writeLists_7 : decode cX0_writeLists 7 = .ok (.getfield 252, 3) := by decide +kernel
theorem dX0_writeLists_10 : decode cX0_writeLists 10 = .ok (.astore_n 1, 1) := by decide +kernel
theorem dX0_writeLists_11 : decode cX0_writeLists 11 = .ok (.aload_n 1, 1) := by decide +kernel
theorem dX0_writeLists_12 : decode cX0_writeLists 12 = .ok (.iconst 1, 1) := by decide +kernel
theorem dX0_writeLists_13 : decode cX0_writeLists 13 = .ok (.iaload, 1) := by decide +kernel
theorem dX0_writeLists_14 : decode cX0_writeLists 14 = .ok (.iconst 1, 1) := by decide +kernel
theorem dX0_writeLists_15 : decode cX0_writeLists 15 = .ok (.if_icmp .ne 7, 3) := by decide +kernel
theorem dX0_writeLists_18 : decode cX0_writeLists 18 = .ok (.iconst 1, 1) := by decide +kernel
theorem dX0_writeLists_19 : decode cX0_writeLists 19 = .ok (.goto 4, 3) := by decide +kernel
theorem dX0_writeLists_22 : decode cX0_writeLists 22 = .ok (.iconst 0, 1) := by decide +kernel
theorem dX0_writeLists_23 : decode cX0_writeLists 23 = .ok (.istore_n 2, 1) := by decide +kernel
theorem dX0_writeLists_24 : decode cX0_writeLists 24 = .ok (.iload_n 2, 1) := by decide +kernel
theorem dX0_writeLists_25 : decode cX0_writeLists 25 = .ok (.ifCond .eq 11, 3) := by decide +kernel
theorem dX0_writeLists_28 : decode cX0_writeLists 28 = .ok (.aload_n 0, 1) := by decide +kernel
theorem dX0_writeLists_29 : decode cX0_writeLists 29 = .ok (.aload_n 1, 1) := by decide +kernel
theorem dX0_writeLists_30 : decode cX0_writeLists 30 = .ok (.bipush 8, 2) := by decide +kernel
theorem dX0_writeLists_32 : decode cX0_writeLists 32 = .ok (.iaload, 1) := by decide +kernel
theorem dX0_writeLists_33 : decode cX0_writeLists 33 = .ok (.invokevirtual 166, 3) := by decide +kernel
theorem dX0_writeLists_36 : decode cX0_writeLists 36 = .ok (.aload_n 1, 1) := by decide +kernel
theorem dX0_writeLists_37 : decode cX0_writeLists 37 = .ok (.bipush 9, 2) := by decide +kernel
theorem dX0_writeLists_39 : decode cX0_writeLists 39 = .ok (.iaload, 1) := by decide +kernel
theorem dX0_writeLists_40 : decode cX0_writeLists 40 = .ok (.aload_n 0, 1) := by decide +kernel
theorem dX0_writeLists_41 : decode cX0_writeLists 41 = .ok (.getfield 23, 3) := by decide +kernel
theorem dX0_writeLists_44 : decode cX0_writeLists 44 = .ok (.bipush 7, 2) := by decide +kernel
theorem dX0_writeLists_46 : decode cX0_writeLists 46 = .ok (.iaload, 1) := by decide +kernel
theorem dX0_writeLists_47 : decode cX0_writeLists 47 = .ok (.if_icmp .eq 7, 3) := by decide +kernel
theorem dX0_writeLists_50 : decode cX0_writeLists 50 = .ok (.iconst 1, 1) := by decide +kernel
theorem dX0_writeLists_51 : decode cX0_writeLists 51 = .ok (.goto 4, 3) := by decide +kernel
theorem dX0_writeLists_54 : decode cX0_writeLists 54 = .ok (.iconst 0, 1) := by decide +kernel
theorem dX0_writeLists_55 : decode cX0_writeLists 55 = .ok (.istore_n 3, 1) := by decide +kernel
theorem dX0_writeLists_56 : decode cX0_writeLists 56 = .ok (.aload_n 0, 1) := by decide +kernel
theorem dX0_writeLists_57 : decode cX0_writeLists 57 = .ok (.iload_n 3, 1) := by decide +kernel
theorem dX0_writeLists_58 : decode cX0_writeLists 58 = .ok (.ifCond .eq 7, 3) := by decide +kernel
theorem dX0_writeLists_61 : decode cX0_writeLists 61 = .ok (.iconst 1, 1) := by decide +kernel
theorem dX0_writeLists_62 : decode cX0_writeLists 62 = .ok (.goto 4, 3) := by decide +kernel
theorem dX0_writeLists_65 : decode cX0_writeLists 65 = .ok (.iconst 0, 1) := by decide +kernel
theorem dX0_writeLists_66 : decode cX0_writeLists 66 = .ok (.invokevirtual 166, 3) := by decide +kernel
theorem dX0_writeLists_69 : decode cX0_writeLists 69 = .ok (.iload_n 3, 1) := by decide +kernel
theorem dX0_writeLists_70 : decode cX0_writeLists 70 = .ok (.ifCond .eq 17, 3) := by decide +kernel
theorem dX0_writeLists_73 : decode cX0_writeLists 73 = .ok (.aload_n 0, 1) := by decide +kernel
theorem dX0_writeLists_74 : decode cX0_writeLists 74 = .ok (.getfield 29, 3) := by decide +kernel
theorem dX0_writeLists_77 : decode cX0_writeLists 77 = .ok (.iconst 0, 1) := by decide +kernel
theorem dX0_writeLists_78 : decode cX0_writeLists 78 = .ok (.aload_n 1, 1) := by decide +kernel
theorem dX0_writeLists_79 : decode cX0_writeLists 79 = .ok (.bipush 9, 2) := by decide +kernel
theorem dX0_writeLists_81 : decode cX0_writeLists 81 = .ok (.iaload, 1) := by decide +kernel
theorem dX0_writeLists_82 : decode cX0_writeLists 82 = .ok (.iconst 1, 1) := by decide +kernel
theorem dX0_writeLists_83 : decode cX0_writeLists 83 = .ok (.isub, 1) := by decide +kernel
theorem dX0_writeLists_84 : decode cX0_writeLists 84 = .ok (.invokevirtual 162, 3) := by decide +kernel
theorem dX0_writeLists_87 : decode cX0_writeLists 87 = .ok (.iload_n 3, 1) := by decide +kernel
theorem dX0_writeLists_88 : decode cX0_writeLists 88 = .ok (.ifCond .eq 16, 3) := by decide +kernel
theorem dX0_writeLists_91 : decode cX0_writeLists 91 = .ok (.iload_n 2, 1) := by decide +kernel
theorem dX0_writeLists_92 : decode cX0_writeLists 92 = .ok (.ifCond .eq 12, 3) := by decide +kernel
theorem dX0_writeLists_95 : decode cX0_writeLists 95 = .ok (.aload_n 0, 1) := by decide +kernel
theorem dX0_writeLists_96 : decode cX0_writeLists 96 = .ok (.getfield 29, 3) := by decide +kernel
theorem dX0_writeLists_99 : decode cX0_writeLists 99 = .ok (.iconst 0, 1) := by decide +kernel
theorem dX0_writeLists_100 : decode cX0_writeLists 100 = .ok (.iconst 0, 1) := by decide +kernel
theorem dX0_writeLists_101 : decode cX0_writeLists 101 = .ok (.invokevirtual 162, 3) := by decide +kernel
theorem dX0_writeLists_104 : decode cX0_writeLists 104 = .ok (.aload_n 0, 1) := by decide +kernel
theorem dX0_writeLists_105 : decode cX0_writeLists 105 = .ok (.iconst 0, 1) := by decide +kernel
theorem dX0_writeLists_106 : decode cX0_writeLists 106 = .ok (.invokevirtual 166, 3) := by decide +kernel
theorem dX0_writeLists_109 : decode cX0_writeLists 109 = .ok (.iload_n 2, 1) := by decide +kernel
theorem dX0_writeLists_110 : decode cX0_writeLists 110 = .ok (.ifCond .eq 8, 3) := by decide +kernel
theorem dX0_writeLists_113 : decode cX0_writeLists 113 = .ok (.aload_n 0, 1) := by decide +kernel
theorem dX0_writeLists_114 : decode cX0_writeLists 114 = .ok (.iconst 0, 1) := by decide +kernel
theorem dX0_writeLists_115 : decode cX0_writeLists 115 = .ok (.invokevirtual 166, 3) := by decide +kernel
theorem dX0_writeLists_118 : decode cX0_writeLists 118 = .ok (.return_, 1) := by decide +kernel
noncomputable def FX0_writeLists (G : GG) (M : DD) (a : Nat)  : Option (NN × DD) :=
  dr (xt G []) 9 ((M.2 a 3)) fun b2 =>
  dr (xt G []) 3 ((M.2 b2 1)) fun b3 =>
  dr (xt G []) 13 ((M.2 b3 0)) fun b4 =>
  chk (¬ (((1 : Int32)) < 0 ∨ (xt G []).2.2 b4 ≤ ((1 : Int32)).toNatClampNeg)) <|
  ltt (M.1 b4 ((1 : Int32)).toNatClampNeg) fun x5 =>
  bnd (if x5 = ((1 : Int32)) then (some ((1 : Int32))) else
  (some ((0 : Int32)))) fun (y6 : Int32) =>
  bnd (if y6 = ((0 : Int32)) then (some ([], M)) else
  (chk (¬ (((8 : Int32)) < 0 ∨ (xt G []).2.2 b4 ≤ ((8 : Int32)).toNatClampNeg)) <|
  ltt (M.1 b4 ((8 : Int32)).toNatClampNeg) fun x74 =>
  chk (okd (xt G []) ((M.2 b3 0)) = true) <|
  bnd (FX0_flag (xt G []) M a x74) fun y75 =>
  app y75.1 <|
  ltt ([] ++ y75.1) fun L78 =>
  some ([], y75.2))) fun (y7 : NN × DD) =>
  app y7.1 <|
  ltt ([] ++ y7.1) fun L9 =>
  chk (¬ (((9 : Int32)) < 0 ∨ (xt G L9).2.2 b4 ≤ ((9 : Int32)).toNatClampNeg)) <|
  ltt (y7.2.1 b4 ((9 : Int32)).toNatClampNeg) fun x11 =>
  dr (xt G L9) 13 ((y7.2.2 a 1)) fun b12 =>
  chk (¬ (((7 : Int32)) < 0 ∨ (xt G L9).2.2 b12 ≤ ((7 : Int32)).toNatClampNeg)) <|
  ltt (y7.2.1 b12 ((7 : Int32)).toNatClampNeg) fun x13 =>
  bnd (if x11 = x13 then (some ((0 : Int32))) else
  (some ((1 : Int32)))) fun (y14 : Int32) =>
  bnd (if y14 = ((0 : Int32)) then (some ((0 : Int32))) else
  (some ((1 : Int32)))) fun (y15 : Int32) =>
  chk (okd (xt G L9) ((M.2 b3 0)) = true) <|
  bnd (FX0_flag (xt G L9) y7.2 a y15) fun y16 =>
  app y16.1 <|
  ltt (L9 ++ y16.1) fun L19 =>
  bnd (if y14 = ((0 : Int32)) then (some ([], y16.2)) else
  (chk (¬ (((9 : Int32)) < 0 ∨ (xt G L19).2.2 b4 ≤ ((9 : Int32)).toNatClampNeg)) <|
  ltt (y16.2.1 b4 ((9 : Int32)).toNatClampNeg) fun x62 =>
  ltt ((x62 - ((1 : Int32)))) fun x63 =>
  dr (xt G L19) 10 ((y16.2.2 a 2)) fun b64 =>
  bnd (FX10_ue (xt G L19) y16.2 b64 ((0 : Int32)) x63) fun y65 =>
  app y65.1 <|
  ltt (L19 ++ y65.1) fun L67 =>
  some ([], y65.2))) fun (y22 : NN × DD) =>
  app y22.1 <|
  ltt (L19 ++ y22.1) fun L24 =>
  bnd (if y14 = ((0 : Int32)) then (some ([], y22.2)) else
  (bnd (if y6 = ((0 : Int32)) then (some ([], y22.2)) else
  (dr (xt G L24) 10 ((y22.2.2 a 2)) fun b54 =>
  bnd (FX10_ue (xt G L24) y22.2 b54 ((0 : Int32)) ((0 : Int32))) fun y55 =>
  app y55.1 <|
  ltt (L24 ++ y55.1) fun L57 =>
  some ([], y55.2))) fun (y48 : NN × DD) =>
  app y48.1 <|
  ltt (L24 ++ y48.1) fun L50 =>
  some ([], y48.2))) fun (y26 : NN × DD) =>
  app y26.1 <|
  ltt (L24 ++ y26.1) fun L28 =>
  bnd (FX0_flag (xt G L28) y26.2 a ((0 : Int32))) fun y30 =>
  app y30.1 <|
  ltt (L28 ++ y30.1) fun L32 =>
  bnd (if y6 = ((0 : Int32)) then (some ([], y30.2)) else
  (bnd (FX0_flag (xt G L32) y30.2 a ((0 : Int32))) fun y41 =>
  app y41.1 <|
  ltt (L32 ++ y41.1) fun L43 =>
  some ([], y41.2))) fun (y35 : NN × DD) =>
  app y35.1 <|
  ltt (L32 ++ y35.1) fun L37 =>
  some ([], y35.2)
set_option maxHeartbeats 4000000 in
set_option maxRecDepth 100000 in
theorem kX0_writeLists (l : Launch) (D : va_G) (ct : CT) (ad : Nat → Nat) (Z : Nat → Nat) (G : GG) (M : DD) (sz : Nat) (a : Nat)  (y : NN × DD) (hc : a < G.1) (hk : G.2.1 a = 0) (hF : FX0_writeLists G M a  = some y) : Met l yX0_writeLists wuX0_writeLists ({ frames := 6, cells := y.1.length, slots := wt y.1, locals := 197 }) (va_Pc [.ref (ad a)] (kB D ct ad Z G M sz)) (va_Qv (fun (u : Nat → Nat) => agr G.1 ad u) (fun u t => kE D ct u (xt G y.1) (wA ad G sz) y.2 t) (wA ad G sz)) y.1.length (wt y.1) (wA ad G sz) := by
  refine Met.ofW (cc := cX0_writeLists) (maxL := 4) (ret := none) (by decide) rfl ?_
  intro p e s m args below meth c s₁ B hml hv
  obtain ⟨rfl, hsz, hP, hK, hD0, hZ, hN⟩ := hv
  have hx := B.exec
  have hb := B.bytes
  have hr := B.returns
  have hts := atoms_spec (ws := wuX0_writeLists) B.pre
  have hown : s.vm.findClass RX0 = some m.cls := findClass_of_methodNamed B.named
  have hlocks := B.notSynchronized
  subst hsz
  have hD := wD_self (sz := s.heap.size) hD0
  have hA9 : ∀ q, s.heap.size ≤ q → wA ad G s.heap.size q := fun q h => Or.inr h
  generalize hAe : wA ad G s.heap.size = A at hD hA9 hZ ⊢
  have hS : va_S A s.heap s.heap [] := va_S.rf
  have hl := lv_entry ([.ref (ad a)]) (n := 4) (Nat.le_of_ble_eq_true rfl)
  rw [lg_entry_eq]
  generalize (lg_sl ([.ref (ad a)]) ++ List.replicate (4 - (lg_sl ([.ref (ad a)])).length) Slot.unset).toArray = ls at hl ⊢
  have hl : lv_has ls 4 [(0, .ref (ad a))] := hl
  unfold FX0_writeLists at hF
  rw [← wld_0 ct ad G M] at hP hD
  have hk := xt_k0 hc hk
  have hc := xt_l0 hc
  have hag := agr_rf G.1 ad
  obtain ⟨w0, hw0⟩ : ∃ z, z = y := ⟨_, rfl⟩
  rw [← hw0] at hF
  have hT : y.1 = [] ++ w0.1 := by rw [hw0]; rfl
  have h2 : y.2 = w0.2 := by rw [hw0]
  have hbl : y.1.length ≤ y.1.length ∧ wt y.1 ≤ wt y.1 := ⟨Nat.le_refl _, Nat.le_refl _⟩
  refine lv_aload_n hx hb dX0_writeLists_0 rfl (lv_at hl 0 rfl) ?_
  refine va_get (D := D) (ci := 0) (v := va_re ad (M.2 a 3)) (C := RX0) (T := TX0) (N := 21) hx hb hts (mus hf_X0) hown hK hP a (wld_o ct ad (xt G []) M hc hk (by decide)) rfl 3 (by decide) (hts (.fieldLink RX0 36 "VideoSuite$Coder" "work" "LVideoSuite$Work;") (mu mw_817)) (fun _ h9 => h9) rfl dX0_writeLists_1 ?_
  obtain ⟨b2, ho2, hc2, hk2, hF⟩ := dr_some hF
  refine W_st (st' := [.ref (ad b2)]) (by rw [va_some ho2]) ?_
  refine va_get (D := D) (ci := 9) (v := va_re ad (M.2 b2 1)) (C := RX9) (T := TX9) (N := 20) hx hb hts (mus hf_X9) hown hK hP b2 (wld_o ct ad (xt G []) M hc2 hk2 (by decide)) rfl 1 (by decide) (hts (.fieldLink RX0 81 "VideoSuite$Work" "head" "LVideoSuite$Header;") (mu mw_425)) (fun _ h9 => h9) rfl dX0_writeLists_4 ?_
  obtain ⟨b3, ho3, hc3, hk3, hF⟩ := dr_some hF
  refine W_st (st' := [.ref (ad b3)]) (by rw [va_some ho3]) ?_
  refine va_get (D := D) (ci := 3) (v := va_re ad (M.2 b3 0)) (C := RX3) (T := TX3) (N := 4) hx hb hts (mus hf_X3) hown hK hP b3 (wld_o ct ad (xt G []) M hc3 hk3 (by decide)) rfl 0 (by decide) (hts (.fieldLink RX0 252 "VideoSuite$Header" "v" "[I") (mu mw_620)) (fun _ h9 => h9) rfl dX0_writeLists_7 ?_
  refine lv_astoreq_n (lv' := [(1, va_re ad (M.2 b3 0)), (0, .ref (ad a))]) hx hb dX0_writeLists_10 rfl hl (by decide) rfl (fun ls hl => ?_)
  refine lv_aloadq_n hx hb dX0_writeLists_11 rfl (lv_at hl 0 rfl) ?_
  refine lv_iconst (v := (1 : Int32)) hx hb dX0_writeLists_12 (by decide) ?_
  obtain ⟨b4, ho4, hc4, hk4, hF⟩ := dr_some hF
  refine W_st (st' := [.int (1 : Int32), .ref (ad b4)]) (by rw [va_some ho4]) ?_
  obtain ⟨hvc, hF⟩ := chk_some hF
  refine va_iald hx hb hK hP b4 1 (wld_i ct ad (xt G []) M hc4 hk4) rfl hvc dX0_writeLists_13 ?_
  obtain ⟨x5, ex5, hF⟩ := ltt_some hF
  refine lv_topi (fun zx5 ezx5 => ?_)
  obtain rfl : x5 = zx5 := ex5.trans ezx5.symm
  refine lv_iconst (v := (1 : Int32)) hx hb dX0_writeLists_14 (by decide) ?_
  obtain ⟨y6, hy6, hF⟩ := bnd_some hF
  have J6 : ∀ (H : Heap) (locs : List Loc) (ls : Array Slot), va_P D classes (wld ct ad (xt G []) M) H → va_D A (wld ct ad (xt G []) M) → va_S A s.heap H locs → lv_has ls 4 [(1, va_re ad (M.2 b3 0)), (0, .ref (ad a))] → W p l e (headSpec wuX0_writeLists ({ frames := 6, cells := y.1.length, slots := wt y.1, locals := 197 })).room s m ([.ref (ad a)] : List Value).toArray below meth c H locs ([] : NN).length (wt []) (MQ below (va_Qv (fun (u : Nat → Nat) => agr G.1 ad u) (fun u t => kE D ct u (xt G y.1) A y.2 t) A) ([.ref (ad a)] : List Value).toArray s y.1.length (wt y.1) A) (F0 m 23 ls [.int y6]) := by
    intro H locs ls hP hD hS hl
    refine lv_istore_n (lv' := [(2, .int y6), (1, va_re ad (M.2 b3 0)), (0, .ref (ad a))]) hx hb dX0_writeLists_23 rfl hl (by decide) (by generalize ((M.2 b3 0)) = o9; cases o9 <;> rfl) (fun ls hl => ?_)
    refine lv_iload_n hx hb dX0_writeLists_24 rfl (lv_at hl 0 rfl) ?_
    obtain ⟨y7, hy7, hF⟩ := bnd_some hF
    obtain ⟨w8, hF, ew8⟩ := app_some hF
    obtain ⟨L9, eL9, hF⟩ := ltt_some hF
    have hT9 : y.1 = ([] ++ y7.1) ++ w8.1 := by rw [hT, ew8]; simp only [List.append_assoc]
    have hbl9 : L9.length ≤ y.1.length ∧ wt L9 ≤ wt y.1 := by rw [eL9]; exact room_d hT9 hbl
    have J7 : ∀ (ad10 : Nat → Nat), agr G.1 ad ad10 → ∀ (H : Heap) (locs : List Loc) (ls : Array Slot), va_P D classes (wld ct ad10 (xt G L9) y7.2) H → va_D A (wld ct ad10 (xt G L9) y7.2) → va_S A s.heap H locs → lv_has ls 4 [(2, .int y6), (1, va_re ad10 (M.2 b3 0)), (0, .ref (ad10 a))] → W p l e (headSpec wuX0_writeLists ({ frames := 6, cells := y.1.length, slots := wt y.1, locals := 197 })).room s m ([.ref (ad a)] : List Value).toArray below meth c H locs (L9 : NN).length (wt L9) (MQ below (va_Qv (fun (u : Nat → Nat) => agr G.1 ad u) (fun u t => kE D ct u (xt G y.1) A y.2 t) A) ([.ref (ad a)] : List Value).toArray s y.1.length (wt y.1) A) (F0 m 36 ls []) := by
      intro ad10 hag H locs ls hP hD hS hl
      have hT : y.1 = L9 ++ w8.1 := by rw [hT9, eL9]
      have h2 : y.2 = w8.2 := by rw [h2, ew8]
      have hk : (xt G L9).2.1 a = 0 := by rw [eL9]; exact xt_k _ hc hk
      have hc : a < (xt G L9).1 := by rw [eL9]; exact xt_l _ hc
      have hk2 : (xt G L9).2.1 b2 = 9 := by rw [eL9]; exact xt_k _ hc2 hk2
      have hc2 : b2 < (xt G L9).1 := by rw [eL9]; exact xt_l _ hc2
      have hk3 : (xt G L9).2.1 b3 = 3 := by rw [eL9]; exact xt_k _ hc3 hk3
      have hc3 : b3 < (xt G L9).1 := by rw [eL9]; exact xt_l _ hc3
      have hk4 : (xt G L9).2.1 b4 = 13 := by rw [eL9]; exact xt_k _ hc4 hk4
      have hc4 : b4 < (xt G L9).1 := by rw [eL9]; exact xt_l _ hc4
      refine lv_aloadq_n hx hb dX0_writeLists_36 rfl (lv_at hl 1 rfl) ?_
      refine lv_bipush (v := (9 : Int32)) hx hb dX0_writeLists_37 (by decide) ?_
      refine W_st (st' := [.int (9 : Int32), .ref (ad10 b4)]) (by rw [va_some ho4]) ?_
      obtain ⟨hvc, hF⟩ := chk_some hF
      refine va_iald hx hb hK hP b4 1 (wld_i ct ad10 (xt G L9) y7.2 hc4 hk4) rfl hvc dX0_writeLists_39 ?_
      obtain ⟨x11, ex11, hF⟩ := ltt_some hF
      refine lv_topi (fun zx11 ezx11 => ?_)
      obtain rfl : x11 = zx11 := ex11.trans ezx11.symm
      refine lv_aload_n hx hb dX0_writeLists_40 rfl (lv_at hl 2 rfl) ?_
      refine va_get (D := D) (ci := 0) (v := va_re ad10 (y7.2.2 a 1)) (C := RX0) (T := TX0) (N := 21) hx hb hts (mus hf_X0) hown hK hP a (wld_o ct ad10 (xt G L9) y7.2 hc hk (by decide)) rfl 1 (by decide) (hts (.fieldLink RX0 23 "VideoSuite$Coder" "now" "[I") (mu mw_813)) (fun _ h9 => h9) rfl dX0_writeLists_41 ?_
      refine lv_bipush (v := (7 : Int32)) hx hb dX0_writeLists_44 (by decide) ?_
      obtain ⟨b12, ho12, hc12, hk12, hF⟩ := dr_some hF
      refine W_st (st' := [.int (7 : Int32), .ref (ad10 b12), .int x11]) (by rw [va_some ho12]) ?_
      obtain ⟨hvc, hF⟩ := chk_some hF
      refine va_iald hx hb hK hP b12 1 (wld_i ct ad10 (xt G L9) y7.2 hc12 hk12) rfl hvc dX0_writeLists_46 ?_
      obtain ⟨x13, ex13, hF⟩ := ltt_some hF
      refine lv_topi (fun zx13 ezx13 => ?_)
      obtain rfl : x13 = zx13 := ex13.trans ezx13.symm
      obtain ⟨y14, hy14, hF⟩ := bnd_some hF
      have J14 : ∀ (H : Heap) (locs : List Loc) (ls : Array Slot), va_P D classes (wld ct ad10 (xt G L9) y7.2) H → va_D A (wld ct ad10 (xt G L9) y7.2) → va_S A s.heap H locs → lv_has ls 4 [(2, .int y6), (1, va_re ad10 (M.2 b3 0)), (0, .ref (ad10 a))] → W p l e (headSpec wuX0_writeLists ({ frames := 6, cells := y.1.length, slots := wt y.1, locals := 197 })).room s m ([.ref (ad a)] : List Value).toArray below meth c H locs (L9 : NN).length (wt L9) (MQ below (va_Qv (fun (u : Nat → Nat) => agr G.1 ad u) (fun u t => kE D ct u (xt G y.1) A y.2 t) A) ([.ref (ad a)] : List Value).toArray s y.1.length (wt y.1) A) (F0 m 55 ls [.int y14]) := by
        intro H locs ls hP hD hS hl
        refine lv_istore_n (lv' := [(3, .int y14), (2, .int y6), (1, va_re ad10 (M.2 b3 0)), (0, .ref (ad10 a))]) hx hb dX0_writeLists_55 rfl hl (by decide) rfl (fun ls hl => ?_)
        refine lv_aload_n hx hb dX0_writeLists_56 rfl (lv_at hl 3 rfl) ?_
        refine lv_iload_n hx hb dX0_writeLists_57 rfl (lv_at hl 0 rfl) ?_
        obtain ⟨y15, hy15, hF⟩ := bnd_some hF
        have J15 : ∀ (H : Heap) (locs : List Loc) (ls : Array Slot), va_P D classes (wld ct ad10 (xt G L9) y7.2) H → va_D A (wld ct ad10 (xt G L9) y7.2) → va_S A s.heap H locs → lv_has ls 4 [(3, .int y14), (2, .int y6), (1, va_re ad10 (M.2 b3 0)), (0, .ref (ad10 a))] → W p l e (headSpec wuX0_writeLists ({ frames := 6, cells := y.1.length, slots := wt y.1, locals := 197 })).room s m ([.ref (ad a)] : List Value).toArray below meth c H locs (L9 : NN).length (wt L9) (MQ below (va_Qv (fun (u : Nat → Nat) => agr G.1 ad u) (fun u t => kE D ct u (xt G y.1) A y.2 t) A) ([.ref (ad a)] : List Value).toArray s y.1.length (wt y.1) A) (F0 m 66 ls [.int y15, .ref (ad10 a)]) := by
          intro H locs ls hP hD hS hl
          obtain ⟨hq17, hF⟩ := chk_some hF
          obtain ⟨y16, hy16, hF⟩ := bnd_some hF
          obtain ⟨w18, hF, ew18⟩ := app_some hF
          obtain ⟨L19, eL19, hF⟩ := ltt_some hF
          have hT19 : y.1 = (L9 ++ y16.1) ++ w18.1 := by rw [hT, ew18]; simp only [List.append_assoc]
          have hf9 := wA_in hD hA9 hS
          refine va_callv (va_runV (As := [.int y15]) (rest := []) ⟨hx, hb, hml, hown, hts⟩ (kX0_flag l D ct ad10 Z (xt G L9) y7.2 _ a y15 y16 hc hk hy16) (cwV 1 hts gX0_writeLists_X0_flag rfl rfl rfl (by decide +kernel) ⟨Nat.le_of_ble_eq_true rfl, Nat.le_of_ble_eq_true rfl⟩) ⟨fun a U g mk q => by obtain ⟨q0, q1, qP, qK, qD, qZ, qN⟩ := q; exact ⟨q0, q1, qP, va_K.moved (u := U) (U := U.calling g mk a) (Vm.Alike.refl U.vm) qK, qD, sF.moved (u := U) (U := U.calling g mk a) (Vm.Alike.refl U.vm) qZ, nF.same rfl qN⟩, va_recv hK hP (ci := 0) (q0 := a) rfl (wld_o ct ad10 (xt G L9) y7.2 hc hk (by decide)), fun U hU hW => ⟨rfl, by rw [hU], by rw [hU]; exact hP, va_K.moved hW.alike hK, hD.weaken (fun _ _ _ _ => trivial), by rw [hU]; exact ((hZ.kept hS.2.1).narrow hf9).moved hW.alike, hN.warm hW⟩⟩ rfl rfl hl.1 rfl (lv_room (Nat.le_of_ble_eq_true rfl)) dX0_writeLists_66 (room_s hT19 hbl)) hS (fun q _ h => hf9 q h) hf9 (fun ad20 t H locs ht hvm hw hB hz1 hk1 hS => ?_)
          have hn21 := hw
          obtain ⟨hP, hK9, hD9⟩ := hB
          rw [ht] at hP
          have hD := hD9.weaken (fun _ q _ h => hf9 q.1 h)
          rw [xt_xt, ← eL19] at hP hD
          refine W_cs (k := L19.length) (n := wt L19) (by rw [eL19]; exact (len_s L9 y16.1).symm) (by rw [eL19]; exact (wt_app L9 y16.1).symm) ?_
          have hT : y.1 = L19 ++ w18.1 := by rw [hT19, eL19]
          have h2 : y.2 = w18.2 := by rw [h2, ew18]
          have hl := lv_sub (l' := [(3, .int y14), (2, .int y6), (1, va_re ad10 (M.2 b3 0)), (0, .ref (ad10 a))]) hl [0, 1, 2, 3] rfl
          have e9 : ([(3, .int y14), (2, .int y6), (1, va_re ad10 (M.2 b3 0)), (0, .ref (ad10 a))] : List (Nat × Value)) = [(3, .int y14), (2, .int y6), (1, va_re ad20 (M.2 b3 0)), (0, .ref (ad20 a))] := (by first | rfl | simp only [agr_re hn21 hq17, hn21 a hc])
          rw [e9] at hl
          clear e9
          have hk : (xt G L19).2.1 a = 0 := by rw [eL19]; exact xt_k _ hc hk
          have hc : a < (xt G L19).1 := by rw [eL19]; exact xt_l _ hc
          have hk2 : (xt G L19).2.1 b2 = 9 := by rw [eL19]; exact xt_k _ hc2 hk2
          have hc2 : b2 < (xt G L19).1 := by rw [eL19]; exact xt_l _ hc2
          have hk3 : (xt G L19).2.1 b3 = 3 := by rw [eL19]; exact xt_k _ hc3 hk3
          have hc3 : b3 < (xt G L19).1 := by rw [eL19]; exact xt_l _ hc3
          have hk4 : (xt G L19).2.1 b4 = 13 := by rw [eL19]; exact xt_k _ hc4 hk4
          have hc4 : b4 < (xt G L19).1 := by rw [eL19]; exact xt_l _ hc4
          have hk12 : (xt G L19).2.1 b12 = 13 := by rw [eL19]; exact xt_k _ hc12 hk12
          have hc12 : b12 < (xt G L19).1 := by rw [eL19]; exact xt_l _ hc12
          have hag := agr_t (xt_ge _ _) hag hn21
          refine lv_iload_n hx hb dX0_writeLists_69 rfl (lv_at hl 0 rfl) ?_
          obtain ⟨y22, hy22, hF⟩ := bnd_some hF
          obtain ⟨w23, hF, ew23⟩ := app_some hF
          obtain ⟨L24, eL24, hF⟩ := ltt_some hF
          have hT24 : y.1 = (L19 ++ y22.1) ++ w23.1 := by rw [hT, ew23]; simp only [List.append_assoc]
          have hbl24 : L24.length ≤ y.1.length ∧ wt L24 ≤ wt y.1 := by rw [eL24]; exact room_d hT24 hbl
          have J22 : ∀ (ad25 : Nat → Nat), agr G.1 ad ad25 → ∀ (H : Heap) (locs : List Loc) (ls : Array Slot), va_P D classes (wld ct ad25 (xt G L24) y22.2) H → va_D A (wld ct ad25 (xt G L24) y22.2) → va_S A s.heap H locs → lv_has ls 4 [(3, .int y14), (2, .int y6), (0, .ref (ad25 a))] → W p l e (headSpec wuX0_writeLists ({ frames := 6, cells := y.1.length, slots := wt y.1, locals := 197 })).room s m ([.ref (ad a)] : List Value).toArray below meth c H locs (L24 : NN).length (wt L24) (MQ below (va_Qv (fun (u : Nat → Nat) => agr G.1 ad u) (fun u t => kE D ct u (xt G y.1) A y.2 t) A) ([.ref (ad a)] : List Value).toArray s y.1.length (wt y.1) A) (F0 m 87 ls []) := by
            intro ad25 hag H locs ls hP hD hS hl
            have hT : y.1 = L24 ++ w23.1 := by rw [hT24, eL24]
            have h2 : y.2 = w23.2 := by rw [h2, ew23]
            have hk : (xt G L24).2.1 a = 0 := by rw [eL24]; exact xt_k _ hc hk
            have hc : a < (xt G L24).1 := by rw [eL24]; exact xt_l _ hc
            have hk2 : (xt G L24).2.1 b2 = 9 := by rw [eL24]; exact xt_k _ hc2 hk2
            have hc2 : b2 < (xt G L24).1 := by rw [eL24]; exact xt_l _ hc2
            have hk3 : (xt G L24).2.1 b3 = 3 := by rw [eL24]; exact xt_k _ hc3 hk3
            have hc3 : b3 < (xt G L24).1 := by rw [eL24]; exact xt_l _ hc3
            have hk4 : (xt G L24).2.1 b4 = 13 := by rw [eL24]; exact xt_k _ hc4 hk4
            have hc4 : b4 < (xt G L24).1 := by rw [eL24]; exact xt_l _ hc4
            have hk12 : (xt G L24).2.1 b12 = 13 := by rw [eL24]; exact xt_k _ hc12 hk12
            have hc12 : b12 < (xt G L24).1 := by rw [eL24]; exact xt_l _ hc12
            refine lv_iload_n hx hb dX0_writeLists_87 rfl (lv_at hl 0 rfl) ?_
            obtain ⟨y26, hy26, hF⟩ := bnd_some hF
            obtain ⟨w27, hF, ew27⟩ := app_some hF
            obtain ⟨L28, eL28, hF⟩ := ltt_some hF
            have hT28 : y.1 = (L24 ++ y26.1) ++ w27.1 := by rw [hT, ew27]; simp only [List.append_assoc]
            have hbl28 : L28.length ≤ y.1.length ∧ wt L28 ≤ wt y.1 := by rw [eL28]; exact room_d hT28 hbl
            have J26 : ∀ (ad29 : Nat → Nat), agr G.1 ad ad29 → ∀ (H : Heap) (locs : List Loc) (ls : Array Slot), va_P D classes (wld ct ad29 (xt G L28) y26.2) H → va_D A (wld ct ad29 (xt G L28) y26.2) → va_S A s.heap H locs → lv_has ls 4 [(2, .int y6), (0, .ref (ad29 a))] → W p l e (headSpec wuX0_writeLists ({ frames := 6, cells := y.1.length, slots := wt y.1, locals := 197 })).room s m ([.ref (ad a)] : List Value).toArray below meth c H locs (L28 : NN).length (wt L28) (MQ below (va_Qv (fun (u : Nat → Nat) => agr G.1 ad u) (fun u t => kE D ct u (xt G y.1) A y.2 t) A) ([.ref (ad a)] : List Value).toArray s y.1.length (wt y.1) A) (F0 m 104 ls []) := by
              intro ad29 hag H locs ls hP hD hS hl
              have hT : y.1 = L28 ++ w27.1 := by rw [hT28, eL28]
              have h2 : y.2 = w27.2 := by rw [h2, ew27]
              have hk : (xt G L28).2.1 a = 0 := by rw [eL28]; exact xt_k _ hc hk
              have hc : a < (xt G L28).1 := by rw [eL28]; exact xt_l _ hc
              have hk2 : (xt G L28).2.1 b2 = 9 := by rw [eL28]; exact xt_k _ hc2 hk2
              have hc2 : b2 < (xt G L28).1 := by rw [eL28]; exact xt_l _ hc2
              have hk3 : (xt G L28).2.1 b3 = 3 := by rw [eL28]; exact xt_k _ hc3 hk3
              have hc3 : b3 < (xt G L28).1 := by rw [eL28]; exact xt_l _ hc3
              have hk4 : (xt G L28).2.1 b4 = 13 := by rw [eL28]; exact xt_k _ hc4 hk4
              have hc4 : b4 < (xt G L28).1 := by rw [eL28]; exact xt_l _ hc4
              have hk12 : (xt G L28).2.1 b12 = 13 := by rw [eL28]; exact xt_k _ hc12 hk12
              have hc12 : b12 < (xt G L28).1 := by rw [eL28]; exact xt_l _ hc12
              refine lv_aload_n hx hb dX0_writeLists_104 rfl (lv_at hl 1 rfl) ?_
              refine lv_iconst (v := (0 : Int32)) hx hb dX0_writeLists_105 (by decide) ?_
              obtain ⟨y30, hy30, hF⟩ := bnd_some hF
              obtain ⟨w31, hF, ew31⟩ := app_some hF
              obtain ⟨L32, eL32, hF⟩ := ltt_some hF
              have hT32 : y.1 = (L28 ++ y30.1) ++ w31.1 := by rw [hT, ew31]; simp only [List.append_assoc]
              have hf9 := wA_in hD hA9 hS
              refine va_callv (va_runV (As := [.int (0 : Int32)]) (rest := []) ⟨hx, hb, hml, hown, hts⟩ (kX0_flag l D ct ad29 Z (xt G L28) y26.2 _ a ((0 : Int32)) y30 hc hk hy30) (cwV 1 hts gX0_writeLists_X0_flag rfl rfl rfl (by decide +kernel) ⟨Nat.le_of_ble_eq_true rfl, Nat.le_of_ble_eq_true rfl⟩) ⟨fun a U g mk q => by obtain ⟨q0, q1, qP, qK, qD, qZ, qN⟩ := q; exact ⟨q0, q1, qP, va_K.moved (u := U) (U := U.calling g mk a) (Vm.Alike.refl U.vm) qK, qD, sF.moved (u := U) (U := U.calling g mk a) (Vm.Alike.refl U.vm) qZ, nF.same rfl qN⟩, va_recv hK hP (ci := 0) (q0 := a) rfl (wld_o ct ad29 (xt G L28) y26.2 hc hk (by decide)), fun U hU hW => ⟨rfl, by rw [hU], by rw [hU]; exact hP, va_K.moved hW.alike hK, hD.weaken (fun _ _ _ _ => trivial), by rw [hU]; exact ((hZ.kept hS.2.1).narrow hf9).moved hW.alike, hN.warm hW⟩⟩ rfl rfl hl.1 rfl (lv_room (Nat.le_of_ble_eq_true rfl)) dX0_writeLists_106 (room_s hT32 hbl)) hS (fun q _ h => hf9 q h) hf9 (fun ad33 t H locs ht hvm hw hB hz1 hk1 hS => ?_)
              have hn34 := hw
              obtain ⟨hP, hK9, hD9⟩ := hB
              rw [ht] at hP
              have hD := hD9.weaken (fun _ q _ h => hf9 q.1 h)
              rw [xt_xt, ← eL32] at hP hD
              refine W_cs (k := L32.length) (n := wt L32) (by rw [eL32]; exact (len_s L28 y30.1).symm) (by rw [eL32]; exact (wt_app L28 y30.1).symm) ?_
              have hT : y.1 = L32 ++ w31.1 := by rw [hT32, eL32]
              have h2 : y.2 = w31.2 := by rw [h2, ew31]
              have hl := lv_sub (l' := [(2, .int y6), (0, .ref (ad29 a))]) hl [0, 1] rfl
              have e9 : ([(2, .int y6), (0, .ref (ad29 a))] : List (Nat × Value)) = [(2, .int y6), (0, .ref (ad33 a))] := (by first | rfl | simp only [hn34 a hc])
              rw [e9] at hl
              clear e9
              have hk : (xt G L32).2.1 a = 0 := by rw [eL32]; exact xt_k _ hc hk
              have hc : a < (xt G L32).1 := by rw [eL32]; exact xt_l _ hc
              have hk2 : (xt G L32).2.1 b2 = 9 := by rw [eL32]; exact xt_k _ hc2 hk2
              have hc2 : b2 < (xt G L32).1 := by rw [eL32]; exact xt_l _ hc2
              have hk3 : (xt G L32).2.1 b3 = 3 := by rw [eL32]; exact xt_k _ hc3 hk3
              have hc3 : b3 < (xt G L32).1 := by rw [eL32]; exact xt_l _ hc3
              have hk4 : (xt G L32).2.1 b4 = 13 := by rw [eL32]; exact xt_k _ hc4 hk4
              have hc4 : b4 < (xt G L32).1 := by rw [eL32]; exact xt_l _ hc4
              have hk12 : (xt G L32).2.1 b12 = 13 := by rw [eL32]; exact xt_k _ hc12 hk12
              have hc12 : b12 < (xt G L32).1 := by rw [eL32]; exact xt_l _ hc12
              have hag := agr_t (xt_ge _ _) hag hn34
              refine lv_iload_n hx hb dX0_writeLists_109 rfl (lv_at hl 0 rfl) ?_
              obtain ⟨y35, hy35, hF⟩ := bnd_some hF
              obtain ⟨w36, hF, ew36⟩ := app_some hF
              obtain ⟨L37, eL37, hF⟩ := ltt_some hF
              have hT37 : y.1 = (L32 ++ y35.1) ++ w36.1 := by rw [hT, ew36]; simp only [List.append_assoc]
              have hbl37 : L37.length ≤ y.1.length ∧ wt L37 ≤ wt y.1 := by rw [eL37]; exact room_d hT37 hbl
              have J35 : ∀ (ad38 : Nat → Nat), agr G.1 ad ad38 → ∀ (H : Heap) (locs : List Loc) (ls : Array Slot), va_P D classes (wld ct ad38 (xt G L37) y35.2) H → va_D A (wld ct ad38 (xt G L37) y35.2) → va_S A s.heap H locs → lv_has ls 4 [] → W p l e (headSpec wuX0_writeLists ({ frames := 6, cells := y.1.length, slots := wt y.1, locals := 197 })).room s m ([.ref (ad a)] : List Value).toArray below meth c H locs (L37 : NN).length (wt L37) (MQ below (va_Qv (fun (u : Nat → Nat) => agr G.1 ad u) (fun u t => kE D ct u (xt G y.1) A y.2 t) A) ([.ref (ad a)] : List Value).toArray s y.1.length (wt y.1) A) (F0 m 118 ls []) := by
                intro ad38 hag H locs ls hP hD hS hl
                have hT : y.1 = L37 ++ w36.1 := by rw [hT37, eL37]
                have h2 : y.2 = w36.2 := by rw [h2, ew36]
                have hk : (xt G L37).2.1 a = 0 := by rw [eL37]; exact xt_k _ hc hk
                have hc : a < (xt G L37).1 := by rw [eL37]; exact xt_l _ hc
                have hk2 : (xt G L37).2.1 b2 = 9 := by rw [eL37]; exact xt_k _ hc2 hk2
                have hc2 : b2 < (xt G L37).1 := by rw [eL37]; exact xt_l _ hc2
                have hk3 : (xt G L37).2.1 b3 = 3 := by rw [eL37]; exact xt_k _ hc3 hk3
                have hc3 : b3 < (xt G L37).1 := by rw [eL37]; exact xt_l _ hc3
                have hk4 : (xt G L37).2.1 b4 = 13 := by rw [eL37]; exact xt_k _ hc4 hk4
                have hc4 : b4 < (xt G L37).1 := by rw [eL37]; exact xt_l _ hc4
                have hk12 : (xt G L37).2.1 b12 = 13 := by rw [eL37]; exact xt_k _ hc12 hk12
                have hc12 : b12 < (xt G L37).1 := by rw [eL37]; exact xt_l _ hc12
                obtain rfl := Option.some.inj hF
                have e1 : y.1 = L37 := by rw [hT]; exact List.append_nil _
                have e2 : y.2 = y35.2 := h2
                refine W.widen (k := y.1.length) (n := wt y.1) (Nat.le_of_eq (by rw [e1])) (Nat.le_of_eq (by rw [e1])) ?_
                exact W.vret hx hb hr (fun t ht hW => ⟨⟨ad38, rfl, hag, (by unfold kE; rw [e1, e2]; exact ⟨by rw [ht]; exact hP, va_K.moved hW.alike hK, hD⟩)⟩, hS.F ht⟩) hS.2.2 dX0_writeLists_118
              clear hF
              obtain ⟨w39, hw39⟩ : ∃ z, z = y35 := ⟨_, rfl⟩
              have hF := hy35
              rw [← hw39] at hF
              clear hy35
              have hT : L37 = L32 ++ w39.1 := by rw [eL37, hw39]
              have h2 : y35.2 = w39.2 := by rw [hw39]
              have hbl := hbl37
              refine lv_if_eq (tgt := 118) hx hb dX0_writeLists_110 (by decide) (fun c40 => ?_) (fun c40 => ?_)
              · rw [if_pos c40] at hF
                obtain rfl := Option.some.inj hF
                have e1 : L37 = L32 := by rw [hT]; exact List.append_nil _
                have e2 : y35.2 = y30.2 := h2
                rw [e1] at J35
                try rw [e2] at J35
                exact J35 _ hag _ _ _ hP hD hS (lv_sub hl [] rfl)
              · rw [if_neg c40] at hF
                refine lv_aload_n hx hb dX0_writeLists_113 rfl (lv_at hl 1 rfl) ?_
                refine lv_iconst (v := (0 : Int32)) hx hb dX0_writeLists_114 (by decide) ?_
                obtain ⟨y41, hy41, hF⟩ := bnd_some hF
                obtain ⟨w42, hF, ew42⟩ := app_some hF
                obtain ⟨L43, eL43, hF⟩ := ltt_some hF
                have hT43 : L37 = (L32 ++ y41.1) ++ w42.1 := by rw [hT, ew42]; simp only [List.append_assoc]
                have hf9 := wA_in hD hA9 hS
                refine va_callv (va_runV (As := [.int (0 : Int32)]) (rest := []) ⟨hx, hb, hml, hown, hts⟩ (kX0_flag l D ct ad33 Z (xt G L32) y30.2 _ a ((0 : Int32)) y41 hc hk hy41) (cwV 1 hts gX0_writeLists_X0_flag rfl rfl rfl (by decide +kernel) ⟨Nat.le_of_ble_eq_true rfl, Nat.le_of_ble_eq_true rfl⟩) ⟨fun a U g mk q => by obtain ⟨q0, q1, qP, qK, qD, qZ, qN⟩ := q; exact ⟨q0, q1, qP, va_K.moved (u := U) (U := U.calling g mk a) (Vm.Alike.refl U.vm) qK, qD, sF.moved (u := U) (U := U.calling g mk a) (Vm.Alike.refl U.vm) qZ, nF.same rfl qN⟩, va_recv hK hP (ci := 0) (q0 := a) rfl (wld_o ct ad33 (xt G L32) y30.2 hc hk (by decide)), fun U hU hW => ⟨rfl, by rw [hU], by rw [hU]; exact hP, va_K.moved hW.alike hK, hD.weaken (fun _ _ _ _ => trivial), by rw [hU]; exact ((hZ.kept hS.2.1).narrow hf9).moved hW.alike, hN.warm hW⟩⟩ rfl rfl hl.1 rfl (lv_room (Nat.le_of_ble_eq_true rfl)) dX0_writeLists_115 (room_s hT43 hbl)) hS (fun q _ h => hf9 q h) hf9 (fun ad44 t H locs ht hvm hw hB hz1 hk1 hS => ?_)
                have hn45 := hw
                obtain ⟨hP, hK9, hD9⟩ := hB
                rw [ht] at hP
                have hD := hD9.weaken (fun _ q _ h => hf9 q.1 h)
                rw [xt_xt, ← eL43] at hP hD
                refine W_cs (k := L43.length) (n := wt L43) (by rw [eL43]; exact (len_s L32 y41.1).symm) (by rw [eL43]; exact (wt_app L32 y41.1).symm) ?_
                have hT : L37 = L43 ++ w42.1 := by rw [hT43, eL43]
                have h2 : y35.2 = w42.2 := by rw [h2, ew42]
                have hl := lv_sub (l' := []) hl [] rfl
                have hk : (xt G L43).2.1 a = 0 := by rw [eL43]; exact xt_k _ hc hk
                have hc : a < (xt G L43).1 := by rw [eL43]; exact xt_l _ hc
                have hk2 : (xt G L43).2.1 b2 = 9 := by rw [eL43]; exact xt_k _ hc2 hk2
                have hc2 : b2 < (xt G L43).1 := by rw [eL43]; exact xt_l _ hc2
                have hk3 : (xt G L43).2.1 b3 = 3 := by rw [eL43]; exact xt_k _ hc3 hk3
                have hc3 : b3 < (xt G L43).1 := by rw [eL43]; exact xt_l _ hc3
                have hk4 : (xt G L43).2.1 b4 = 13 := by rw [eL43]; exact xt_k _ hc4 hk4
                have hc4 : b4 < (xt G L43).1 := by rw [eL43]; exact xt_l _ hc4
                have hk12 : (xt G L43).2.1 b12 = 13 := by rw [eL43]; exact xt_k _ hc12 hk12
                have hc12 : b12 < (xt G L43).1 := by rw [eL43]; exact xt_l _ hc12
                have hag := agr_t (xt_ge _ _) hag hn45
                obtain rfl := Option.some.inj hF
                have e1 : L37 = L43 := by rw [hT]; exact List.append_nil _
                have e2 : y35.2 = y41.2 := h2
                rw [e1] at J35
                try rw [e2] at J35
                exact J35 _ hag _ _ _ hP hD hS (lv_sub hl [] rfl)
            clear hF
            obtain ⟨w46, hw46⟩ : ∃ z, z = y26 := ⟨_, rfl⟩
            have hF := hy26
            rw [← hw46] at hF
            clear hy26
            have hT : L28 = L24 ++ w46.1 := by rw [eL28, hw46]
            have h2 : y26.2 = w46.2 := by rw [hw46]
            have hbl := hbl28
            refine lv_if_eq (tgt := 104) hx hb dX0_writeLists_88 (by decide) (fun c47 => ?_) (fun c47 => ?_)
            · rw [if_pos c47] at hF
              obtain rfl := Option.some.inj hF
              have e1 : L28 = L24 := by rw [hT]; exact List.append_nil _
              have e2 : y26.2 = y22.2 := h2
              rw [e1] at J26
              try rw [e2] at J26
              exact J26 _ hag _ _ _ hP hD hS (lv_sub hl [1, 2] rfl)
            · rw [if_neg c47] at hF
              refine lv_iload_n hx hb dX0_writeLists_91 rfl (lv_at hl 1 rfl) ?_
              obtain ⟨y48, hy48, hF⟩ := bnd_some hF
              obtain ⟨w49, hF, ew49⟩ := app_some hF
              obtain ⟨L50, eL50, hF⟩ := ltt_some hF
              have hT50 : L28 = (L24 ++ y48.1) ++ w49.1 := by rw [hT, ew49]; simp only [List.append_assoc]
              have hbl50 : L50.length ≤ y.1.length ∧ wt L50 ≤ wt y.1 := by rw [eL50]; exact room_d hT50 hbl
              have J48 : ∀ (ad51 : Nat → Nat), agr G.1 ad ad51 → ∀ (H : Heap) (locs : List Loc) (ls : Array Slot), va_P D classes (wld ct ad51 (xt G L50) y48.2) H → va_D A (wld ct ad51 (xt G L50) y48.2) → va_S A s.heap H locs → lv_has ls 4 [(2, .int y6), (0, .ref (ad51 a))] → W p l e (headSpec wuX0_writeLists ({ frames := 6, cells := y.1.length, slots := wt y.1, locals := 197 })).room s m ([.ref (ad a)] : List Value).toArray below meth c H locs (L50 : NN).length (wt L50) (MQ below (va_Qv (fun (u : Nat → Nat) => agr G.1 ad u) (fun u t => kE D ct u (xt G y.1) A y.2 t) A) ([.ref (ad a)] : List Value).toArray s y.1.length (wt y.1) A) (F0 m 104 ls []) := by
                intro ad51 hag H locs ls hP hD hS hl
                have hT : L28 = L50 ++ w49.1 := by rw [hT50, eL50]
                have h2 : y26.2 = w49.2 := by rw [h2, ew49]
                have hk : (xt G L50).2.1 a = 0 := by rw [eL50]; exact xt_k _ hc hk
                have hc : a < (xt G L50).1 := by rw [eL50]; exact xt_l _ hc
                have hk2 : (xt G L50).2.1 b2 = 9 := by rw [eL50]; exact xt_k _ hc2 hk2
                have hc2 : b2 < (xt G L50).1 := by rw [eL50]; exact xt_l _ hc2
                have hk3 : (xt G L50).2.1 b3 = 3 := by rw [eL50]; exact xt_k _ hc3 hk3
                have hc3 : b3 < (xt G L50).1 := by rw [eL50]; exact xt_l _ hc3
                have hk4 : (xt G L50).2.1 b4 = 13 := by rw [eL50]; exact xt_k _ hc4 hk4
                have hc4 : b4 < (xt G L50).1 := by rw [eL50]; exact xt_l _ hc4
                have hk12 : (xt G L50).2.1 b12 = 13 := by rw [eL50]; exact xt_k _ hc12 hk12
                have hc12 : b12 < (xt G L50).1 := by rw [eL50]; exact xt_l _ hc12
                obtain rfl := Option.some.inj hF
                have e1 : L28 = L50 := by rw [hT]; exact List.append_nil _
                have e2 : y26.2 = y48.2 := h2
                rw [e1] at J26
                try rw [e2] at J26
                exact J26 _ hag _ _ _ hP hD hS (lv_sub hl [0, 1] rfl)
              clear hF
              obtain ⟨w52, hw52⟩ : ∃ z, z = y48 := ⟨_, rfl⟩
              have hF := hy48
              rw [← hw52] at hF
              clear hy48
              have hT : L50 = L24 ++ w52.1 := by rw [eL50, hw52]
              have h2 : y48.2 = w52.2 := by rw [hw52]
              have hbl := hbl50
              refine lv_if_eq (tgt := 104) hx hb dX0_writeLists_92 (by decide) (fun c53 => ?_) (fun c53 => ?_)
              · rw [if_pos c53] at hF
                obtain rfl := Option.some.inj hF
                have e1 : L50 = L24 := by rw [hT]; exact List.append_nil _
                have e2 : y48.2 = y22.2 := h2
                rw [e1] at J48
                try rw [e2] at J48
                exact J48 _ hag _ _ _ hP hD hS (lv_sub hl [1, 2] rfl)
              · rw [if_neg c53] at hF
                refine lv_aload_n hx hb dX0_writeLists_95 rfl (lv_at hl 2 rfl) ?_
                refine va_get (D := D) (ci := 0) (v := va_re ad25 (y22.2.2 a 2)) (C := RX0) (T := TX0) (N := 21) hx hb hts (mus hf_X0) hown hK hP a (wld_o ct ad25 (xt G L24) y22.2 hc hk (by decide)) rfl 2 (by decide) (hts (.fieldLink RX0 29 "VideoSuite$Coder" "writer" "LVideoSuite$Writer;") (mu mw_815)) (fun _ h9 => h9) rfl dX0_writeLists_96 ?_
                refine lv_iconst (v := (0 : Int32)) hx hb dX0_writeLists_99 (by decide) ?_
                refine lv_iconst (v := (0 : Int32)) hx hb dX0_writeLists_100 (by decide) ?_
                obtain ⟨b54, ho54, hc54, hk54, hF⟩ := dr_some hF
                refine W_st (st' := [.int (0 : Int32), .int (0 : Int32), .ref (ad25 b54)]) (by rw [va_some ho54]) ?_
                obtain ⟨y55, hy55, hF⟩ := bnd_some hF
                obtain ⟨w56, hF, ew56⟩ := app_some hF
                obtain ⟨L57, eL57, hF⟩ := ltt_some hF
                have hT57 : L50 = (L24 ++ y55.1) ++ w56.1 := by rw [hT, ew56]; simp only [List.append_assoc]
                have hf9 := wA_in hD hA9 hS
                refine va_callv (va_runV (As := [.int (0 : Int32), .int (0 : Int32)]) (rest := []) ⟨hx, hb, hml, hown, hts⟩ (kX10_ue l D ct ad25 Z (xt G L24) y22.2 _ b54 ((0 : Int32)) ((0 : Int32)) y55 hc54 hk54 hy55) (cwV 2 hts gX0_writeLists_X10_ue rfl rfl rfl (by decide +kernel) ⟨Nat.le_of_ble_eq_true rfl, Nat.le_of_ble_eq_true rfl⟩) ⟨fun a U g mk q => by obtain ⟨q0, q1, qP, qK, qD, qZ, qN⟩ := q; exact ⟨q0, q1, qP, va_K.moved (u := U) (U := U.calling g mk a) (Vm.Alike.refl U.vm) qK, qD, sF.moved (u := U) (U := U.calling g mk a) (Vm.Alike.refl U.vm) qZ, nF.same rfl qN⟩, va_recv hK hP (ci := 10) (q0 := b54) rfl (wld_o ct ad25 (xt G L24) y22.2 hc54 hk54 (by decide)), fun U hU hW => ⟨rfl, by rw [hU], by rw [hU]; exact hP, va_K.moved hW.alike hK, hD.weaken (fun _ _ _ _ => trivial), by rw [hU]; exact ((hZ.kept hS.2.1).narrow hf9).moved hW.alike, hN.warm hW⟩⟩ rfl rfl hl.1 rfl (lv_room (Nat.le_of_ble_eq_true rfl)) dX0_writeLists_101 (room_s hT57 hbl)) hS (fun q _ h => hf9 q h) hf9 (fun ad58 t H locs ht hvm hw hB hz1 hk1 hS => ?_)
                have hn59 := hw
                obtain ⟨hP, hK9, hD9⟩ := hB
                rw [ht] at hP
                have hD := hD9.weaken (fun _ q _ h => hf9 q.1 h)
                rw [xt_xt, ← eL57] at hP hD
                refine W_cs (k := L57.length) (n := wt L57) (by rw [eL57]; exact (len_s L24 y55.1).symm) (by rw [eL57]; exact (wt_app L24 y55.1).symm) ?_
                have hT : L50 = L57 ++ w56.1 := by rw [hT57, eL57]
                have h2 : y48.2 = w56.2 := by rw [h2, ew56]
                have hl := lv_sub (l' := [(2, .int y6), (0, .ref (ad25 a))]) hl [1, 2] rfl
                have e9 : ([(2, .int y6), (0, .ref (ad25 a))] : List (Nat × Value)) = [(2, .int y6), (0, .ref (ad58 a))] := (by first | rfl | simp only [hn59 a hc])
                rw [e9] at hl
                clear e9
                have hk : (xt G L57).2.1 a = 0 := by rw [eL57]; exact xt_k _ hc hk
                have hc : a < (xt G L57).1 := by rw [eL57]; exact xt_l _ hc
                have hk2 : (xt G L57).2.1 b2 = 9 := by rw [eL57]; exact xt_k _ hc2 hk2
                have hc2 : b2 < (xt G L57).1 := by rw [eL57]; exact xt_l _ hc2
                have hk3 : (xt G L57).2.1 b3 = 3 := by rw [eL57]; exact xt_k _ hc3 hk3
                have hc3 : b3 < (xt G L57).1 := by rw [eL57]; exact xt_l _ hc3
                have hk4 : (xt G L57).2.1 b4 = 13 := by rw [eL57]; exact xt_k _ hc4 hk4
                have hc4 : b4 < (xt G L57).1 := by rw [eL57]; exact xt_l _ hc4
                have hk12 : (xt G L57).2.1 b12 = 13 := by rw [eL57]; exact xt_k _ hc12 hk12
                have hc12 : b12 < (xt G L57).1 := by rw [eL57]; exact xt_l _ hc12
                have hk54 : (xt G L57).2.1 b54 = 10 := by rw [eL57]; exact xt_k _ hc54 hk54
                have hc54 : b54 < (xt G L57).1 := by rw [eL57]; exact xt_l _ hc54
                have hag := agr_t (xt_ge _ _) hag hn59
                obtain rfl := Option.some.inj hF
                have e1 : L50 = L57 := by rw [hT]; exact List.append_nil _
                have e2 : y48.2 = y55.2 := h2
                rw [e1] at J48
                try rw [e2] at J48
                exact J48 _ hag _ _ _ hP hD hS (lv_sub hl [0, 1] rfl)
          clear hF
          obtain ⟨w60, hw60⟩ : ∃ z, z = y22 := ⟨_, rfl⟩
          have hF := hy22
          rw [← hw60] at hF
          clear hy22
          have hT : L24 = L19 ++ w60.1 := by rw [eL24, hw60]
          have h2 : y22.2 = w60.2 := by rw [hw60]
          have hbl := hbl24
          refine lv_if_eq (tgt := 87) hx hb dX0_writeLists_70 (by decide) (fun c61 => ?_) (fun c61 => ?_)
          · rw [if_pos c61] at hF
            obtain rfl := Option.some.inj hF
            have e1 : L24 = L19 := by rw [hT]; exact List.append_nil _
            have e2 : y22.2 = y16.2 := h2
            rw [e1] at J22
            try rw [e2] at J22
            exact J22 _ hag _ _ _ hP hD hS (lv_sub hl [0, 1, 3] rfl)
          · rw [if_neg c61] at hF
            refine lv_aload_n hx hb dX0_writeLists_73 rfl (lv_at hl 3 rfl) ?_
            refine va_get (D := D) (ci := 0) (v := va_re ad20 (y16.2.2 a 2)) (C := RX0) (T := TX0) (N := 21) hx hb hts (mus hf_X0) hown hK hP a (wld_o ct ad20 (xt G L19) y16.2 hc hk (by decide)) rfl 2 (by decide) (hts (.fieldLink RX0 29 "VideoSuite$Coder" "writer" "LVideoSuite$Writer;") (mu mw_815)) (fun _ h9 => h9) rfl dX0_writeLists_74 ?_
            refine lv_iconst (v := (0 : Int32)) hx hb dX0_writeLists_77 (by decide) ?_
            refine lv_aloadq_n hx hb dX0_writeLists_78 rfl (lv_at hl 2 rfl) ?_
            refine lv_bipush (v := (9 : Int32)) hx hb dX0_writeLists_79 (by decide) ?_
            refine W_st (st' := [.int (9 : Int32), .ref (ad20 b4), .int (0 : Int32), va_re ad20 (y16.2.2 a 2)]) (by rw [va_some ho4]) ?_
            obtain ⟨hvc, hF⟩ := chk_some hF
            refine va_iald hx hb hK hP b4 1 (wld_i ct ad20 (xt G L19) y16.2 hc4 hk4) rfl hvc dX0_writeLists_81 ?_
            obtain ⟨x62, ex62, hF⟩ := ltt_some hF
            refine lv_topi (fun zx62 ezx62 => ?_)
            obtain rfl : x62 = zx62 := ex62.trans ezx62.symm
            refine lv_iconst (v := (1 : Int32)) hx hb dX0_writeLists_82 (by decide) ?_
            refine lv_isub hx hb dX0_writeLists_83 ?_
            obtain ⟨x63, ex63, hF⟩ := ltt_some hF
            refine lv_topi (fun zx63 ezx63 => ?_)
            obtain rfl : x63 = zx63 := ex63.trans ezx63.symm
            obtain ⟨b64, ho64, hc64, hk64, hF⟩ := dr_some hF
            refine W_st (st' := [.int x63, .int (0 : Int32), .ref (ad20 b64)]) (by rw [va_some ho64]) ?_
            obtain ⟨y65, hy65, hF⟩ := bnd_some hF
            obtain ⟨w66, hF, ew66⟩ := app_some hF
            obtain ⟨L67, eL67, hF⟩ := ltt_some hF
            have hT67 : L24 = (L19 ++ y65.1) ++ w66.1 := by rw [hT, ew66]; simp only [List.append_assoc]
            have hf9 := wA_in hD hA9 hS
            refine va_callv (va_runV (As := [.int (0 : Int32), .int x63]) (rest := []) ⟨hx, hb, hml, hown, hts⟩ (kX10_ue l D ct ad20 Z (xt G L19) y16.2 _ b64 ((0 : Int32)) x63 y65 hc64 hk64 hy65) (cwV 2 hts gX0_writeLists_X10_ue rfl rfl rfl (by decide +kernel) ⟨Nat.le_of_ble_eq_true rfl, Nat.le_of_ble_eq_true rfl⟩) ⟨fun a U g mk q => by obtain ⟨q0, q1, qP, qK, qD, qZ, qN⟩ := q; exact ⟨q0, q1, qP, va_K.moved (u := U) (U := U.calling g mk a) (Vm.Alike.refl U.vm) qK, qD, sF.moved (u := U) (U := U.calling g mk a) (Vm.Alike.refl U.vm) qZ, nF.same rfl qN⟩, va_recv hK hP (ci := 10) (q0 := b64) rfl (wld_o ct ad20 (xt G L19) y16.2 hc64 hk64 (by decide)), fun U hU hW => ⟨rfl, by rw [hU], by rw [hU]; exact hP, va_K.moved hW.alike hK, hD.weaken (fun _ _ _ _ => trivial), by rw [hU]; exact ((hZ.kept hS.2.1).narrow hf9).moved hW.alike, hN.warm hW⟩⟩ rfl rfl hl.1 rfl (lv_room (Nat.le_of_ble_eq_true rfl)) dX0_writeLists_84 (room_s hT67 hbl)) hS (fun q _ h => hf9 q h) hf9 (fun ad68 t H locs ht hvm hw hB hz1 hk1 hS => ?_)
            have hn69 := hw
            obtain ⟨hP, hK9, hD9⟩ := hB
            rw [ht] at hP
            have hD := hD9.weaken (fun _ q _ h => hf9 q.1 h)
            rw [xt_xt, ← eL67] at hP hD
            refine W_cs (k := L67.length) (n := wt L67) (by rw [eL67]; exact (len_s L19 y65.1).symm) (by rw [eL67]; exact (wt_app L19 y65.1).symm) ?_
            have hT : L24 = L67 ++ w66.1 := by rw [hT67, eL67]
            have h2 : y22.2 = w66.2 := by rw [h2, ew66]
            have hl := lv_sub (l' := [(3, .int y14), (2, .int y6), (0, .ref (ad20 a))]) hl [0, 1, 3] rfl
            have e9 : ([(3, .int y14), (2, .int y6), (0, .ref (ad20 a))] : List (Nat × Value)) = [(3, .int y14), (2, .int y6), (0, .ref (ad68 a))] := (by first | rfl | simp only [hn69 a hc])
            rw [e9] at hl
            clear e9
            have hk : (xt G L67).2.1 a = 0 := by rw [eL67]; exact xt_k _ hc hk
            have hc : a < (xt G L67).1 := by rw [eL67]; exact xt_l _ hc
            have hk2 : (xt G L67).2.1 b2 = 9 := by rw [eL67]; exact xt_k _ hc2 hk2
            have hc2 : b2 < (xt G L67).1 := by rw [eL67]; exact xt_l _ hc2
            have hk3 : (xt G L67).2.1 b3 = 3 := by rw [eL67]; exact xt_k _ hc3 hk3
            have hc3 : b3 < (xt G L67).1 := by rw [eL67]; exact xt_l _ hc3
            have hk4 : (xt G L67).2.1 b4 = 13 := by rw [eL67]; exact xt_k _ hc4 hk4
            have hc4 : b4 < (xt G L67).1 := by rw [eL67]; exact xt_l _ hc4
            have hk12 : (xt G L67).2.1 b12 = 13 := by rw [eL67]; exact xt_k _ hc12 hk12
            have hc12 : b12 < (xt G L67).1 := by rw [eL67]; exact xt_l _ hc12
            have hk64 : (xt G L67).2.1 b64 = 10 := by rw [eL67]; exact xt_k _ hc64 hk64
            have hc64 : b64 < (xt G L67).1 := by rw [eL67]; exact xt_l _ hc64
            have hag := agr_t (xt_ge _ _) hag hn69
            obtain rfl := Option.some.inj hF
            have e1 : L24 = L67 := by rw [hT]; exact List.append_nil _
            have e2 : y22.2 = y65.2 := h2
            rw [e1] at J22
            try rw [e2] at J22
            exact J22 _ hag _ _ _ hP hD hS (lv_sub hl [0, 1, 2] rfl)
        clear hF
        have hF := hy15
        clear hy15
        refine lv_if_eq (tgt := 65) hx hb dX0_writeLists_58 (by decide) (fun c70 => ?_) (fun c70 => ?_)
        · rw [if_pos c70] at hF
          refine lv_iconst (v := (0 : Int32)) hx hb dX0_writeLists_65 (by decide) ?_
          obtain rfl := Option.some.inj hF
          exact J15 _ _ _ hP hD hS (lv_sub hl [0, 1, 2, 3] rfl)
        · rw [if_neg c70] at hF
          refine lv_iconst (v := (1 : Int32)) hx hb dX0_writeLists_61 (by decide) ?_
          refine lv_goto (tgt := 66) hx hb dX0_writeLists_62 (by decide) ?_
          obtain rfl := Option.some.inj hF
          exact J15 _ _ _ hP hD hS (lv_sub hl [0, 1, 2, 3] rfl)
      clear hF
      have hF := hy14
      clear hy14
      refine lv_icmp_eq (tgt := 54) hx hb dX0_writeLists_47 (by decide) (fun c71 => ?_) (fun c71 => ?_)
      · rw [if_pos c71] at hF
        refine lv_iconst (v := (0 : Int32)) hx hb dX0_writeLists_54 (by decide) ?_
        obtain rfl := Option.some.inj hF
        exact J14 _ _ _ hP hD hS (lv_sub hl [0, 1, 2] rfl)
      · rw [if_neg c71] at hF
        refine lv_iconst (v := (1 : Int32)) hx hb dX0_writeLists_50 (by decide) ?_
        refine lv_goto (tgt := 55) hx hb dX0_writeLists_51 (by decide) ?_
        obtain rfl := Option.some.inj hF
        exact J14 _ _ _ hP hD hS (lv_sub hl [0, 1, 2] rfl)
    clear hF
    obtain ⟨w72, hw72⟩ : ∃ z, z = y7 := ⟨_, rfl⟩
    have hF := hy7
    rw [← hw72] at hF
    clear hy7
    have hT : L9 = [] ++ w72.1 := by rw [eL9, hw72]
    have h2 : y7.2 = w72.2 := by rw [hw72]
    have hbl := hbl9
    refine lv_if_eq (tgt := 36) hx hb dX0_writeLists_25 (by decide) (fun c73 => ?_) (fun c73 => ?_)
    · rw [if_pos c73] at hF
      obtain rfl := Option.some.inj hF
      have e1 : L9 = [] := by rw [hT]; exact List.append_nil _
      have e2 : y7.2 = M := h2
      rw [e1] at J7
      try rw [e2] at J7
      exact J7 _ hag _ _ _ hP hD hS (lv_sub hl [0, 1, 2] rfl)
    · rw [if_neg c73] at hF
      refine lv_aload_n hx hb dX0_writeLists_28 rfl (lv_at hl 2 rfl) ?_
      refine lv_aloadq_n hx hb dX0_writeLists_29 rfl (lv_at hl 1 rfl) ?_
      refine lv_bipush (v := (8 : Int32)) hx hb dX0_writeLists_30 (by decide) ?_
      refine W_st (st' := [.int (8 : Int32), .ref (ad b4), .ref (ad a)]) (by rw [va_some ho4]) ?_
      obtain ⟨hvc, hF⟩ := chk_some hF
      refine va_iald hx hb hK hP b4 1 (wld_i ct ad (xt G []) M hc4 hk4) rfl hvc dX0_writeLists_32 ?_
      obtain ⟨x74, ex74, hF⟩ := ltt_some hF
      refine lv_topi (fun zx74 ezx74 => ?_)
      obtain rfl : x74 = zx74 := ex74.trans ezx74.symm
      obtain ⟨hq76, hF⟩ := chk_some hF
      obtain ⟨y75, hy75, hF⟩ := bnd_some hF
      obtain ⟨w77, hF, ew77⟩ := app_some hF
      obtain ⟨L78, eL78, hF⟩ := ltt_some hF
      have hT78 : L9 = ([] ++ y75.1) ++ w77.1 := by rw [hT, ew77]; simp only [List.append_assoc]
      have hf9 := wA_in hD hA9 hS
      refine va_callv (va_runV (As := [.int x74]) (rest := []) ⟨hx, hb, hml, hown, hts⟩ (kX0_flag l D ct ad Z (xt G []) M _ a x74 y75 hc hk hy75) (cwV 1 hts gX0_writeLists_X0_flag rfl rfl rfl (by decide +kernel) ⟨Nat.le_of_ble_eq_true rfl, Nat.le_of_ble_eq_true rfl⟩) ⟨fun a U g mk q => by obtain ⟨q0, q1, qP, qK, qD, qZ, qN⟩ := q; exact ⟨q0, q1, qP, va_K.moved (u := U) (U := U.calling g mk a) (Vm.Alike.refl U.vm) qK, qD, sF.moved (u := U) (U := U.calling g mk a) (Vm.Alike.refl U.vm) qZ, nF.same rfl qN⟩, va_recv hK hP (ci := 0) (q0 := a) rfl (wld_o ct ad (xt G []) M hc hk (by decide)), fun U hU hW => ⟨rfl, by rw [hU], by rw [hU]; exact hP, va_K.moved hW.alike hK, hD.weaken (fun _ _ _ _ => trivial), by rw [hU]; exact ((hZ.kept hS.2.1).narrow hf9).moved hW.alike, hN.warm hW⟩⟩ rfl rfl hl.1 rfl (lv_room (Nat.le_of_ble_eq_true rfl)) dX0_writeLists_33 (room_s hT78 hbl)) hS (fun q _ h => hf9 q h) hf9 (fun ad79 t H locs ht hvm hw hB hz1 hk1 hS => ?_)
      have hn80 := hw
      obtain ⟨hP, hK9, hD9⟩ := hB
      rw [ht] at hP
      have hD := hD9.weaken (fun _ q _ h => hf9 q.1 h)
      rw [xt_xt, ← eL78] at hP hD
      refine W_cs (k := L78.length) (n := wt L78) (by rw [eL78]; exact (len_s [] y75.1).symm) (by rw [eL78]; exact (wt_app [] y75.1).symm) ?_
      have hT : L9 = L78 ++ w77.1 := by rw [hT78, eL78]
      have h2 : y7.2 = w77.2 := by rw [h2, ew77]
      have hl := lv_sub (l' := [(2, .int y6), (1, va_re ad (M.2 b3 0)), (0, .ref (ad a))]) hl [0, 1, 2] rfl
      have e9 : ([(2, .int y6), (1, va_re ad (M.2 b3 0)), (0, .ref (ad a))] : List (Nat × Value)) = [(2, .int y6), (1, va_re ad79 (M.2 b3 0)), (0, .ref (ad79 a))] := (by first | rfl | simp only [agr_re hn80 hq76, hn80 a hc])
      rw [e9] at hl
      clear e9
      have hk : (xt G L78).2.1 a = 0 := by rw [eL78]; exact xt_k _ hc hk
      have hc : a < (xt G L78).1 := by rw [eL78]; exact xt_l _ hc
      have hk2 : (xt G L78).2.1 b2 = 9 := by rw [eL78]; exact xt_k _ hc2 hk2
      have hc2 : b2 < (xt G L78).1 := by rw [eL78]; exact xt_l _ hc2
      have hk3 : (xt G L78).2.1 b3 = 3 := by rw [eL78]; exact xt_k _ hc3 hk3
      have hc3 : b3 < (xt G L78).1 := by rw [eL78]; exact xt_l _ hc3
      have hk4 : (xt G L78).2.1 b4 = 13 := by rw [eL78]; exact xt_k _ hc4 hk4
      have hc4 : b4 < (xt G L78).1 := by rw [eL78]; exact xt_l _ hc4
      have hag := agr_t (xt_ge _ _) hag hn80
      obtain rfl := Option.some.inj hF
      have e1 : L9 = L78 := by rw [hT]; exact List.append_nil _
      have e2 : y7.2 = y75.2 := h2
      rw [e1] at J7
      try rw [e2] at J7
      exact J7 _ hag _ _ _ hP hD hS (lv_sub hl [0, 1, 2] rfl)
  clear hF
  have hF := hy6
  clear hy6
  refine lv_icmp_ne (tgt := 22) hx hb dX0_writeLists_15 (by decide) (fun c81 => ?_) (fun c81 => ?_)
  · rw [if_neg c81] at hF
    refine lv_iconst (v := (0 : Int32)) hx hb dX0_writeLists_22 (by decide) ?_
    obtain rfl := Option.some.inj hF
    exact J6 _ _ _ hP hD hS (lv_sub hl [0, 1] rfl)
  · rw [if_pos c81] at hF
    refine lv_iconst (v := (1 : Int32)) hx hb dX0_writeLists_18 (by decide) ?_
    refine lv_goto (tgt := 23) hx hb dX0_writeLists_19 (by decide) ?_
    obtain rfl := Option.some.inj hF
    exact J6 _ _ _ hP hD hS (lv_sub hl [0, 1] rfl)
set_option maxRecDepth 20000 in
theorem gX0_writeModes_X9_guessMode : GoodIn wuX0_writeModes (wsV RX0 501 RX9 yX9_guessMode wuX9_guessMode) := gu_V mw_2579 mw_2185 mw_2186 mw_171 mw_2187
set_option maxRecDepth 20000 in
set_option maxRecDepth 20000 in
theorem gX0_writeModes_X10_code : GoodIn wuX0_writeModes (wsV RX0 150 RX10 yX10_code wuX10_code) := gu_V mw_1140 mw_1141 mw_1142 mw_176 mw_1143
theorem dX0_writeModes_0 : decode cX0_writeModes 0 = .ok (.iconst 0, 1) := by decide +kernel
theorem dX0_writeModes_1 : decode cX0_writeModes 1 = .ok (.istore_n 2, 1) := by decide +kernel
theorem dX0_writeModes_2 : decode cX0_writeModes 2 = .ok (.iload_n 2, 1) := by decide +kernel
theorem dX0_writeModes_3 : decode cX0_writeModes 3 = .ok (.bipush 16, 2) := by decide +kernel
theorem dX0_writeModes_5 : decode cX0_writeModes 5 = .ok (.if_icmp .ge 87, 3) := by decide +kernel
theorem dX0_writeModes_8 : decode cX0_writeModes 8 = .ok (.aload_n 0, 1) := by decide +kernel
theorem dX0_writeModes_9 : decode cX0_writeModes 9 = .ok (.getfield 36, 3) := by decide +kernel
theorem dX0_writeModes_12 : decode cX0_writeModes 12 = .ok (.iload_n 1, 1) := by decide +kernel
theorem dX0_writeModes_13 : decode cX0_writeModes 13 = .ok (.iload_n 2, 1) := by decide +kernel
theorem dX0_writeModes_14 : decode cX0_writeModes 14 = .ok (.invokevirtual 501, 3) := by decide +kernel
theorem dX0_writeModes_17 : decode cX0_writeModes 17 = .ok (.istore_n 3, 1) := by decide +kernel
theorem dX0_writeModes_18 : decode cX0_writeModes 18 = .ok (.aload_n 0, 1) := by decide +kernel
theorem dX0_writeModes_19 : decode cX0_writeModes 19 = .ok (.getfield 36, 3) := by decide +kernel
theorem dX0_writeModes_22 : decode cX0_writeModes 22 = .ok (.getfield 356, 3) := by decide +kernel
theorem dX0_writeModes_25 : decode cX0_writeModes 25 = .ok (.bipush 16, 2) := by decide +kernel
theorem dX0_writeModes_27 : decode cX0_writeModes 27 = .ok (.iload_n 1, 1) := by decide +kernel
theorem dX0_writeModes_28 : decode cX0_writeModes 28 = .ok (.imul, 1) := by decide +kernel
theorem dX0_writeModes_29 : decode cX0_writeModes 29 = .ok (.iload_n 2, 1) := by decide +kernel
theorem dX0_writeModes_30 : decode cX0_writeModes 30 = .ok (.iadd, 1) := by decide +kernel
theorem dX0_writeModes_31 : decode cX0_writeModes 31 = .ok (.iaload, 1) := by decide +kernel
theorem dX0_writeModes_32 : decode cX0_writeModes 32 = .ok (.istore 4, 2) := by decide +kernel
theorem dX0_writeModes_34 : decode cX0_writeModes 34 = .ok (.aload_n 0, 1) := by decide +kernel
theorem dX0_writeModes_35 : decode cX0_writeModes 35 = .ok (.getfield 29, 3) := by decide +kernel
theorem dX0_writeModes_38 : decode cX0_writeModes 38 = .ok (.iconst 2, 1) := by decide +kernel
theorem dX0_writeModes_39 : decode cX0_writeModes 39 = .ok (.iload 4, 2) := by decide +kernel
theorem dX0_writeModes_41 : decode cX0_writeModes 41 = .ok (.iload_n 3, 1) := by decide +kernel
theorem dX0_writeModes_42 : decode cX0_writeModes 42 = .ok (.if_icmp .ne 7, 3) := by decide +kernel
theorem dX0_writeModes_45 : decode cX0_writeModes 45 = .ok (.lconst 1, 1) := by decide +kernel
theorem dX0_writeModes_46 : decode cX0_writeModes 46 = .ok (.goto 4, 3) := by decide +kernel
theorem dX0_writeModes_49 : decode cX0_writeModes 49 = .ok (.lconst 0, 1) := by decide +kernel
theorem dX0_writeModes_50 : decode cX0_writeModes 50 = .ok (.iconst 1, 1) := by decide +kernel
theorem dX0_writeModes_51 : decode cX0_writeModes 51 = .ok (.invokevirtual 150, 3) := by decide +kernel
theorem dX0_writeModes_54 : decode cX0_writeModes 54 = .ok (.iload 4, 2) := by decide +kernel
theorem dX0_writeModes_56 : decode cX0_writeModes 56 = .ok (.iload_n 3, 1) := by decide +kernel
theorem dX0_writeModes_57 : decode cX0_writeModes 57 = .ok (.if_icmp .eq 29, 3) := by decide +kernel
theorem dX0_writeModes_60 : decode cX0_writeModes 60 = .ok (.aload_n 0, 1) := by decide +kernel
theorem dX0_writeModes_61 : decode cX0_writeModes 61 = .ok (.getfield 29, 3) := by decide +kernel
theorem dX0_writeModes_64 : decode cX0_writeModes 64 = .ok (.iconst 3, 1) := by decide +kernel
theorem dX0_writeModes_65 : decode cX0_writeModes 65 = .ok (.iload 4, 2) := by decide +kernel
theorem dX0_writeModes_67 : decode cX0_writeModes 67 = .ok (.iload_n 3, 1) := by decide +kernel
theorem dX0_writeModes_68 : decode cX0_writeModes 68 = .ok (.if_icmp .ge 9, 3) := by decide +kernel
theorem dX0_writeModes_71 : decode cX0_writeModes 71 = .ok (.iload 4, 2) := by decide +kernel
theorem dX0_writeModes_73 : decode cX0_writeModes 73 = .ok (.i2l, 1) := by decide +kernel
theorem dX0_writeModes_74 : decode cX0_writeModes 74 = .ok (.goto 8, 3) := by decide +kernel
theorem dX0_writeModes_77 : decode cX0_writeModes 77 = .ok (.iload 4, 2) := by decide +kernel
theorem dX0_writeModes_79 : decode cX0_writeModes 79 = .ok (.iconst 1, 1) := by decide +kernel
theorem dX0_writeModes_80 : decode cX0_writeModes 80 = .ok (.isub, 1) := by decide +kernel
theorem dX0_writeModes_81 : decode cX0_writeModes 81 = .ok (.i2l, 1) := by decide +kernel
theorem dX0_writeModes_82 : decode cX0_writeModes 82 = .ok (.iconst 3, 1) := by decide +kernel
theorem dX0_writeModes_83 : decode cX0_writeModes 83 = .ok (.invokevirtual 150, 3) := by decide +kernel
theorem dX0_writeModes_86 : decode cX0_writeModes 86 = .ok (.iinc 2 1, 3) := by decide +kernel
theorem dX0_writeModes_89 : decode cX0_writeModes 89 = .ok (.goto (-87), 3) := by decide +kernel
theorem dX0_writeModes_92 : decode cX0_writeModes 92 = .ok (.return_, 1) := by decide +kernel
noncomputable def FX0_writeModes (G : GG) (M : DD) (a : Nat) (p0 : Int32) : Option (NN × DD) :=
  bnd (itrA (fun (s2 : NN × Int32 × DD) => ((if ((16 : Int32)) ≤ s2.2.1 then (some ([], .inr ((s2.2.1, s2.2.2)))) else
  (dr (xt G s2.1) 9 ((s2.2.2.2 a 3)) fun b12 =>
  bnd (FX9_guessMode (xt G s2.1) s2.2.2 b12 p0 s2.2.1) fun y13 =>
  dr (xt G s2.1) 9 ((y13.1.2 a 3)) fun b14 =>
  ltt ((((16 : Int32)) * p0)) fun x15 =>
  ltt ((x15 + s2.2.1)) fun x16 =>
  dr (xt G s2.1) 13 ((y13.1.2 b14 7)) fun b17 =>
  chk (¬ (x16 < 0 ∨ (xt G s2.1).2.2 b17 ≤ x16.toNatClampNeg)) <|
  ltt (y13.1.1 b17 x16.toNatClampNeg) fun x18 =>
  bnd (if x18 = y13.2 then (some ((1 : Int64))) else
  (some ((0 : Int64)))) fun (y19 : Int64) =>
  dr (xt G s2.1) 10 ((y13.1.2 a 2)) fun b20 =>
  bnd (FX10_code (xt G s2.1) y13.1 b20 ((2 : Int32)) y19 ((1 : Int32))) fun y21 =>
  app y21.1 <|
  ltt (s2.1 ++ y21.1) fun L23 =>
  bnd (if x18 = y13.2 then (some ([], y21.2)) else
  (bnd (if y13.2 ≤ x18 then (ltt ((x18 - ((1 : Int32)))) fun x41 =>
  ltt (x41.toInt64) fun x42 =>
  some (x42)) else
  (ltt (x18.toInt64) fun x43 =>
  some (x43))) fun (y33 : Int64) =>
  dr (xt G L23) 10 ((y21.2.2 a 2)) fun b34 =>
  bnd (FX10_code (xt G L23) y21.2 b34 ((3 : Int32)) y33 ((3 : Int32))) fun y35 =>
  app y35.1 <|
  ltt (L23 ++ y35.1) fun L37 =>
  some ([], y35.2))) fun (y26 : NN × DD) =>
  app y26.1 <|
  ltt (L23 ++ y26.1) fun L28 =>
  ltt (s2.2.1 + (1 : Int32)) fun x30 =>
  some ([], .inl (L28, (x30, y26.2))))) : Option (NN × ((NN × Int32 × DD) ⊕ (Int32 × DD))))) 1000000 ([], ((0 : Int32), M))) fun (y1 : NN × Int32 × DD) =>
  app y1.1 <|
  ltt ([] ++ y1.1) fun L4 =>
  some ([], y1.2.2)
set_option maxHeartbeats 4000000 in
set_option maxRecDepth 100000 in
theorem kX0_writeModes (l : Launch) (D : va_G) (ct : CT) (ad : Nat → Nat) (Z : Nat → Nat) (G : GG) (M : DD) (sz : Nat) (a : Nat) (p0 : Int32) (y : NN × DD) (hc : a < G.1) (hk : G.2.1 a = 0) (hF : FX0_writeModes G M a p0 = some y) : Met l yX0_writeModes wuX0_writeModes ({ frames := 5, cells := y.1.length, slots := wt y.1, locals := 175 }) (va_Pc [.ref (ad a), .int p0] (kB D ct ad Z G M sz)) (va_Qv (fun (u : Nat → Nat) => agr G.1 ad u) (fun u t => kE D ct u (xt G y.1) (wA ad G sz) y.2 t) (wA ad G sz)) y.1.length (wt y.1) (wA ad G sz) := by
  refine Met.ofW (cc := cX0_writeModes) (maxL := 5) (ret := none) (by decide) rfl ?_
  intro p e s m args below meth c s₁ B hml hv
  obtain ⟨rfl, hsz, hP, hK, hD0, hZ, hN⟩ := hv
  have hx := B.exec
  have hb := B.bytes
  have hr := B.returns
  have hts := atoms_spec (ws := wuX0_writeModes) B.pre
  have hown : s.vm.findClass RX0 = some m.cls := findClass_of_methodNamed B.named
  have hlocks := B.notSynchronized
  subst hsz
  have hD := wD_self (sz := s.heap.size) hD0
  have hA9 : ∀ q, s.heap.size ≤ q → wA ad G s.heap.size q := fun q h => Or.inr h
  generalize hAe : wA ad G s.heap.size = A at hD hA9 hZ ⊢
  have hS : va_S A s.heap s.heap [] := va_S.rf
  have hl := lv_entry ([.ref (ad a), .int p0]) (n := 5) (Nat.le_of_ble_eq_true rfl)
  rw [lg_entry_eq]
  generalize (lg_sl ([.ref (ad a), .int p0]) ++ List.replicate (5 - (lg_sl ([.ref (ad a), .int p0])).length) Slot.unset).toArray = ls at hl ⊢
  have hl : lv_has ls 5 [(0, .ref (ad a)), (1, .int p0)] := hl
  unfold FX0_writeModes at hF
  rw [← wld_0 ct ad G M] at hP hD
  have hk := xt_k0 hc hk
  have hc := xt_l0 hc
  have hag := agr_rf G.1 ad
  obtain ⟨w0, hw0⟩ : ∃ z, z = y := ⟨_, rfl⟩
  rw [← hw0] at hF
  have hT : y.1 = [] ++ w0.1 := by rw [hw0]; rfl
  have h2 : y.2 = w0.2 := by rw [hw0]
  have hbl : y.1.length ≤ y.1.length ∧ wt y.1 ≤ wt y.1 := ⟨Nat.le_refl _, Nat.le_refl _⟩
  refine lv_iconst (v := (0 : Int32)) hx hb dX0_writeModes_0 (by decide) ?_
  refine lv_istore_n (lv' := [(2, .int (0 : Int32)), (0, .ref (ad a)), (1, .int p0)]) hx hb dX0_writeModes_1 rfl hl (by decide) rfl (fun ls hl => ?_)
  obtain ⟨y1, hy1, hF⟩ := bnd_some hF
  obtain ⟨w3, hF, ew3⟩ := app_some hF
  obtain ⟨L4, eL4, hF⟩ := ltt_some hF
  have hT4 : y.1 = ([] ++ y1.1) ++ w3.1 := by rw [hT, ew3]; simp only [List.append_assoc]
  have hbl4 : L4.length ≤ y.1.length ∧ wt L4 ≤ wt y.1 := by rw [eL4]; exact room_d hT4 hbl
  have K1 : ∀ (ad5 : Nat → Nat), agr G.1 ad ad5 → ∀ (H : Heap) (locs : List Loc) (ls : Array Slot), va_P D classes (wld ct ad5 (xt G L4) y1.2.2) H → va_D A (wld ct ad5 (xt G L4) y1.2.2) → va_S A s.heap H locs → lv_has ls 5 [] → W p l e (headSpec wuX0_writeModes ({ frames := 5, cells := y.1.length, slots := wt y.1, locals := 175 })).room s m ([.ref (ad a), .int p0] : List Value).toArray below meth c H locs (L4 : NN).length (wt L4) (MQ below (va_Qv (fun (u : Nat → Nat) => agr G.1 ad u) (fun u t => kE D ct u (xt G y.1) A y.2 t) A) ([.ref (ad a), .int p0] : List Value).toArray s y.1.length (wt y.1) A) (F0 m 92 ls []) := by
    intro ad5 hag H locs ls hP hD hS hl
    have hT : y.1 = L4 ++ w3.1 := by rw [hT4, eL4]
    have h2 : y.2 = w3.2 := by rw [h2, ew3]
    have hk : (xt G L4).2.1 a = 0 := by rw [eL4]; exact xt_k _ hc hk
    have hc : a < (xt G L4).1 := by rw [eL4]; exact xt_l _ hc
    obtain rfl := Option.some.inj hF
    have e1 : y.1 = L4 := by rw [hT]; exact List.append_nil _
    have e2 : y.2 = y1.2.2 := h2
    refine W.widen (k := y.1.length) (n := wt y.1) (Nat.le_of_eq (by rw [e1])) (Nat.le_of_eq (by rw [e1])) ?_
    exact W.vret hx hb hr (fun t ht hW => ⟨⟨ad5, rfl, hag, (by unfold kE; rw [e1, e2]; exact ⟨by rw [ht]; exact hP, va_K.moved hW.alike hK, hD⟩)⟩, hS.F ht⟩) hS.2.2 dX0_writeModes_92
  clear hF
  refine itrA_rule (fun (s2 : NN × Int32 × DD) (r7 : NN) => (∃ t, s2.1 = [] ++ t) → L4 = s2.1 ++ r7 → ∀ (ad6 : Nat → Nat), agr G.1 ad ad6 → ∀ (H : Heap) (locs : List Loc) (ls : Array Slot), va_P D classes (wld ct ad6 (xt G s2.1) s2.2.2) H → va_D A (wld ct ad6 (xt G s2.1) s2.2.2) → va_S A s.heap H locs → lv_has ls 5 [(2, .int s2.2.1), (0, .ref (ad6 a)), (1, .int p0)] → W p l e (headSpec wuX0_writeModes ({ frames := 5, cells := y.1.length, slots := wt y.1, locals := 175 })).room s m ([.ref (ad a), .int p0] : List Value).toArray below meth c H locs (s2.1 : NN).length (wt s2.1) (MQ below (va_Qv (fun (u : Nat → Nat) => agr G.1 ad u) (fun u t => kE D ct u (xt G y.1) A y.2 t) A) ([.ref (ad a), .int p0] : List Value).toArray s y.1.length (wt y.1) A) (F0 m 2 ls [])) ?_ _ _ _ hy1 ⟨[], (List.append_nil _).symm⟩ eL4 _ hag _ _ _ hP hD hS (lv_sub hl [0, 1, 2] rfl)
  rintro s2 r7 ⟨z8, hF, ⟨t1, et1⟩, hwz8⟩ ⟨u1, eu1⟩ eq1 ad6 hag H locs ls hP hD hS hl
  try dsimp only at hF
  obtain ⟨L9, eL9⟩ : ∃ x, x = s2.1 ++ z8.1 := ⟨_, rfl⟩
  obtain ⟨w10, hw10⟩ : ∃ x, x = z8 := ⟨_, rfl⟩
  rw [← hw10] at hF
  have hbl : L9.length ≤ y.1.length ∧ wt L9 ≤ wt y.1 := room_d (show L4 = L9 ++ t1 by rw [eq1, et1, eL9]; simp only [List.append_assoc]) hbl4
  have hT : L9 = s2.1 ++ w10.1 := by rw [eL9, hw10]
  have h2 : z8.2 = w10.2 := by rw [hw10]
  have hk : (xt G s2.1).2.1 a = 0 := by rw [eu1]; exact xt_k _ hc hk
  have hc : a < (xt G s2.1).1 := by rw [eu1]; exact xt_l _ hc
  refine lv_iload_n hx hb dX0_writeModes_2 rfl (lv_at hl 0 rfl) ?_
  refine lv_bipush (v := (16 : Int32)) hx hb dX0_writeModes_3 (by decide) ?_
  refine lv_icmp_ge (tgt := 92) hx hb dX0_writeModes_5 (by decide) (fun c11 => ?_) (fun c11 => ?_)
  · rw [if_pos c11] at hF
    obtain rfl := Option.some.inj hF
    have e1 : L9 = s2.1 := by rw [hT]; exact List.append_nil _
    have e2 : z8.2 = .inr ((s2.2.1, s2.2.2)) := h2
    rw [e2] at hwz8
    obtain ⟨hw1, hw2⟩ := hwz8
    have e8 : L4 = s2.1 := by rw [eq1, hw2, ← eL9, e1]
    rw [e8] at K1
    try rw [← hw1] at K1
    exact K1 _ hag _ _ _ hP hD hS (lv_sub hl [] rfl)
  · rw [if_neg c11] at hF
    refine lv_aload_n hx hb dX0_writeModes_8 rfl (lv_at hl 1 rfl) ?_
    refine va_get (D := D) (ci := 0) (v := va_re ad6 (s2.2.2.2 a 3)) (C := RX0) (T := TX0) (N := 21) hx hb hts (mus hf_X0) hown hK hP a (wld_o ct ad6 (xt G s2.1) s2.2.2 hc hk (by decide)) rfl 3 (by decide) (hts (.fieldLink RX0 36 "VideoSuite$Coder" "work" "LVideoSuite$Work;") (mu mw_817)) (fun _ h9 => h9) rfl dX0_writeModes_9 ?_
    refine lv_iload_n hx hb dX0_writeModes_12 rfl (lv_at hl 2 rfl) ?_
    refine lv_iload_n hx hb dX0_writeModes_13 rfl (lv_at hl 0 rfl) ?_
    obtain ⟨b12, ho12, hc12, hk12, hF⟩ := dr_some hF
    refine W_st (st' := [.int s2.2.1, .int p0, .ref (ad6 b12)]) (by rw [va_some ho12]) ?_
    obtain ⟨y13, hy13, hF⟩ := bnd_some hF
    have hf9 := wA_in hD hA9 hS
    refine va_calli (va_runV (As := [.int p0, .int s2.2.1]) (rest := []) ⟨hx, hb, hml, hown, hts⟩ (kX9_guessMode l D ct ad6 Z (xt G s2.1) s2.2.2 H.size b12 p0 s2.2.1 y13 hc12 hk12 hy13) (cwV 2 hts gX0_writeModes_X9_guessMode rfl rfl rfl (by decide +kernel) ⟨Nat.le_of_ble_eq_true rfl, Nat.le_of_ble_eq_true rfl⟩) ⟨fun a U g mk q => by obtain ⟨q0, q1, qP, qK, qD, qZ, qN⟩ := q; exact ⟨q0, q1, qP, va_K.moved (u := U) (U := U.calling g mk a) (Vm.Alike.refl U.vm) qK, qD, sF.moved (u := U) (U := U.calling g mk a) (Vm.Alike.refl U.vm) qZ, nF.same rfl qN⟩, va_recv hK hP (ci := 9) (q0 := b12) rfl (wld_o ct ad6 (xt G s2.1) s2.2.2 hc12 hk12 (by decide)), fun U hU hW => ⟨rfl, by rw [hU], by rw [hU]; exact hP, va_K.moved hW.alike hK, hD.weaken (fun _ _ _ _ => trivial), by rw [hU]; exact ((hZ.kept hS.2.1).narrow hf9).moved hW.alike, hN.warm hW⟩⟩ rfl rfl hl.1 rfl (lv_room (Nat.le_of_ble_eq_true rfl)) dX0_writeModes_14 (room_d hT hbl)) hS (fun q _ h => hf9 q h) hf9 (fun r u t H locs ht hvm hw hB hz1 hk1 hS => ?_)
    obtain ⟨hP, hK9, hD9⟩ := hB
    rw [ht] at hP
    try dsimp only at hw
    subst hw
    refine W_cs (k := (s2.1 : NN).length) (n := wt s2.1) rfl rfl ?_
    have hD := hD9.weaken (fun _ q _ h => hf9 q.1 h)
    refine lv_istore_n (lv' := [(3, .int y13.2), (2, .int s2.2.1), (0, .ref (ad6 a)), (1, .int p0)]) hx hb dX0_writeModes_17 rfl hl (by decide) rfl (fun ls hl => ?_)
    refine lv_aload_n hx hb dX0_writeModes_18 rfl (lv_at hl 2 rfl) ?_
    refine va_get (D := D) (ci := 0) (v := va_re ad6 (y13.1.2 a 3)) (C := RX0) (T := TX0) (N := 21) hx hb hts (mus hf_X0) hown hK hP a (wld_o ct ad6 (xt G s2.1) y13.1 hc hk (by decide)) rfl 3 (by decide) (hts (.fieldLink RX0 36 "VideoSuite$Coder" "work" "LVideoSuite$Work;") (mu mw_817)) (fun _ h9 => h9) rfl dX0_writeModes_19 ?_
    obtain ⟨b14, ho14, hc14, hk14, hF⟩ := dr_some hF
    refine W_st (st' := [.ref (ad6 b14)]) (by rw [va_some ho14]) ?_
    refine va_get (D := D) (ci := 9) (v := va_re ad6 (y13.1.2 b14 7)) (C := RX9) (T := TX9) (N := 20) hx hb hts (mus hf_X9) hown hK hP b14 (wld_o ct ad6 (xt G s2.1) y13.1 hc14 hk14 (by decide)) rfl 7 (by decide) (hts (.fieldLink RX0 356 "VideoSuite$Work" "mode" "[I") (mu mw_448)) (fun _ h9 => h9) rfl dX0_writeModes_22 ?_
    refine lv_bipush (v := (16 : Int32)) hx hb dX0_writeModes_25 (by decide) ?_
    refine lv_iload_n hx hb dX0_writeModes_27 rfl (lv_at hl 3 rfl) ?_
    refine lv_imul hx hb dX0_writeModes_28 ?_
    obtain ⟨x15, ex15, hF⟩ := ltt_some hF
    refine lv_topi (fun zx15 ezx15 => ?_)
    obtain rfl : x15 = zx15 := ex15.trans ezx15.symm
    refine lv_iload_n hx hb dX0_writeModes_29 rfl (lv_at hl 1 rfl) ?_
    refine lv_iadd hx hb dX0_writeModes_30 ?_
    obtain ⟨x16, ex16, hF⟩ := ltt_some hF
    refine lv_topi (fun zx16 ezx16 => ?_)
    obtain rfl : x16 = zx16 := ex16.trans ezx16.symm
    obtain ⟨b17, ho17, hc17, hk17, hF⟩ := dr_some hF
    refine W_st (st' := [.int x16, .ref (ad6 b17)]) (by rw [va_some ho17]) ?_
    obtain ⟨hvc, hF⟩ := chk_some hF
    refine va_iald hx hb hK hP b17 1 (wld_i ct ad6 (xt G s2.1) y13.1 hc17 hk17) rfl hvc dX0_writeModes_31 ?_
    obtain ⟨x18, ex18, hF⟩ := ltt_some hF
    refine lv_topi (fun zx18 ezx18 => ?_)
    obtain rfl : x18 = zx18 := ex18.trans ezx18.symm
    refine lv_istore (lv' := [(4, .int x18), (3, .int y13.2), (2, .int s2.2.1), (0, .ref (ad6 a)), (1, .int p0)]) hx hb dX0_writeModes_32 hl (by decide) rfl (fun ls hl => ?_)
    refine lv_aload_n hx hb dX0_writeModes_34 rfl (lv_at hl 3 rfl) ?_
    refine va_get (D := D) (ci := 0) (v := va_re ad6 (y13.1.2 a 2)) (C := RX0) (T := TX0) (N := 21) hx hb hts (mus hf_X0) hown hK hP a (wld_o ct ad6 (xt G s2.1) y13.1 hc hk (by decide)) rfl 2 (by decide) (hts (.fieldLink RX0 29 "VideoSuite$Coder" "writer" "LVideoSuite$Writer;") (mu mw_815)) (fun _ h9 => h9) rfl dX0_writeModes_35 ?_
    refine lv_iconst (v := (2 : Int32)) hx hb dX0_writeModes_38 (by decide) ?_
    refine lv_iload hx hb dX0_writeModes_39 (lv_at hl 0 rfl) ?_
    refine lv_iload_n hx hb dX0_writeModes_41 rfl (lv_at hl 1 rfl) ?_
    obtain ⟨y19, hy19, hF⟩ := bnd_some hF
    have J19 : ∀ (H : Heap) (locs : List Loc) (ls : Array Slot), va_P D classes (wld ct ad6 (xt G s2.1) y13.1) H → va_D A (wld ct ad6 (xt G s2.1) y13.1) → va_S A s.heap H locs → lv_has ls 5 [(4, .int x18), (3, .int y13.2), (2, .int s2.2.1), (0, .ref (ad6 a)), (1, .int p0)] → W p l e (headSpec wuX0_writeModes ({ frames := 5, cells := y.1.length, slots := wt y.1, locals := 175 })).room s m ([.ref (ad a), .int p0] : List Value).toArray below meth c H locs (s2.1 : NN).length (wt s2.1) (MQ below (va_Qv (fun (u : Nat → Nat) => agr G.1 ad u) (fun u t => kE D ct u (xt G y.1) A y.2 t) A) ([.ref (ad a), .int p0] : List Value).toArray s y.1.length (wt y.1) A) (F0 m 50 ls [.long y19, .int (2 : Int32), va_re ad6 (y13.1.2 a 2)]) := by
      intro H locs ls hP hD hS hl
      refine lv_iconst (v := (1 : Int32)) hx hb dX0_writeModes_50 (by decide) ?_
      obtain ⟨b20, ho20, hc20, hk20, hF⟩ := dr_some hF
      refine W_st (st' := [.int (1 : Int32), .long y19, .int (2 : Int32), .ref (ad6 b20)]) (by rw [va_some ho20]) ?_
      obtain ⟨y21, hy21, hF⟩ := bnd_some hF
      obtain ⟨w22, hF, ew22⟩ := app_some hF
      obtain ⟨L23, eL23, hF⟩ := ltt_some hF
      have hT23 : L9 = (s2.1 ++ y21.1) ++ w22.1 := by rw [hT, ew22]; simp only [List.append_assoc]
      have hf9 := wA_in hD hA9 hS
      refine va_callv (va_runV (As := [.int (2 : Int32), .long y19, .int (1 : Int32)]) (rest := []) ⟨hx, hb, hml, hown, hts⟩ (kX10_code l D ct ad6 Z (xt G s2.1) y13.1 _ b20 ((2 : Int32)) y19 ((1 : Int32)) y21 hc20 hk20 hy21) (cwV 3 hts gX0_writeModes_X10_code rfl rfl rfl (by decide +kernel) ⟨Nat.le_of_ble_eq_true rfl, Nat.le_of_ble_eq_true rfl⟩) ⟨fun a U g mk q => by obtain ⟨q0, q1, qP, qK, qD, qZ, qN⟩ := q; exact ⟨q0, q1, qP, va_K.moved (u := U) (U := U.calling g mk a) (Vm.Alike.refl U.vm) qK, qD, sF.moved (u := U) (U := U.calling g mk a) (Vm.Alike.refl U.vm) qZ, nF.same rfl qN⟩, va_recv hK hP (ci := 10) (q0 := b20) rfl (wld_o ct ad6 (xt G s2.1) y13.1 hc20 hk20 (by decide)), fun U hU hW => ⟨rfl, by rw [hU], by rw [hU]; exact hP, va_K.moved hW.alike hK, hD.weaken (fun _ _ _ _ => trivial), by rw [hU]; exact ((hZ.kept hS.2.1).narrow hf9).moved hW.alike, hN.warm hW⟩⟩ rfl rfl hl.1 rfl (lv_room (Nat.le_of_ble_eq_true rfl)) dX0_writeModes_51 (room_s hT23 hbl)) hS (fun q _ h => hf9 q h) hf9 (fun ad24 t H locs ht hvm hw hB hz1 hk1 hS => ?_)
      have hn25 := hw
      obtain ⟨hP, hK9, hD9⟩ := hB
      rw [ht] at hP
      have hD := hD9.weaken (fun _ q _ h => hf9 q.1 h)
      rw [xt_xt, ← eL23] at hP hD
      refine W_cs (k := L23.length) (n := wt L23) (by rw [eL23]; exact (len_s s2.1 y21.1).symm) (by rw [eL23]; exact (wt_app s2.1 y21.1).symm) ?_
      have hT : L9 = L23 ++ w22.1 := by rw [hT23, eL23]
      have h2 : z8.2 = w22.2 := by rw [h2, ew22]
      have hl := lv_sub (l' := [(4, .int x18), (3, .int y13.2), (2, .int s2.2.1), (0, .ref (ad6 a)), (1, .int p0)]) hl [0, 1, 2, 3, 4] rfl
      have e9 : ([(4, .int x18), (3, .int y13.2), (2, .int s2.2.1), (0, .ref (ad6 a)), (1, .int p0)] : List (Nat × Value)) = [(4, .int x18), (3, .int y13.2), (2, .int s2.2.1), (0, .ref (ad24 a)), (1, .int p0)] := (by first | rfl | simp only [hn25 a hc])
      rw [e9] at hl
      clear e9
      have hk : (xt G L23).2.1 a = 0 := by rw [eL23]; exact xt_k _ hc hk
      have hc : a < (xt G L23).1 := by rw [eL23]; exact xt_l _ hc
      have hk12 : (xt G L23).2.1 b12 = 9 := by rw [eL23]; exact xt_k _ hc12 hk12
      have hc12 : b12 < (xt G L23).1 := by rw [eL23]; exact xt_l _ hc12
      have hk14 : (xt G L23).2.1 b14 = 9 := by rw [eL23]; exact xt_k _ hc14 hk14
      have hc14 : b14 < (xt G L23).1 := by rw [eL23]; exact xt_l _ hc14
      have hk17 : (xt G L23).2.1 b17 = 13 := by rw [eL23]; exact xt_k _ hc17 hk17
      have hc17 : b17 < (xt G L23).1 := by rw [eL23]; exact xt_l _ hc17
      have hk20 : (xt G L23).2.1 b20 = 10 := by rw [eL23]; exact xt_k _ hc20 hk20
      have hc20 : b20 < (xt G L23).1 := by rw [eL23]; exact xt_l _ hc20
      have hag := agr_t (xt_ge _ _) hag hn25
      refine lv_iload hx hb dX0_writeModes_54 (lv_at hl 0 rfl) ?_
      refine lv_iload_n hx hb dX0_writeModes_56 rfl (lv_at hl 1 rfl) ?_
      obtain ⟨y26, hy26, hF⟩ := bnd_some hF
      obtain ⟨w27, hF, ew27⟩ := app_some hF
      obtain ⟨L28, eL28, hF⟩ := ltt_some hF
      have hT28 : L9 = (L23 ++ y26.1) ++ w27.1 := by rw [hT, ew27]; simp only [List.append_assoc]
      have hbl28 : L28.length ≤ y.1.length ∧ wt L28 ≤ wt y.1 := by rw [eL28]; exact room_d hT28 hbl
      have J26 : ∀ (ad29 : Nat → Nat), agr G.1 ad ad29 → ∀ (H : Heap) (locs : List Loc) (ls : Array Slot), va_P D classes (wld ct ad29 (xt G L28) y26.2) H → va_D A (wld ct ad29 (xt G L28) y26.2) → va_S A s.heap H locs → lv_has ls 5 [(2, .int s2.2.1), (0, .ref (ad29 a)), (1, .int p0)] → W p l e (headSpec wuX0_writeModes ({ frames := 5, cells := y.1.length, slots := wt y.1, locals := 175 })).room s m ([.ref (ad a), .int p0] : List Value).toArray below meth c H locs (L28 : NN).length (wt L28) (MQ below (va_Qv (fun (u : Nat → Nat) => agr G.1 ad u) (fun u t => kE D ct u (xt G y.1) A y.2 t) A) ([.ref (ad a), .int p0] : List Value).toArray s y.1.length (wt y.1) A) (F0 m 86 ls []) := by
        intro ad29 hag H locs ls hP hD hS hl
        have hT : L9 = L28 ++ w27.1 := by rw [hT28, eL28]
        have h2 : z8.2 = w27.2 := by rw [h2, ew27]
        have hk : (xt G L28).2.1 a = 0 := by rw [eL28]; exact xt_k _ hc hk
        have hc : a < (xt G L28).1 := by rw [eL28]; exact xt_l _ hc
        have hk12 : (xt G L28).2.1 b12 = 9 := by rw [eL28]; exact xt_k _ hc12 hk12
        have hc12 : b12 < (xt G L28).1 := by rw [eL28]; exact xt_l _ hc12
        have hk14 : (xt G L28).2.1 b14 = 9 := by rw [eL28]; exact xt_k _ hc14 hk14
        have hc14 : b14 < (xt G L28).1 := by rw [eL28]; exact xt_l _ hc14
        have hk17 : (xt G L28).2.1 b17 = 13 := by rw [eL28]; exact xt_k _ hc17 hk17
        have hc17 : b17 < (xt G L28).1 := by rw [eL28]; exact xt_l _ hc17
        have hk20 : (xt G L28).2.1 b20 = 10 := by rw [eL28]; exact xt_k _ hc20 hk20
        have hc20 : b20 < (xt G L28).1 := by rw [eL28]; exact xt_l _ hc20
        obtain ⟨x30, ex30, hF⟩ := ltt_some hF
        refine lv_iinc (v := x30) (lv' := [(2, .int x30), (0, .ref (ad29 a)), (1, .int p0)]) hx hb dX0_writeModes_86 hl (k := 0) rfl (by rw [ex30]; rfl) (by decide) rfl (fun ls hl => ?_)
        refine lv_goto (tgt := 2) hx hb dX0_writeModes_89 (by decide) ?_
        obtain rfl := Option.some.inj hF
        have e1 : L9 = L28 := by rw [hT]; exact List.append_nil _
        have e2 : z8.2 = .inl (L28, (x30, y26.2)) := h2
        rw [e2] at hwz8
        obtain ⟨r2, er2, hwz8⟩ := hwz8
        exact hwz8 ⟨u1 ++ z8.1, by show L28 = _; rw [← e1, eL9, eu1]; simp only [List.append_assoc]⟩ (by show L4 = L28 ++ r2; rw [eq1, er2, ← e1, eL9]; simp only [List.append_assoc]) _ hag _ _ _ hP hD hS (lv_sub hl [0, 1, 2] rfl)
      clear hF
      obtain ⟨w31, hw31⟩ : ∃ z, z = y26 := ⟨_, rfl⟩
      have hF := hy26
      rw [← hw31] at hF
      clear hy26
      have hT : L28 = L23 ++ w31.1 := by rw [eL28, hw31]
      have h2 : y26.2 = w31.2 := by rw [hw31]
      have hbl := hbl28
      refine lv_icmp_eq (tgt := 86) hx hb dX0_writeModes_57 (by decide) (fun c32 => ?_) (fun c32 => ?_)
      · rw [if_pos c32] at hF
        obtain rfl := Option.some.inj hF
        have e1 : L28 = L23 := by rw [hT]; exact List.append_nil _
        have e2 : y26.2 = y21.2 := h2
        rw [e1] at J26
        try rw [e2] at J26
        exact J26 _ hag _ _ _ hP hD hS (lv_sub hl [2, 3, 4] rfl)
      · rw [if_neg c32] at hF
        refine lv_aload_n hx hb dX0_writeModes_60 rfl (lv_at hl 3 rfl) ?_
        refine va_get (D := D) (ci := 0) (v := va_re ad24 (y21.2.2 a 2)) (C := RX0) (T := TX0) (N := 21) hx hb hts (mus hf_X0) hown hK hP a (wld_o ct ad24 (xt G L23) y21.2 hc hk (by decide)) rfl 2 (by decide) (hts (.fieldLink RX0 29 "VideoSuite$Coder" "writer" "LVideoSuite$Writer;") (mu mw_815)) (fun _ h9 => h9) rfl dX0_writeModes_61 ?_
        refine lv_iconst (v := (3 : Int32)) hx hb dX0_writeModes_64 (by decide) ?_
        refine lv_iload hx hb dX0_writeModes_65 (lv_at hl 0 rfl) ?_
        refine lv_iload_n hx hb dX0_writeModes_67 rfl (lv_at hl 1 rfl) ?_
        obtain ⟨y33, hy33, hF⟩ := bnd_some hF
        have J33 : ∀ (H : Heap) (locs : List Loc) (ls : Array Slot), va_P D classes (wld ct ad24 (xt G L23) y21.2) H → va_D A (wld ct ad24 (xt G L23) y21.2) → va_S A s.heap H locs → lv_has ls 5 [(4, .int x18), (3, .int y13.2), (2, .int s2.2.1), (0, .ref (ad24 a)), (1, .int p0)] → W p l e (headSpec wuX0_writeModes ({ frames := 5, cells := y.1.length, slots := wt y.1, locals := 175 })).room s m ([.ref (ad a), .int p0] : List Value).toArray below meth c H locs (L23 : NN).length (wt L23) (MQ below (va_Qv (fun (u : Nat → Nat) => agr G.1 ad u) (fun u t => kE D ct u (xt G y.1) A y.2 t) A) ([.ref (ad a), .int p0] : List Value).toArray s y.1.length (wt y.1) A) (F0 m 82 ls [.long y33, .int (3 : Int32), va_re ad24 (y21.2.2 a 2)]) := by
          intro H locs ls hP hD hS hl
          refine lv_iconst (v := (3 : Int32)) hx hb dX0_writeModes_82 (by decide) ?_
          obtain ⟨b34, ho34, hc34, hk34, hF⟩ := dr_some hF
          refine W_st (st' := [.int (3 : Int32), .long y33, .int (3 : Int32), .ref (ad24 b34)]) (by rw [va_some ho34]) ?_
          obtain ⟨y35, hy35, hF⟩ := bnd_some hF
          obtain ⟨w36, hF, ew36⟩ := app_some hF
          obtain ⟨L37, eL37, hF⟩ := ltt_some hF
          have hT37 : L28 = (L23 ++ y35.1) ++ w36.1 := by rw [hT, ew36]; simp only [List.append_assoc]
          have hf9 := wA_in hD hA9 hS
          refine va_callv (va_runV (As := [.int (3 : Int32), .long y33, .int (3 : Int32)]) (rest := []) ⟨hx, hb, hml, hown, hts⟩ (kX10_code l D ct ad24 Z (xt G L23) y21.2 _ b34 ((3 : Int32)) y33 ((3 : Int32)) y35 hc34 hk34 hy35) (cwV 3 hts gX0_writeModes_X10_code rfl rfl rfl (by decide +kernel) ⟨Nat.le_of_ble_eq_true rfl, Nat.le_of_ble_eq_true rfl⟩) ⟨fun a U g mk q => by obtain ⟨q0, q1, qP, qK, qD, qZ, qN⟩ := q; exact ⟨q0, q1, qP, va_K.moved (u := U) (U := U.calling g mk a) (Vm.Alike.refl U.vm) qK, qD, sF.moved (u := U) (U := U.calling g mk a) (Vm.Alike.refl U.vm) qZ, nF.same rfl qN⟩, va_recv hK hP (ci := 10) (q0 := b34) rfl (wld_o ct ad24 (xt G L23) y21.2 hc34 hk34 (by decide)), fun U hU hW => ⟨rfl, by rw [hU], by rw [hU]; exact hP, va_K.moved hW.alike hK, hD.weaken (fun _ _ _ _ => trivial), by rw [hU]; exact ((hZ.kept hS.2.1).narrow hf9).moved hW.alike, hN.warm hW⟩⟩ rfl rfl hl.1 rfl (lv_room (Nat.le_of_ble_eq_true rfl)) dX0_writeModes_83 (room_s hT37 hbl)) hS (fun q _ h => hf9 q h) hf9 (fun ad38 t H locs ht hvm hw hB hz1 hk1 hS => ?_)
          have hn39 := hw
          obtain ⟨hP, hK9, hD9⟩ := hB
          rw [ht] at hP
          have hD := hD9.weaken (fun _ q _ h => hf9 q.1 h)
          rw [xt_xt, ← eL37] at hP hD
          refine W_cs (k := L37.length) (n := wt L37) (by rw [eL37]; exact (len_s L23 y35.1).symm) (by rw [eL37]; exact (wt_app L23 y35.1).symm) ?_
          have hT : L28 = L37 ++ w36.1 := by rw [hT37, eL37]
          have h2 : y26.2 = w36.2 := by rw [h2, ew36]
          have hl := lv_sub (l' := [(2, .int s2.2.1), (0, .ref (ad24 a)), (1, .int p0)]) hl [2, 3, 4] rfl
          have e9 : ([(2, .int s2.2.1), (0, .ref (ad24 a)), (1, .int p0)] : List (Nat × Value)) = [(2, .int s2.2.1), (0, .ref (ad38 a)), (1, .int p0)] := (by first | rfl | simp only [hn39 a hc])
          rw [e9] at hl
          clear e9
          have hk : (xt G L37).2.1 a = 0 := by rw [eL37]; exact xt_k _ hc hk
          have hc : a < (xt G L37).1 := by rw [eL37]; exact xt_l _ hc
          have hk12 : (xt G L37).2.1 b12 = 9 := by rw [eL37]; exact xt_k _ hc12 hk12
          have hc12 : b12 < (xt G L37).1 := by rw [eL37]; exact xt_l _ hc12
          have hk14 : (xt G L37).2.1 b14 = 9 := by rw [eL37]; exact xt_k _ hc14 hk14
          have hc14 : b14 < (xt G L37).1 := by rw [eL37]; exact xt_l _ hc14
          have hk17 : (xt G L37).2.1 b17 = 13 := by rw [eL37]; exact xt_k _ hc17 hk17
          have hc17 : b17 < (xt G L37).1 := by rw [eL37]; exact xt_l _ hc17
          have hk20 : (xt G L37).2.1 b20 = 10 := by rw [eL37]; exact xt_k _ hc20 hk20
          have hc20 : b20 < (xt G L37).1 := by rw [eL37]; exact xt_l _ hc20
          have hk34 : (xt G L37).2.1 b34 = 10 := by rw [eL37]; exact xt_k _ hc34 hk34
          have hc34 : b34 < (xt G L37).1 := by rw [eL37]; exact xt_l _ hc34
          have hag := agr_t (xt_ge _ _) hag hn39
          obtain rfl := Option.some.inj hF
          have e1 : L28 = L37 := by rw [hT]; exact List.append_nil _
          have e2 : y26.2 = y35.2 := h2
          rw [e1] at J26
          try rw [e2] at J26
          exact J26 _ hag _ _ _ hP hD hS (lv_sub hl [0, 1, 2] rfl)
        clear hF
        have hF := hy33
        clear hy33
        refine lv_icmp_ge (tgt := 77) hx hb dX0_writeModes_68 (by decide) (fun c40 => ?_) (fun c40 => ?_)
        · rw [if_pos c40] at hF
          refine lv_iload hx hb dX0_writeModes_77 (lv_at hl 0 rfl) ?_
          refine lv_iconst (v := (1 : Int32)) hx hb dX0_writeModes_79 (by decide) ?_
          refine lv_isub hx hb dX0_writeModes_80 ?_
          obtain ⟨x41, ex41, hF⟩ := ltt_some hF
          refine lv_topi (fun zx41 ezx41 => ?_)
          obtain rfl : x41 = zx41 := ex41.trans ezx41.symm
          refine lv_i2l (v := x41.toInt64) hx hb dX0_writeModes_81 rfl ?_
          obtain ⟨x42, ex42, hF⟩ := ltt_some hF
          refine lv_topl (fun zx42 ezx42 => ?_)
          obtain rfl : x42 = zx42 := ex42.trans ezx42.symm
          obtain rfl := Option.some.inj hF
          exact J33 _ _ _ hP hD hS (lv_sub hl [0, 1, 2, 3, 4] rfl)
        · rw [if_neg c40] at hF
          refine lv_iload hx hb dX0_writeModes_71 (lv_at hl 0 rfl) ?_
          refine lv_i2l (v := x18.toInt64) hx hb dX0_writeModes_73 rfl ?_
          obtain ⟨x43, ex43, hF⟩ := ltt_some hF
          refine lv_topl (fun zx43 ezx43 => ?_)
          obtain rfl : x43 = zx43 := ex43.trans ezx43.symm
          refine lv_goto (tgt := 82) hx hb dX0_writeModes_74 (by decide) ?_
          obtain rfl := Option.some.inj hF
          exact J33 _ _ _ hP hD hS (lv_sub hl [0, 1, 2, 3, 4] rfl)
    clear hF
    have hF := hy19
    clear hy19
    refine lv_icmp_ne (tgt := 49) hx hb dX0_writeModes_42 (by decide) (fun c44 => ?_) (fun c44 => ?_)
    · rw [if_neg c44] at hF
      refine lv_lconst (v := (0 : Int64)) hx hb dX0_writeModes_49 rfl ?_
      obtain rfl := Option.some.inj hF
      exact J19 _ _ _ hP hD hS (lv_sub hl [0, 1, 2, 3, 4] rfl)
    · rw [if_pos c44] at hF
      refine lv_lconst (v := (1 : Int64)) hx hb dX0_writeModes_45 rfl ?_
      refine lv_goto (tgt := 50) hx hb dX0_writeModes_46 (by decide) ?_
      obtain rfl := Option.some.inj hF
      exact J19 _ _ _ hP hD hS (lv_sub hl [0, 1, 2, 3, 4] rfl)
set_option maxRecDepth 20000 in
theorem gX0_writeMotion_X9_plan : GoodIn wuX0_writeMotion (wsV RX0 384 RX9 yX9_plan wuX9_plan) := gu_V mw_2511 mw_1944 mw_1945 mw_171 mw_1946
set_option maxRecDepth 20000 in
set_option maxRecDepth 20000 in
theorem gX0_writeMotion_X10_se : GoodIn wuX0_writeMotion (wsV RX0 169 RX10 yX10_se wuX10_se) := gu_V mw_1181 mw_1182 mw_1183 mw_176 mw_1184
set_option maxRecDepth 20000 in
theorem gX0_writeMotion_X4_at : GoodIn wuX0_writeMotion (va_wsS RX0 412 yX4_at wuX4_at) := gu_S mw_2517 mw_1796 mw_185 mw_1797
set_option maxRecDepth 20000 in
set_option maxRecDepth 20000 in
theorem gX0_writeMotion_X10_te : GoodIn wuX0_writeMotion (wsV RX0 575 RX10 yX10_te wuX10_te) := gu_V mw_2672 mw_2673 mw_2674 mw_176 mw_2675
set_option maxRecDepth 20000 in
theorem dX0_writeMotion_0 : decode cX0_writeMotion 0 = .ok (.aload_n 0, 1) := by decide +kernel
theorem dX0_writeMotion_1 : decode cX0_writeMotion 1 = .ok (.getfield 36, 3) := by decide +kernel
theorem dX0_writeMotion_4 : decode cX0_writeMotion 4 = .ok (.getfield 81, 3) := by decide +kernel
theorem dX0_writeMotion_7 : decode cX0_writeMotion 7 = .ok (.getfield 252, 3) := by decide +kernel
theorem dX0_writeMotion_10 : decode cX0_writeMotion 10 = .ok (.iconst 1, 1) := by decide +kernel
theorem dX0_writeMotion_11 : decode cX0_writeMotion 11 = .ok (.iaload, 1) := by decide +kernel
theorem dX0_writeMotion_12 : decode cX0_writeMotion 12 = .ok (.istore_n 2, 1) := by decide +kernel
theorem dX0_writeMotion_13 : decode cX0_writeMotion 13 = .ok (.aload_n 0, 1) := by decide +kernel
theorem dX0_writeMotion_14 : decode cX0_writeMotion 14 = .ok (.getfield 36, 3) := by decide +kernel
theorem dX0_writeMotion_17 : decode cX0_writeMotion 17 = .ok (.getfield 216, 3) := by decide +kernel
theorem dX0_writeMotion_20 : decode cX0_writeMotion 20 = .ok (.bipush 8, 2) := by decide +kernel
theorem dX0_writeMotion_22 : decode cX0_writeMotion 22 = .ok (.iload_n 1, 1) := by decide +kernel
theorem dX0_writeMotion_23 : decode cX0_writeMotion 23 = .ok (.imul, 1) := by decide +kernel
theorem dX0_writeMotion_24 : decode cX0_writeMotion 24 = .ok (.iconst 1, 1) := by decide +kernel
theorem dX0_writeMotion_25 : decode cX0_writeMotion 25 = .ok (.iadd, 1) := by decide +kernel
theorem dX0_writeMotion_26 : decode cX0_writeMotion 26 = .ok (.iaload, 1) := by decide +kernel
theorem dX0_writeMotion_27 : decode cX0_writeMotion 27 = .ok (.istore_n 3, 1) := by decide +kernel
theorem dX0_writeMotion_28 : decode cX0_writeMotion 28 = .ok (.aload_n 0, 1) := by decide +kernel
theorem dX0_writeMotion_29 : decode cX0_writeMotion 29 = .ok (.getfield 36, 3) := by decide +kernel
theorem dX0_writeMotion_32 : decode cX0_writeMotion 32 = .ok (.getfield 216, 3) := by decide +kernel
theorem dX0_writeMotion_35 : decode cX0_writeMotion 35 = .ok (.bipush 8, 2) := by decide +kernel
theorem dX0_writeMotion_37 : decode cX0_writeMotion 37 = .ok (.iload_n 1, 1) := by decide +kernel
theorem dX0_writeMotion_38 : decode cX0_writeMotion 38 = .ok (.imul, 1) := by decide +kernel
theorem dX0_writeMotion_39 : decode cX0_writeMotion 39 = .ok (.iconst 0, 1) := by decide +kernel
theorem dX0_writeMotion_40 : decode cX0_writeMotion 40 = .ok (.iadd, 1) := by decide +kernel
theorem dX0_writeMotion_41 : decode cX0_writeMotion 41 = .ok (.iaload, 1) := by decide +kernel
theorem dX0_writeMotion_42 : decode cX0_writeMotion 42 = .ok (.iconst 3, 1) := by decide +kernel
theorem dX0_writeMotion_43 : decode cX0_writeMotion 43 = .ok (.if_icmp .ne 16, 3) := by decide +kernel
theorem dX0_writeMotion_46 : decode cX0_writeMotion 46 = .ok (.iload_n 3, 1) := by decide +kernel
theorem dX0_writeMotion_47 : decode cX0_writeMotion 47 = .ok (.ifCond .lt 12, 3) := by decide +kernel
theorem dX0_writeMotion_50 : decode cX0_writeMotion 50 = .ok (.iload_n 2, 1) := by decide +kernel
theorem dX0_writeMotion_51 : decode cX0_writeMotion 51 = .ok (.iconst 1, 1) := by decide +kernel
theorem dX0_writeMotion_52 : decode cX0_writeMotion 52 = .ok (.if_icmp .ne 8, 3) := by decide +kernel
theorem dX0_writeMotion_55 : decode cX0_writeMotion 55 = .ok (.iload_n 3, 1) := by decide +kernel
theorem dX0_writeMotion_56 : decode cX0_writeMotion 56 = .ok (.ifCond .ne 4, 3) := by decide +kernel
theorem dX0_writeMotion_59 : decode cX0_writeMotion 59 = .ok (.return_, 1) := by decide +kernel
theorem dX0_writeMotion_60 : decode cX0_writeMotion 60 = .ok (.aload_n 0, 1) := by decide +kernel
theorem dX0_writeMotion_61 : decode cX0_writeMotion 61 = .ok (.getfield 36, 3) := by decide +kernel
theorem dX0_writeMotion_64 : decode cX0_writeMotion 64 = .ok (.iload_n 2, 1) := by decide +kernel
theorem dX0_writeMotion_65 : decode cX0_writeMotion 65 = .ok (.iload_n 3, 1) := by decide +kernel
theorem dX0_writeMotion_66 : decode cX0_writeMotion 66 = .ok (.invokevirtual 384, 3) := by decide +kernel
theorem dX0_writeMotion_69 : decode cX0_writeMotion 69 = .ok (.iconst 0, 1) := by decide +kernel
theorem dX0_writeMotion_70 : decode cX0_writeMotion 70 = .ok (.istore 4, 2) := by decide +kernel
theorem dX0_writeMotion_72 : decode cX0_writeMotion 72 = .ok (.iload 4, 2) := by decide +kernel
theorem dX0_writeMotion_74 : decode cX0_writeMotion 74 = .ok (.iconst 2, 1) := by decide +kernel
theorem dX0_writeMotion_75 : decode cX0_writeMotion 75 = .ok (.if_icmp .ge 127, 3) := by decide +kernel
theorem dX0_writeMotion_78 : decode cX0_writeMotion 78 = .ok (.aload_n 0, 1) := by decide +kernel
theorem dX0_writeMotion_79 : decode cX0_writeMotion 79 = .ok (.getfield 36, 3) := by decide +kernel
theorem dX0_writeMotion_82 : decode cX0_writeMotion 82 = .ok (.getfield 81, 3) := by decide +kernel
theorem dX0_writeMotion_85 : decode cX0_writeMotion 85 = .ok (.getfield 252, 3) := by decide +kernel
theorem dX0_writeMotion_88 : decode cX0_writeMotion 88 = .ok (.bipush 9, 2) := by decide +kernel
theorem dX0_writeMotion_90 : decode cX0_writeMotion 90 = .ok (.iload 4, 2) := by decide +kernel
theorem dX0_writeMotion_92 : decode cX0_writeMotion 92 = .ok (.iadd, 1) := by decide +kernel
theorem dX0_writeMotion_93 : decode cX0_writeMotion 93 = .ok (.iaload, 1) := by decide +kernel
theorem dX0_writeMotion_94 : decode cX0_writeMotion 94 = .ok (.istore 5, 2) := by decide +kernel
theorem dX0_writeMotion_96 : decode cX0_writeMotion 96 = .ok (.iconst 0, 1) := by decide +kernel
theorem dX0_writeMotion_97 : decode cX0_writeMotion 97 = .ok (.istore 6, 2) := by decide +kernel
theorem dX0_writeMotion_99 : decode cX0_writeMotion 99 = .ok (.iload 6, 2) := by decide +kernel
theorem dX0_writeMotion_101 : decode cX0_writeMotion 101 = .ok (.aload_n 0, 1) := by decide +kernel
theorem dX0_writeMotion_102 : decode cX0_writeMotion 102 = .ok (.getfield 36, 3) := by decide +kernel
theorem dX0_writeMotion_105 : decode cX0_writeMotion 105 = .ok (.getfield 387, 3) := by decide +kernel
theorem dX0_writeMotion_108 : decode cX0_writeMotion 108 = .ok (.if_icmp .ge 88, 3) := by decide +kernel
theorem dX0_writeMotion_111 : decode cX0_writeMotion 111 = .ok (.iload 5, 2) := by decide +kernel
theorem dX0_writeMotion_113 : decode cX0_writeMotion 113 = .ok (.iconst 1, 1) := by decide +kernel
theorem dX0_writeMotion_114 : decode cX0_writeMotion 114 = .ok (.if_icmp .le 82, 3) := by decide +kernel
theorem dX0_writeMotion_117 : decode cX0_writeMotion 117 = .ok (.aload_n 0, 1) := by decide +kernel
theorem dX0_writeMotion_118 : decode cX0_writeMotion 118 = .ok (.getfield 36, 3) := by decide +kernel
theorem dX0_writeMotion_121 : decode cX0_writeMotion 121 = .ok (.getfield 390, 3) := by decide +kernel
theorem dX0_writeMotion_124 : decode cX0_writeMotion 124 = .ok (.iconst 4, 1) := by decide +kernel
theorem dX0_writeMotion_125 : decode cX0_writeMotion 125 = .ok (.iload 6, 2) := by decide +kernel
theorem dX0_writeMotion_127 : decode cX0_writeMotion 127 = .ok (.imul, 1) := by decide +kernel
theorem dX0_writeMotion_128 : decode cX0_writeMotion 128 = .ok (.iconst 3, 1) := by decide +kernel
theorem dX0_writeMotion_129 : decode cX0_writeMotion 129 = .ok (.iadd, 1) := by decide +kernel
theorem dX0_writeMotion_130 : decode cX0_writeMotion 130 = .ok (.iaload, 1) := by decide +kernel
theorem dX0_writeMotion_131 : decode cX0_writeMotion 131 = .ok (.iload 4, 2) := by decide +kernel
theorem dX0_writeMotion_133 : decode cX0_writeMotion 133 = .ok (.ishr, 1) := by decide +kernel
theorem dX0_writeMotion_134 : decode cX0_writeMotion 134 = .ok (.iconst 1, 1) := by decide +kernel
theorem dX0_writeMotion_135 : decode cX0_writeMotion 135 = .ok (.iand, 1) := by decide +kernel
theorem dX0_writeMotion_136 : decode cX0_writeMotion 136 = .ok (.iconst 1, 1) := by decide +kernel
theorem dX0_writeMotion_137 : decode cX0_writeMotion 137 = .ok (.if_icmp .ne 53, 3) := by decide +kernel
theorem dX0_writeMotion_140 : decode cX0_writeMotion 140 = .ok (.bipush 16, 2) := by decide +kernel
theorem dX0_writeMotion_142 : decode cX0_writeMotion 142 = .ok (.iload_n 1, 1) := by decide +kernel
theorem dX0_writeMotion_143 : decode cX0_writeMotion 143 = .ok (.imul, 1) := by decide +kernel
theorem dX0_writeMotion_144 : decode cX0_writeMotion 144 = .ok (.aload_n 0, 1) := by decide +kernel
theorem dX0_writeMotion_145 : decode cX0_writeMotion 145 = .ok (.getfield 36, 3) := by decide +kernel
theorem dX0_writeMotion_148 : decode cX0_writeMotion 148 = .ok (.getfield 390, 3) := by decide +kernel
theorem dX0_writeMotion_151 : decode cX0_writeMotion 151 = .ok (.iconst 4, 1) := by decide +kernel
theorem dX0_writeMotion_152 : decode cX0_writeMotion 152 = .ok (.iload 6, 2) := by decide +kernel
theorem dX0_writeMotion_154 : decode cX0_writeMotion 154 = .ok (.imul, 1) := by decide +kernel
theorem dX0_writeMotion_155 : decode cX0_writeMotion 155 = .ok (.iaload, 1) := by decide +kernel
theorem dX0_writeMotion_156 : decode cX0_writeMotion 156 = .ok (.iadd, 1) := by decide +kernel
theorem dX0_writeMotion_157 : decode cX0_writeMotion 157 = .ok (.istore 7, 2) := by decide +kernel
theorem dX0_writeMotion_159 : decode cX0_writeMotion 159 = .ok (.aload_n 0, 1) := by decide +kernel
theorem dX0_writeMotion_160 : decode cX0_writeMotion 160 = .ok (.getfield 29, 3) := by decide +kernel
theorem dX0_writeMotion_163 : decode cX0_writeMotion 163 = .ok (.bipush 6, 2) := by decide +kernel
theorem dX0_writeMotion_165 : decode cX0_writeMotion 165 = .ok (.iload 5, 2) := by decide +kernel
theorem dX0_writeMotion_167 : decode cX0_writeMotion 167 = .ok (.iconst 1, 1) := by decide +kernel
theorem dX0_writeMotion_168 : decode cX0_writeMotion 168 = .ok (.isub, 1) := by decide +kernel
theorem dX0_writeMotion_169 : decode cX0_writeMotion 169 = .ok (.aload_n 0, 1) := by decide +kernel
theorem dX0_writeMotion_170 : decode cX0_writeMotion 170 = .ok (.getfield 36, 3) := by decide +kernel
theorem dX0_writeMotion_173 : decode cX0_writeMotion 173 = .ok (.getfield 266, 3) := by decide +kernel
theorem dX0_writeMotion_176 : decode cX0_writeMotion 176 = .ok (.getfield 409, 3) := by decide +kernel
theorem dX0_writeMotion_179 : decode cX0_writeMotion 179 = .ok (.iload 4, 2) := by decide +kernel
theorem dX0_writeMotion_181 : decode cX0_writeMotion 181 = .ok (.iload 7, 2) := by decide +kernel
theorem dX0_writeMotion_183 : decode cX0_writeMotion 183 = .ok (.invokestatic 412, 3) := by decide +kernel
theorem dX0_writeMotion_186 : decode cX0_writeMotion 186 = .ok (.iaload, 1) := by decide +kernel
theorem dX0_writeMotion_187 : decode cX0_writeMotion 187 = .ok (.invokevirtual 575, 3) := by decide +kernel
theorem dX0_writeMotion_190 : decode cX0_writeMotion 190 = .ok (.iinc 6 1, 3) := by decide +kernel
theorem dX0_writeMotion_193 : decode cX0_writeMotion 193 = .ok (.goto (-94), 3) := by decide +kernel
theorem dX0_writeMotion_196 : decode cX0_writeMotion 196 = .ok (.iinc 4 1, 3) := by decide +kernel
theorem dX0_writeMotion_199 : decode cX0_writeMotion 199 = .ok (.goto (-127), 3) := by decide +kernel
theorem dX0_writeMotion_202 : decode cX0_writeMotion 202 = .ok (.iconst 0, 1) := by decide +kernel
theorem dX0_writeMotion_203 : decode cX0_writeMotion 203 = .ok (.istore 4, 2) := by decide +kernel
theorem dX0_writeMotion_205 : decode cX0_writeMotion 205 = .ok (.iload 4, 2) := by decide +kernel
theorem dX0_writeMotion_207 : decode cX0_writeMotion 207 = .ok (.iconst 2, 1) := by decide +kernel
theorem dX0_writeMotion_208 : decode cX0_writeMotion 208 = .ok (.if_icmp .ge 109, 3) := by decide +kernel
theorem dX0_writeMotion_211 : decode cX0_writeMotion 211 = .ok (.iconst 0, 1) := by decide +kernel
theorem dX0_writeMotion_212 : decode cX0_writeMotion 212 = .ok (.istore 5, 2) := by decide +kernel
theorem dX0_writeMotion_214 : decode cX0_writeMotion 214 = .ok (.iload 5, 2) := by decide +kernel
theorem dX0_writeMotion_216 : decode cX0_writeMotion 216 = .ok (.aload_n 0, 1) := by decide +kernel
theorem dX0_writeMotion_217 : decode cX0_writeMotion 217 = .ok (.getfield 36, 3) := by decide +kernel
theorem dX0_writeMotion_220 : decode cX0_writeMotion 220 = .ok (.getfield 406, 3) := by decide +kernel
theorem dX0_writeMotion_223 : decode cX0_writeMotion 223 = .ok (.if_icmp .ge 88, 3) := by decide +kernel
theorem dX0_writeMotion_226 : decode cX0_writeMotion 226 = .ok (.aload_n 0, 1) := by decide +kernel
theorem dX0_writeMotion_227 : decode cX0_writeMotion 227 = .ok (.getfield 36, 3) := by decide +kernel
theorem dX0_writeMotion_230 : decode cX0_writeMotion 230 = .ok (.getfield 403, 3) := by decide +kernel
theorem dX0_writeMotion_233 : decode cX0_writeMotion 233 = .ok (.iconst 5, 1) := by decide +kernel
theorem dX0_writeMotion_234 : decode cX0_writeMotion 234 = .ok (.iload 5, 2) := by decide +kernel
theorem dX0_writeMotion_236 : decode cX0_writeMotion 236 = .ok (.imul, 1) := by decide +kernel
theorem dX0_writeMotion_237 : decode cX0_writeMotion 237 = .ok (.iconst 3, 1) := by decide +kernel
theorem dX0_writeMotion_238 : decode cX0_writeMotion 238 = .ok (.iadd, 1) := by decide +kernel
theorem dX0_writeMotion_239 : decode cX0_writeMotion 239 = .ok (.iaload, 1) := by decide +kernel
theorem dX0_writeMotion_240 : decode cX0_writeMotion 240 = .ok (.iload 4, 2) := by decide +kernel
theorem dX0_writeMotion_242 : decode cX0_writeMotion 242 = .ok (.ishr, 1) := by decide +kernel
theorem dX0_writeMotion_243 : decode cX0_writeMotion 243 = .ok (.iconst 1, 1) := by decide +kernel
theorem dX0_writeMotion_244 : decode cX0_writeMotion 244 = .ok (.iand, 1) := by decide +kernel
theorem dX0_writeMotion_245 : decode cX0_writeMotion 245 = .ok (.iconst 1, 1) := by decide +kernel
theorem dX0_writeMotion_246 : decode cX0_writeMotion 246 = .ok (.if_icmp .ne 59, 3) := by decide +kernel
theorem dX0_writeMotion_249 : decode cX0_writeMotion 249 = .ok (.aload_n 0, 1) := by decide +kernel
theorem dX0_writeMotion_250 : decode cX0_writeMotion 250 = .ok (.getfield 29, 3) := by decide +kernel
theorem dX0_writeMotion_253 : decode cX0_writeMotion 253 = .ok (.bipush 7, 2) := by decide +kernel
theorem dX0_writeMotion_255 : decode cX0_writeMotion 255 = .ok (.aload_n 0, 1) := by decide +kernel
theorem dX0_writeMotion_256 : decode cX0_writeMotion 256 = .ok (.getfield 36, 3) := by decide +kernel
theorem dX0_writeMotion_259 : decode cX0_writeMotion 259 = .ok (.getfield 429, 3) := by decide +kernel
theorem dX0_writeMotion_262 : decode cX0_writeMotion 262 = .ok (.iconst 2, 1) := by decide +kernel
theorem dX0_writeMotion_263 : decode cX0_writeMotion 263 = .ok (.bipush 16, 2) := by decide +kernel
theorem dX0_writeMotion_265 : decode cX0_writeMotion 265 = .ok (.iload 4, 2) := by decide +kernel
theorem dX0_writeMotion_267 : decode cX0_writeMotion 267 = .ok (.imul, 1) := by decide +kernel
theorem dX0_writeMotion_268 : decode cX0_writeMotion 268 = .ok (.iload 5, 2) := by decide +kernel
theorem dX0_writeMotion_270 : decode cX0_writeMotion 270 = .ok (.iadd, 1) := by decide +kernel
theorem dX0_writeMotion_271 : decode cX0_writeMotion 271 = .ok (.imul, 1) := by decide +kernel
theorem dX0_writeMotion_272 : decode cX0_writeMotion 272 = .ok (.iaload, 1) := by decide +kernel
theorem dX0_writeMotion_273 : decode cX0_writeMotion 273 = .ok (.invokevirtual 169, 3) := by decide +kernel
theorem dX0_writeMotion_276 : decode cX0_writeMotion 276 = .ok (.aload_n 0, 1) := by decide +kernel
theorem dX0_writeMotion_277 : decode cX0_writeMotion 277 = .ok (.getfield 29, 3) := by decide +kernel
theorem dX0_writeMotion_280 : decode cX0_writeMotion 280 = .ok (.bipush 8, 2) := by decide +kernel
theorem dX0_writeMotion_282 : decode cX0_writeMotion 282 = .ok (.aload_n 0, 1) := by decide +kernel
theorem dX0_writeMotion_283 : decode cX0_writeMotion 283 = .ok (.getfield 36, 3) := by decide +kernel
theorem dX0_writeMotion_286 : decode cX0_writeMotion 286 = .ok (.getfield 429, 3) := by decide +kernel
theorem dX0_writeMotion_289 : decode cX0_writeMotion 289 = .ok (.iconst 2, 1) := by decide +kernel
theorem dX0_writeMotion_290 : decode cX0_writeMotion 290 = .ok (.bipush 16, 2) := by decide +kernel
theorem dX0_writeMotion_292 : decode cX0_writeMotion 292 = .ok (.iload 4, 2) := by decide +kernel
theorem dX0_writeMotion_294 : decode cX0_writeMotion 294 = .ok (.imul, 1) := by decide +kernel
theorem dX0_writeMotion_295 : decode cX0_writeMotion 295 = .ok (.iload 5, 2) := by decide +kernel
theorem dX0_writeMotion_297 : decode cX0_writeMotion 297 = .ok (.iadd, 1) := by decide +kernel
theorem dX0_writeMotion_298 : decode cX0_writeMotion 298 = .ok (.imul, 1) := by decide +kernel
theorem dX0_writeMotion_299 : decode cX0_writeMotion 299 = .ok (.iconst 1, 1) := by decide +kernel
theorem dX0_writeMotion_300 : decode cX0_writeMotion 300 = .ok (.iadd, 1) := by decide +kernel
theorem dX0_writeMotion_301 : decode cX0_writeMotion 301 = .ok (.iaload, 1) := by decide +kernel
theorem dX0_writeMotion_302 : decode cX0_writeMotion 302 = .ok (.invokevirtual 169, 3) := by decide +kernel
theorem dX0_writeMotion_305 : decode cX0_writeMotion 305 = .ok (.iinc 5 1, 3) := by decide +kernel
theorem dX0_writeMotion_308 : decode cX0_writeMotion 308 = .ok (.goto (-94), 3) := by decide +kernel
theorem dX0_writeMotion_311 : decode cX0_writeMotion 311 = .ok (.iinc 4 1, 3) := by decide +kernel
theorem dX0_writeMotion_314 : decode cX0_writeMotion 314 = .ok (.goto (-109), 3) := by decide +kernel
theorem dX0_writeMotion_317 : decode cX0_writeMotion 317 = .ok (.return_, 1) := by decide +kernel
noncomputable def FX0_writeMotion (G : GG) (M : DD) (a : Nat) (p0 : Int32) : Option (NN × DD) :=
  dr (xt G []) 9 ((M.2 a 3)) fun b2 =>
  dr (xt G []) 3 ((M.2 b2 1)) fun b3 =>
  dr (xt G []) 13 ((M.2 b3 0)) fun b4 =>
  chk (¬ (((1 : Int32)) < 0 ∨ (xt G []).2.2 b4 ≤ ((1 : Int32)).toNatClampNeg)) <|
  ltt (M.1 b4 ((1 : Int32)).toNatClampNeg) fun x5 =>
  ltt ((((8 : Int32)) * p0)) fun x6 =>
  ltt ((x6 + ((1 : Int32)))) fun x7 =>
  dr (xt G []) 13 ((M.2 b2 6)) fun b8 =>
  chk (¬ (x7 < 0 ∨ (xt G []).2.2 b8 ≤ x7.toNatClampNeg)) <|
  ltt (M.1 b8 x7.toNatClampNeg) fun x9 =>
  ltt ((((8 : Int32)) * p0)) fun x10 =>
  ltt ((x10 + ((0 : Int32)))) fun x11 =>
  chk (¬ (x11 < 0 ∨ (xt G []).2.2 b8 ≤ x11.toNatClampNeg)) <|
  ltt (M.1 b8 x11.toNatClampNeg) fun x12 =>
  if x12 = ((3 : Int32)) then (if x9 < ((0 : Int32)) then (some ([], M)) else
  (if x5 = ((1 : Int32)) then (if x9 = ((0 : Int32)) then (some ([], M)) else
  (bnd (FX9_plan (xt G []) M b2 x5 x9) fun y139 =>
  bnd (itrA (fun (s141 : NN × Int32 × DD) => ((if ((2 : Int32)) ≤ s141.2.1 then (some ([], .inr ((s141.2.1, s141.2.2)))) else
  (dr (xt G s141.1) 9 ((s141.2.2.2 a 3)) fun b213 =>
  dr (xt G s141.1) 3 ((s141.2.2.2 b213 1)) fun b214 =>
  ltt ((((9 : Int32)) + s141.2.1)) fun x215 =>
  dr (xt G s141.1) 13 ((s141.2.2.2 b214 0)) fun b216 =>
  chk (¬ (x215 < 0 ∨ (xt G s141.1).2.2 b216 ≤ x215.toNatClampNeg)) <|
  ltt (s141.2.2.1 b216 x215.toNatClampNeg) fun x217 =>
  bnd (itrA (fun (s219 : NN × Int32 × DD) => ((dr (xt G s219.1) 9 ((s219.2.2.2 a 3)) fun b229 =>
  ltt (s219.2.2.1 b229 16) fun x230 =>
  if x230 ≤ s219.2.1 then (some ([], .inr ((s219.2.1, s219.2.2)))) else
  (if x217 ≤ ((1 : Int32)) then (some ([], .inr ((s219.2.1, s219.2.2)))) else
  (ltt ((((4 : Int32)) * s219.2.1)) fun x233 =>
  ltt ((x233 + ((3 : Int32)))) fun x234 =>
  dr (xt G s219.1) 13 ((s219.2.2.2 b229 15)) fun b235 =>
  chk (¬ (x234 < 0 ∨ (xt G s219.1).2.2 b235 ≤ x234.toNatClampNeg)) <|
  ltt (s219.2.2.1 b235 x234.toNatClampNeg) fun x236 =>
  ltt ((x236 >>> (s141.2.1 &&& 31))) fun x237 =>
  ltt ((x237 &&& ((1 : Int32)))) fun x238 =>
  bnd (if x238 = ((1 : Int32)) then (ltt ((((16 : Int32)) * p0)) fun x246 =>
  ltt ((((4 : Int32)) * s219.2.1)) fun x247 =>
  chk (¬ (x247 < 0 ∨ (xt G s219.1).2.2 b235 ≤ x247.toNatClampNeg)) <|
  ltt (s219.2.2.1 b235 x247.toNatClampNeg) fun x248 =>
  ltt ((x246 + x248)) fun x249 =>
  ltt ((x217 - ((1 : Int32)))) fun x250 =>
  dr (xt G s219.1) 4 ((s219.2.2.2 b229 0)) fun b251 =>
  bnd (FX4_at (xt G s219.1) s219.2.2 s141.2.1 x249) fun y252 =>
  dr (xt G s219.1) 13 ((s219.2.2.2 b251 5)) fun b253 =>
  chk (¬ (y252.2 < 0 ∨ (xt G s219.1).2.2 b253 ≤ y252.2.toNatClampNeg)) <|
  ltt (y252.1.1 b253 y252.2.toNatClampNeg) fun x254 =>
  dr (xt G s219.1) 10 ((s219.2.2.2 a 2)) fun b255 =>
  bnd (FX10_te (xt G s219.1) y252.1 b255 ((6 : Int32)) x250 x254) fun y256 =>
  app y256.1 <|
  ltt (s219.1 ++ y256.1) fun L258 =>
  some ([], y256.2)) else
  (some ([], s219.2.2))) fun (y239 : NN × DD) =>
  app y239.1 <|
  ltt (s219.1 ++ y239.1) fun L241 =>
  ltt (s219.2.1 + (1 : Int32)) fun x243 =>
  some ([], .inl (L241, (x243, y239.2)))))) : Option (NN × ((NN × Int32 × DD) ⊕ (Int32 × DD))))) 1000000 (s141.1, ((0 : Int32), s141.2.2))) fun (y218 : NN × Int32 × DD) =>
  app y218.1 <|
  ltt (s141.1 ++ y218.1) fun L221 =>
  ltt (s141.2.1 + (1 : Int32)) fun x223 =>
  some ([], .inl (L221, (x223, y218.2.2))))) : Option (NN × ((NN × Int32 × DD) ⊕ (Int32 × DD))))) 1000000 ([], ((0 : Int32), y139))) fun (y140 : NN × Int32 × DD) =>
  app y140.1 <|
  ltt ([] ++ y140.1) fun L143 =>
  bnd (itrA (fun (s146 : NN × Int32 × DD) => ((if ((2 : Int32)) ≤ s146.2.1 then (some ([], .inr ((s146.2.1, s146.2.2)))) else
  (bnd (itrA (fun (s157 : NN × Int32 × DD) => ((dr (xt G s157.1) 9 ((s157.2.2.2 a 3)) fun b167 =>
  ltt (s157.2.2.1 b167 14) fun x168 =>
  if x168 ≤ s157.2.1 then (some ([], .inr ((s157.2.1, s157.2.2)))) else
  (ltt ((((5 : Int32)) * s157.2.1)) fun x170 =>
  ltt ((x170 + ((3 : Int32)))) fun x171 =>
  dr (xt G s157.1) 13 ((s157.2.2.2 b167 13)) fun b172 =>
  chk (¬ (x171 < 0 ∨ (xt G s157.1).2.2 b172 ≤ x171.toNatClampNeg)) <|
  ltt (s157.2.2.1 b172 x171.toNatClampNeg) fun x173 =>
  ltt ((x173 >>> (s146.2.1 &&& 31))) fun x174 =>
  ltt ((x174 &&& ((1 : Int32)))) fun x175 =>
  bnd (if x175 = ((1 : Int32)) then (ltt ((((16 : Int32)) * s146.2.1)) fun x183 =>
  ltt ((x183 + s157.2.1)) fun x184 =>
  ltt ((((2 : Int32)) * x184)) fun x185 =>
  dr (xt G s157.1) 13 ((s157.2.2.2 b167 17)) fun b186 =>
  chk (¬ (x185 < 0 ∨ (xt G s157.1).2.2 b186 ≤ x185.toNatClampNeg)) <|
  ltt (s157.2.2.1 b186 x185.toNatClampNeg) fun x187 =>
  dr (xt G s157.1) 10 ((s157.2.2.2 a 2)) fun b188 =>
  bnd (FX10_se (xt G s157.1) s157.2.2 b188 ((7 : Int32)) x187) fun y189 =>
  app y189.1 <|
  ltt (s157.1 ++ y189.1) fun L191 =>
  dr (xt G L191) 9 ((y189.2.2 a 3)) fun b194 =>
  ltt ((((16 : Int32)) * s146.2.1)) fun x195 =>
  ltt ((x195 + s157.2.1)) fun x196 =>
  ltt ((((2 : Int32)) * x196)) fun x197 =>
  ltt ((x197 + ((1 : Int32)))) fun x198 =>
  dr (xt G L191) 13 ((y189.2.2 b194 17)) fun b199 =>
  chk (¬ (x198 < 0 ∨ (xt G L191).2.2 b199 ≤ x198.toNatClampNeg)) <|
  ltt (y189.2.1 b199 x198.toNatClampNeg) fun x200 =>
  dr (xt G L191) 10 ((y189.2.2 a 2)) fun b201 =>
  bnd (FX10_se (xt G L191) y189.2 b201 ((8 : Int32)) x200) fun y202 =>
  app y202.1 <|
  ltt (L191 ++ y202.1) fun L204 =>
  some ([], y202.2)) else
  (some ([], s157.2.2))) fun (y176 : NN × DD) =>
  app y176.1 <|
  ltt (s157.1 ++ y176.1) fun L178 =>
  ltt (s157.2.1 + (1 : Int32)) fun x180 =>
  some ([], .inl (L178, (x180, y176.2))))) : Option (NN × ((NN × Int32 × DD) ⊕ (Int32 × DD))))) 1000000 (s146.1, ((0 : Int32), s146.2.2))) fun (y156 : NN × Int32 × DD) =>
  app y156.1 <|
  ltt (s146.1 ++ y156.1) fun L159 =>
  ltt (s146.2.1 + (1 : Int32)) fun x161 =>
  some ([], .inl (L159, (x161, y156.2.2))))) : Option (NN × ((NN × Int32 × DD) ⊕ (Int32 × DD))))) 1000000 (L143, ((0 : Int32), y140.2.2))) fun (y145 : NN × Int32 × DD) =>
  app y145.1 <|
  ltt (L143 ++ y145.1) fun L148 =>
  some ([], y145.2.2))) else
  (bnd (FX9_plan (xt G []) M b2 x5 x9) fun y16 =>
  bnd (itrA (fun (s18 : NN × Int32 × DD) => ((if ((2 : Int32)) ≤ s18.2.1 then (some ([], .inr ((s18.2.1, s18.2.2)))) else
  (dr (xt G s18.1) 9 ((s18.2.2.2 a 3)) fun b90 =>
  dr (xt G s18.1) 3 ((s18.2.2.2 b90 1)) fun b91 =>
  ltt ((((9 : Int32)) + s18.2.1)) fun x92 =>
  dr (xt G s18.1) 13 ((s18.2.2.2 b91 0)) fun b93 =>
  chk (¬ (x92 < 0 ∨ (xt G s18.1).2.2 b93 ≤ x92.toNatClampNeg)) <|
  ltt (s18.2.2.1 b93 x92.toNatClampNeg) fun x94 =>
  bnd (itrA (fun (s96 : NN × Int32 × DD) => ((dr (xt G s96.1) 9 ((s96.2.2.2 a 3)) fun b106 =>
  ltt (s96.2.2.1 b106 16) fun x107 =>
  if x107 ≤ s96.2.1 then (some ([], .inr ((s96.2.1, s96.2.2)))) else
  (if x94 ≤ ((1 : Int32)) then (some ([], .inr ((s96.2.1, s96.2.2)))) else
  (ltt ((((4 : Int32)) * s96.2.1)) fun x110 =>
  ltt ((x110 + ((3 : Int32)))) fun x111 =>
  dr (xt G s96.1) 13 ((s96.2.2.2 b106 15)) fun b112 =>
  chk (¬ (x111 < 0 ∨ (xt G s96.1).2.2 b112 ≤ x111.toNatClampNeg)) <|
  ltt (s96.2.2.1 b112 x111.toNatClampNeg) fun x113 =>
  ltt ((x113 >>> (s18.2.1 &&& 31))) fun x114 =>
  ltt ((x114 &&& ((1 : Int32)))) fun x115 =>
  bnd (if x115 = ((1 : Int32)) then (ltt ((((16 : Int32)) * p0)) fun x123 =>
  ltt ((((4 : Int32)) * s96.2.1)) fun x124 =>
  chk (¬ (x124 < 0 ∨ (xt G s96.1).2.2 b112 ≤ x124.toNatClampNeg)) <|
  ltt (s96.2.2.1 b112 x124.toNatClampNeg) fun x125 =>
  ltt ((x123 + x125)) fun x126 =>
  ltt ((x94 - ((1 : Int32)))) fun x127 =>
  dr (xt G s96.1) 4 ((s96.2.2.2 b106 0)) fun b128 =>
  bnd (FX4_at (xt G s96.1) s96.2.2 s18.2.1 x126) fun y129 =>
  dr (xt G s96.1) 13 ((s96.2.2.2 b128 5)) fun b130 =>
  chk (¬ (y129.2 < 0 ∨ (xt G s96.1).2.2 b130 ≤ y129.2.toNatClampNeg)) <|
  ltt (y129.1.1 b130 y129.2.toNatClampNeg) fun x131 =>
  dr (xt G s96.1) 10 ((s96.2.2.2 a 2)) fun b132 =>
  bnd (FX10_te (xt G s96.1) y129.1 b132 ((6 : Int32)) x127 x131) fun y133 =>
  app y133.1 <|
  ltt (s96.1 ++ y133.1) fun L135 =>
  some ([], y133.2)) else
  (some ([], s96.2.2))) fun (y116 : NN × DD) =>
  app y116.1 <|
  ltt (s96.1 ++ y116.1) fun L118 =>
  ltt (s96.2.1 + (1 : Int32)) fun x120 =>
  some ([], .inl (L118, (x120, y116.2)))))) : Option (NN × ((NN × Int32 × DD) ⊕ (Int32 × DD))))) 1000000 (s18.1, ((0 : Int32), s18.2.2))) fun (y95 : NN × Int32 × DD) =>
  app y95.1 <|
  ltt (s18.1 ++ y95.1) fun L98 =>
  ltt (s18.2.1 + (1 : Int32)) fun x100 =>
  some ([], .inl (L98, (x100, y95.2.2))))) : Option (NN × ((NN × Int32 × DD) ⊕ (Int32 × DD))))) 1000000 ([], ((0 : Int32), y16))) fun (y17 : NN × Int32 × DD) =>
  app y17.1 <|
  ltt ([] ++ y17.1) fun L20 =>
  bnd (itrA (fun (s23 : NN × Int32 × DD) => ((if ((2 : Int32)) ≤ s23.2.1 then (some ([], .inr ((s23.2.1, s23.2.2)))) else
  (bnd (itrA (fun (s34 : NN × Int32 × DD) => ((dr (xt G s34.1) 9 ((s34.2.2.2 a 3)) fun b44 =>
  ltt (s34.2.2.1 b44 14) fun x45 =>
  if x45 ≤ s34.2.1 then (some ([], .inr ((s34.2.1, s34.2.2)))) else
  (ltt ((((5 : Int32)) * s34.2.1)) fun x47 =>
  ltt ((x47 + ((3 : Int32)))) fun x48 =>
  dr (xt G s34.1) 13 ((s34.2.2.2 b44 13)) fun b49 =>
  chk (¬ (x48 < 0 ∨ (xt G s34.1).2.2 b49 ≤ x48.toNatClampNeg)) <|
  ltt (s34.2.2.1 b49 x48.toNatClampNeg) fun x50 =>
  ltt ((x50 >>> (s23.2.1 &&& 31))) fun x51 =>
  ltt ((x51 &&& ((1 : Int32)))) fun x52 =>
  bnd (if x52 = ((1 : Int32)) then (ltt ((((16 : Int32)) * s23.2.1)) fun x60 =>
  ltt ((x60 + s34.2.1)) fun x61 =>
  ltt ((((2 : Int32)) * x61)) fun x62 =>
  dr (xt G s34.1) 13 ((s34.2.2.2 b44 17)) fun b63 =>
  chk (¬ (x62 < 0 ∨ (xt G s34.1).2.2 b63 ≤ x62.toNatClampNeg)) <|
  ltt (s34.2.2.1 b63 x62.toNatClampNeg) fun x64 =>
  dr (xt G s34.1) 10 ((s34.2.2.2 a 2)) fun b65 =>
  bnd (FX10_se (xt G s34.1) s34.2.2 b65 ((7 : Int32)) x64) fun y66 =>
  app y66.1 <|
  ltt (s34.1 ++ y66.1) fun L68 =>
  dr (xt G L68) 9 ((y66.2.2 a 3)) fun b71 =>
  ltt ((((16 : Int32)) * s23.2.1)) fun x72 =>
  ltt ((x72 + s34.2.1)) fun x73 =>
  ltt ((((2 : Int32)) * x73)) fun x74 =>
  ltt ((x74 + ((1 : Int32)))) fun x75 =>
  dr (xt G L68) 13 ((y66.2.2 b71 17)) fun b76 =>
  chk (¬ (x75 < 0 ∨ (xt G L68).2.2 b76 ≤ x75.toNatClampNeg)) <|
  ltt (y66.2.1 b76 x75.toNatClampNeg) fun x77 =>
  dr (xt G L68) 10 ((y66.2.2 a 2)) fun b78 =>
  bnd (FX10_se (xt G L68) y66.2 b78 ((8 : Int32)) x77) fun y79 =>
  app y79.1 <|
  ltt (L68 ++ y79.1) fun L81 =>
  some ([], y79.2)) else
  (some ([], s34.2.2))) fun (y53 : NN × DD) =>
  app y53.1 <|
  ltt (s34.1 ++ y53.1) fun L55 =>
  ltt (s34.2.1 + (1 : Int32)) fun x57 =>
  some ([], .inl (L55, (x57, y53.2))))) : Option (NN × ((NN × Int32 × DD) ⊕ (Int32 × DD))))) 1000000 (s23.1, ((0 : Int32), s23.2.2))) fun (y33 : NN × Int32 × DD) =>
  app y33.1 <|
  ltt (s23.1 ++ y33.1) fun L36 =>
  ltt (s23.2.1 + (1 : Int32)) fun x38 =>
  some ([], .inl (L36, (x38, y33.2.2))))) : Option (NN × ((NN × Int32 × DD) ⊕ (Int32 × DD))))) 1000000 (L20, ((0 : Int32), y17.2.2))) fun (y22 : NN × Int32 × DD) =>
  app y22.1 <|
  ltt (L20 ++ y22.1) fun L25 =>
  some ([], y22.2.2)))) else
  (some ([], M))
set_option maxHeartbeats 4000000 in
set_option maxRecDepth 100000 in
theorem kX0_writeMotion (l : Launch) (D : va_G) (ct : CT) (ad : Nat → Nat) (Z : Nat → Nat) (G : GG) (M : DD) (sz : Nat) (a : Nat) (p0 : Int32) (y : NN × DD) (hc : a < G.1) (hk : G.2.1 a = 0) (hF : FX0_writeMotion G M a p0 = some y) : Met l yX0_writeMotion wuX0_writeMotion ({ frames := 6, cells := y.1.length, slots := wt y.1, locals := 198 }) (va_Pc [.ref (ad a), .int p0] (kB D ct ad Z G M sz)) (va_Qv (fun (u : Nat → Nat) => agr G.1 ad u) (fun u t => kE D ct u (xt G y.1) (wA ad G sz) y.2 t) (wA ad G sz)) y.1.length (wt y.1) (wA ad G sz) := by
  refine Met.ofW (cc := cX0_writeMotion) (maxL := 8) (ret := none) (by decide) rfl ?_
  intro p e s m args below meth c s₁ B hml hv
  obtain ⟨rfl, hsz, hP, hK, hD0, hZ, hN⟩ := hv
  have hx := B.exec
  have hb := B.bytes
  have hr := B.returns
  have hts := atoms_spec (ws := wuX0_writeMotion) B.pre
  have hown : s.vm.findClass RX0 = some m.cls := findClass_of_methodNamed B.named
  have hlocks := B.notSynchronized
  subst hsz
  have hD := wD_self (sz := s.heap.size) hD0
  have hA9 : ∀ q, s.heap.size ≤ q → wA ad G s.heap.size q := fun q h => Or.inr h
  generalize hAe : wA ad G s.heap.size = A at hD hA9 hZ ⊢
  have hS : va_S A s.heap s.heap [] := va_S.rf
  have hl := lv_entry ([.ref (ad a), .int p0]) (n := 8) (Nat.le_of_ble_eq_true rfl)
  rw [lg_entry_eq]
  generalize (lg_sl ([.ref (ad a), .int p0]) ++ List.replicate (8 - (lg_sl ([.ref (ad a), .int p0])).length) Slot.unset).toArray = ls at hl ⊢
  have hl : lv_has ls 8 [(0, .ref (ad a)), (1, .int p0)] := hl
  unfold FX0_writeMotion at hF
  rw [← wld_0 ct ad G M] at hP hD
  have hk := xt_k0 hc hk
  have hc := xt_l0 hc
  have hag := agr_rf G.1 ad
  obtain ⟨w0, hw0⟩ : ∃ z, z = y := ⟨_, rfl⟩
  rw [← hw0] at hF
  have hT : y.1 = [] ++ w0.1 := by rw [hw0]; rfl
  have h2 : y.2 = w0.2 := by rw [hw0]
  have hbl : y.1.length ≤ y.1.length ∧ wt y.1 ≤ wt y.1 := ⟨Nat.le_refl _, Nat.le_refl _⟩
  refine lv_aload_n hx hb dX0_writeMotion_0 rfl (lv_at hl 0 rfl) ?_
  refine va_get (D := D) (ci := 0) (v := va_re ad (M.2 a 3)) (C := RX0) (T := TX0) (N := 21) hx hb hts (mus hf_X0) hown hK hP a (wld_o ct ad (xt G []) M hc hk (by decide)) rfl 3 (by decide) (hts (.fieldLink RX0 36 "VideoSuite$Coder" "work" "LVideoSuite$Work;") (mu mw_817)) (fun _ h9 => h9) rfl dX0_writeMotion_1 ?_
  obtain ⟨b2, ho2, hc2, hk2, hF⟩ := dr_some hF
  refine W_st (st' := [.ref (ad b2)]) (by rw [va_some ho2]) ?_
  refine va_get (D := D) (ci := 9) (v := va_re ad (M.2 b2 1)) (C := RX9) (T := TX9) (N := 20) hx hb hts (mus hf_X9) hown hK hP b2 (wld_o ct ad (xt G []) M hc2 hk2 (by decide)) rfl 1 (by decide) (hts (.fieldLink RX0 81 "VideoSuite$Work" "head" "LVideoSuite$Header;") (mu mw_425)) (fun _ h9 => h9) rfl dX0_writeMotion_4 ?_
  obtain ⟨b3, ho3, hc3, hk3, hF⟩ := dr_some hF
  refine W_st (st' := [.ref (ad b3)]) (by rw [va_some ho3]) ?_
  refine va_get (D := D) (ci := 3) (v := va_re ad (M.2 b3 0)) (C := RX3) (T := TX3) (N := 4) hx hb hts (mus hf_X3) hown hK hP b3 (wld_o ct ad (xt G []) M hc3 hk3 (by decide)) rfl 0 (by decide) (hts (.fieldLink RX0 252 "VideoSuite$Header" "v" "[I") (mu mw_620)) (fun _ h9 => h9) rfl dX0_writeMotion_7 ?_
  refine lv_iconst (v := (1 : Int32)) hx hb dX0_writeMotion_10 (by decide) ?_
  obtain ⟨b4, ho4, hc4, hk4, hF⟩ := dr_some hF
  refine W_st (st' := [.int (1 : Int32), .ref (ad b4)]) (by rw [va_some ho4]) ?_
  obtain ⟨hvc, hF⟩ := chk_some hF
  refine va_iald hx hb hK hP b4 1 (wld_i ct ad (xt G []) M hc4 hk4) rfl hvc dX0_writeMotion_11 ?_
  obtain ⟨x5, ex5, hF⟩ := ltt_some hF
  refine lv_topi (fun zx5 ezx5 => ?_)
  obtain rfl : x5 = zx5 := ex5.trans ezx5.symm
  refine lv_istore_n (lv' := [(2, .int x5), (0, .ref (ad a)), (1, .int p0)]) hx hb dX0_writeMotion_12 rfl hl (by decide) rfl (fun ls hl => ?_)
  refine lv_aload_n hx hb dX0_writeMotion_13 rfl (lv_at hl 1 rfl) ?_
  refine va_get (D := D) (ci := 0) (v := va_re ad (M.2 a 3)) (C := RX0) (T := TX0) (N := 21) hx hb hts (mus hf_X0) hown hK hP a (wld_o ct ad (xt G []) M hc hk (by decide)) rfl 3 (by decide) (hts (.fieldLink RX0 36 "VideoSuite$Coder" "work" "LVideoSuite$Work;") (mu mw_817)) (fun _ h9 => h9) rfl dX0_writeMotion_14 ?_
  refine W_st (st' := [.ref (ad b2)]) (by rw [va_some ho2]) ?_
  refine va_get (D := D) (ci := 9) (v := va_re ad (M.2 b2 6)) (C := RX9) (T := TX9) (N := 20) hx hb hts (mus hf_X9) hown hK hP b2 (wld_o ct ad (xt G []) M hc2 hk2 (by decide)) rfl 6 (by decide) (hts (.fieldLink RX0 216 "VideoSuite$Work" "info" "[I") (mu mw_445)) (fun _ h9 => h9) rfl dX0_writeMotion_17 ?_
  refine lv_bipush (v := (8 : Int32)) hx hb dX0_writeMotion_20 (by decide) ?_
  refine lv_iload_n hx hb dX0_writeMotion_22 rfl (lv_at hl 2 rfl) ?_
  refine lv_imul hx hb dX0_writeMotion_23 ?_
  obtain ⟨x6, ex6, hF⟩ := ltt_some hF
  refine lv_topi (fun zx6 ezx6 => ?_)
  obtain rfl : x6 = zx6 := ex6.trans ezx6.symm
  refine lv_iconst (v := (1 : Int32)) hx hb dX0_writeMotion_24 (by decide) ?_
  refine lv_iadd hx hb dX0_writeMotion_25 ?_
  obtain ⟨x7, ex7, hF⟩ := ltt_some hF
  refine lv_topi (fun zx7 ezx7 => ?_)
  obtain rfl : x7 = zx7 := ex7.trans ezx7.symm
  obtain ⟨b8, ho8, hc8, hk8, hF⟩ := dr_some hF
  refine W_st (st' := [.int x7, .ref (ad b8)]) (by rw [va_some ho8]) ?_
  obtain ⟨hvc, hF⟩ := chk_some hF
  refine va_iald hx hb hK hP b8 1 (wld_i ct ad (xt G []) M hc8 hk8) rfl hvc dX0_writeMotion_26 ?_
  obtain ⟨x9, ex9, hF⟩ := ltt_some hF
  refine lv_topi (fun zx9 ezx9 => ?_)
  obtain rfl : x9 = zx9 := ex9.trans ezx9.symm
  refine lv_istore_n (lv' := [(3, .int x9), (2, .int x5), (0, .ref (ad a)), (1, .int p0)]) hx hb dX0_writeMotion_27 rfl hl (by decide) rfl (fun ls hl => ?_)
  refine lv_aload_n hx hb dX0_writeMotion_28 rfl (lv_at hl 2 rfl) ?_
  refine va_get (D := D) (ci := 0) (v := va_re ad (M.2 a 3)) (C := RX0) (T := TX0) (N := 21) hx hb hts (mus hf_X0) hown hK hP a (wld_o ct ad (xt G []) M hc hk (by decide)) rfl 3 (by decide) (hts (.fieldLink RX0 36 "VideoSuite$Coder" "work" "LVideoSuite$Work;") (mu mw_817)) (fun _ h9 => h9) rfl dX0_writeMotion_29 ?_
  refine W_st (st' := [.ref (ad b2)]) (by rw [va_some ho2]) ?_
  refine va_get (D := D) (ci := 9) (v := va_re ad (M.2 b2 6)) (C := RX9) (T := TX9) (N := 20) hx hb hts (mus hf_X9) hown hK hP b2 (wld_o ct ad (xt G []) M hc2 hk2 (by decide)) rfl 6 (by decide) (hts (.fieldLink RX0 216 "VideoSuite$Work" "info" "[I") (mu mw_445)) (fun _ h9 => h9) rfl dX0_writeMotion_32 ?_
  refine lv_bipush (v := (8 : Int32)) hx hb dX0_writeMotion_35 (by decide) ?_
  refine lv_iload_n hx hb dX0_writeMotion_37 rfl (lv_at hl 3 rfl) ?_
  refine lv_imul hx hb dX0_writeMotion_38 ?_
  obtain ⟨x10, ex10, hF⟩ := ltt_some hF
  refine lv_topi (fun zx10 ezx10 => ?_)
  obtain rfl : x10 = zx10 := ex10.trans ezx10.symm
  refine lv_iconst (v := (0 : Int32)) hx hb dX0_writeMotion_39 (by decide) ?_
  refine lv_iadd hx hb dX0_writeMotion_40 ?_
  obtain ⟨x11, ex11, hF⟩ := ltt_some hF
  refine lv_topi (fun zx11 ezx11 => ?_)
  obtain rfl : x11 = zx11 := ex11.trans ezx11.symm
  refine W_st (st' := [.int x11, .ref (ad b8)]) (by rw [va_some ho8]) ?_
  obtain ⟨hvc, hF⟩ := chk_some hF
  refine va_iald hx hb hK hP b8 1 (wld_i ct ad (xt G []) M hc8 hk8) rfl hvc dX0_writeMotion_41 ?_
  obtain ⟨x12, ex12, hF⟩ := ltt_some hF
  refine lv_topi (fun zx12 ezx12 => ?_)
  obtain rfl : x12 = zx12 := ex12.trans ezx12.symm
  refine lv_iconst (v := (3 : Int32)) hx hb dX0_writeMotion_42 (by decide) ?_
  refine lv_icmp_ne (tgt := 59) hx hb dX0_writeMotion_43 (by decide) (fun c13 => ?_) (fun c13 => ?_)
  · rw [if_neg c13] at hF
    obtain rfl := Option.some.inj hF
    have e1 : y.1 = [] := by rw [hT]; exact List.append_nil _
    have e2 : y.2 = M := h2
    refine W.widen (k := y.1.length) (n := wt y.1) (Nat.le_of_eq (by rw [e1])) (Nat.le_of_eq (by rw [e1])) ?_
    exact W.vret hx hb hr (fun t ht hW => ⟨⟨ad, rfl, hag, (by unfold kE; rw [e1, e2]; exact ⟨by rw [ht]; exact hP, va_K.moved hW.alike hK, hD⟩)⟩, hS.F ht⟩) hS.2.2 dX0_writeMotion_59
  · rw [if_pos c13] at hF
    refine lv_iload_n hx hb dX0_writeMotion_46 rfl (lv_at hl 0 rfl) ?_
    refine lv_if_lt (tgt := 59) hx hb dX0_writeMotion_47 (by decide) (fun c14 => ?_) (fun c14 => ?_)
    · rw [if_pos c14] at hF
      obtain rfl := Option.some.inj hF
      have e1 : y.1 = [] := by rw [hT]; exact List.append_nil _
      have e2 : y.2 = M := h2
      refine W.widen (k := y.1.length) (n := wt y.1) (Nat.le_of_eq (by rw [e1])) (Nat.le_of_eq (by rw [e1])) ?_
      exact W.vret hx hb hr (fun t ht hW => ⟨⟨ad, rfl, hag, (by unfold kE; rw [e1, e2]; exact ⟨by rw [ht]; exact hP, va_K.moved hW.alike hK, hD⟩)⟩, hS.F ht⟩) hS.2.2 dX0_writeMotion_59
    · rw [if_neg c14] at hF
      refine lv_iload_n hx hb dX0_writeMotion_50 rfl (lv_at hl 1 rfl) ?_
      refine lv_iconst (v := (1 : Int32)) hx hb dX0_writeMotion_51 (by decide) ?_
      refine lv_icmp_ne (tgt := 60) hx hb dX0_writeMotion_52 (by decide) (fun c15 => ?_) (fun c15 => ?_)
      · rw [if_neg c15] at hF
        refine lv_aload_n hx hb dX0_writeMotion_60 rfl (lv_at hl 2 rfl) ?_
        refine va_get (D := D) (ci := 0) (v := va_re ad (M.2 a 3)) (C := RX0) (T := TX0) (N := 21) hx hb hts (mus hf_X0) hown hK hP a (wld_o ct ad (xt G []) M hc hk (by decide)) rfl 3 (by decide) (hts (.fieldLink RX0 36 "VideoSuite$Coder" "work" "LVideoSuite$Work;") (mu mw_817)) (fun _ h9 => h9) rfl dX0_writeMotion_61 ?_
        refine lv_iload_n hx hb dX0_writeMotion_64 rfl (lv_at hl 1 rfl) ?_
        refine lv_iload_n hx hb dX0_writeMotion_65 rfl (lv_at hl 0 rfl) ?_
        refine W_st (st' := [.int x9, .int x5, .ref (ad b2)]) (by rw [va_some ho2]) ?_
        obtain ⟨y16, hy16, hF⟩ := bnd_some hF
        have hf9 := wA_in hD hA9 hS
        refine va_callv (va_runV (As := [.int x5, .int x9]) (rest := []) ⟨hx, hb, hml, hown, hts⟩ (kX9_plan l D ct ad Z (xt G []) M s.heap.size b2 x5 x9 y16 hc2 hk2 hy16) (cwV 2 hts gX0_writeMotion_X9_plan rfl rfl rfl (by decide +kernel) ⟨Nat.le_of_ble_eq_true rfl, Nat.le_of_ble_eq_true rfl⟩) ⟨fun a U g mk q => by obtain ⟨q0, q1, qP, qK, qD, qZ, qN⟩ := q; exact ⟨q0, q1, qP, va_K.moved (u := U) (U := U.calling g mk a) (Vm.Alike.refl U.vm) qK, qD, sF.moved (u := U) (U := U.calling g mk a) (Vm.Alike.refl U.vm) qZ, nF.same rfl qN⟩, va_recv hK hP (ci := 9) (q0 := b2) rfl (wld_o ct ad (xt G []) M hc2 hk2 (by decide)), fun U hU hW => ⟨rfl, by rw [hU], by rw [hU]; exact hP, va_K.moved hW.alike hK, hD.weaken (fun _ _ _ _ => trivial), by rw [hU]; exact ((hZ.kept hS.2.1).narrow hf9).moved hW.alike, hN.warm hW⟩⟩ rfl rfl hl.1 rfl (lv_room (Nat.le_of_ble_eq_true rfl)) dX0_writeMotion_66 (room_d hT hbl)) hS (fun q _ h => hf9 q h) hf9 (fun u t H locs ht hvm hw hB hz1 hk1 hS => ?_)
        obtain ⟨hP, hK9, hD9⟩ := hB
        rw [ht] at hP
        refine W_cs (k := ([] : NN).length) (n := wt []) rfl rfl ?_
        have hD := hD9.weaken (fun _ q _ h => hf9 q.1 h)
        refine lv_iconst (v := (0 : Int32)) hx hb dX0_writeMotion_69 (by decide) ?_
        refine lv_istore (lv' := [(4, .int (0 : Int32)), (3, .int x9), (2, .int x5), (0, .ref (ad a)), (1, .int p0)]) hx hb dX0_writeMotion_70 hl (by decide) rfl (fun ls hl => ?_)
        obtain ⟨y17, hy17, hF⟩ := bnd_some hF
        obtain ⟨w19, hF, ew19⟩ := app_some hF
        obtain ⟨L20, eL20, hF⟩ := ltt_some hF
        have hT20 : y.1 = ([] ++ y17.1) ++ w19.1 := by rw [hT, ew19]; simp only [List.append_assoc]
        have hbl20 : L20.length ≤ y.1.length ∧ wt L20 ≤ wt y.1 := by rw [eL20]; exact room_d hT20 hbl
        have K17 : ∀ (ad21 : Nat → Nat), agr G.1 ad ad21 → ∀ (H : Heap) (locs : List Loc) (ls : Array Slot), va_P D classes (wld ct ad21 (xt G L20) y17.2.2) H → va_D A (wld ct ad21 (xt G L20) y17.2.2) → va_S A s.heap H locs → lv_has ls 8 [(0, .ref (ad21 a))] → W p l e (headSpec wuX0_writeMotion ({ frames := 6, cells := y.1.length, slots := wt y.1, locals := 198 })).room s m ([.ref (ad a), .int p0] : List Value).toArray below meth c H locs (L20 : NN).length (wt L20) (MQ below (va_Qv (fun (u : Nat → Nat) => agr G.1 ad u) (fun u t => kE D ct u (xt G y.1) A y.2 t) A) ([.ref (ad a), .int p0] : List Value).toArray s y.1.length (wt y.1) A) (F0 m 202 ls []) := by
          intro ad21 hag H locs ls hP hD hS hl
          have hT : y.1 = L20 ++ w19.1 := by rw [hT20, eL20]
          have h2 : y.2 = w19.2 := by rw [h2, ew19]
          have hk : (xt G L20).2.1 a = 0 := by rw [eL20]; exact xt_k _ hc hk
          have hc : a < (xt G L20).1 := by rw [eL20]; exact xt_l _ hc
          have hk2 : (xt G L20).2.1 b2 = 9 := by rw [eL20]; exact xt_k _ hc2 hk2
          have hc2 : b2 < (xt G L20).1 := by rw [eL20]; exact xt_l _ hc2
          have hk3 : (xt G L20).2.1 b3 = 3 := by rw [eL20]; exact xt_k _ hc3 hk3
          have hc3 : b3 < (xt G L20).1 := by rw [eL20]; exact xt_l _ hc3
          have hk4 : (xt G L20).2.1 b4 = 13 := by rw [eL20]; exact xt_k _ hc4 hk4
          have hc4 : b4 < (xt G L20).1 := by rw [eL20]; exact xt_l _ hc4
          have hk8 : (xt G L20).2.1 b8 = 13 := by rw [eL20]; exact xt_k _ hc8 hk8
          have hc8 : b8 < (xt G L20).1 := by rw [eL20]; exact xt_l _ hc8
          refine lv_iconst (v := (0 : Int32)) hx hb dX0_writeMotion_202 (by decide) ?_
          refine lv_istore (lv' := [(4, .int (0 : Int32)), (0, .ref (ad21 a))]) hx hb dX0_writeMotion_203 hl (by decide) rfl (fun ls hl => ?_)
          obtain ⟨y22, hy22, hF⟩ := bnd_some hF
          obtain ⟨w24, hF, ew24⟩ := app_some hF
          obtain ⟨L25, eL25, hF⟩ := ltt_some hF
          have hT25 : y.1 = (L20 ++ y22.1) ++ w24.1 := by rw [hT, ew24]; simp only [List.append_assoc]
          have hbl25 : L25.length ≤ y.1.length ∧ wt L25 ≤ wt y.1 := by rw [eL25]; exact room_d hT25 hbl
          have K22 : ∀ (ad26 : Nat → Nat), agr G.1 ad ad26 → ∀ (H : Heap) (locs : List Loc) (ls : Array Slot), va_P D classes (wld ct ad26 (xt G L25) y22.2.2) H → va_D A (wld ct ad26 (xt G L25) y22.2.2) → va_S A s.heap H locs → lv_has ls 8 [] → W p l e (headSpec wuX0_writeMotion ({ frames := 6, cells := y.1.length, slots := wt y.1, locals := 198 })).room s m ([.ref (ad a), .int p0] : List Value).toArray below meth c H locs (L25 : NN).length (wt L25) (MQ below (va_Qv (fun (u : Nat → Nat) => agr G.1 ad u) (fun u t => kE D ct u (xt G y.1) A y.2 t) A) ([.ref (ad a), .int p0] : List Value).toArray s y.1.length (wt y.1) A) (F0 m 317 ls []) := by
            intro ad26 hag H locs ls hP hD hS hl
            have hT : y.1 = L25 ++ w24.1 := by rw [hT25, eL25]
            have h2 : y.2 = w24.2 := by rw [h2, ew24]
            have hk : (xt G L25).2.1 a = 0 := by rw [eL25]; exact xt_k _ hc hk
            have hc : a < (xt G L25).1 := by rw [eL25]; exact xt_l _ hc
            have hk2 : (xt G L25).2.1 b2 = 9 := by rw [eL25]; exact xt_k _ hc2 hk2
            have hc2 : b2 < (xt G L25).1 := by rw [eL25]; exact xt_l _ hc2
            have hk3 : (xt G L25).2.1 b3 = 3 := by rw [eL25]; exact xt_k _ hc3 hk3
            have hc3 : b3 < (xt G L25).1 := by rw [eL25]; exact xt_l _ hc3
            have hk4 : (xt G L25).2.1 b4 = 13 := by rw [eL25]; exact xt_k _ hc4 hk4
            have hc4 : b4 < (xt G L25).1 := by rw [eL25]; exact xt_l _ hc4
            have hk8 : (xt G L25).2.1 b8 = 13 := by rw [eL25]; exact xt_k _ hc8 hk8
            have hc8 : b8 < (xt G L25).1 := by rw [eL25]; exact xt_l _ hc8
            obtain rfl := Option.some.inj hF
            have e1 : y.1 = L25 := by rw [hT]; exact List.append_nil _
            have e2 : y.2 = y22.2.2 := h2
            refine W.widen (k := y.1.length) (n := wt y.1) (Nat.le_of_eq (by rw [e1])) (Nat.le_of_eq (by rw [e1])) ?_
            exact W.vret hx hb hr (fun t ht hW => ⟨⟨ad26, rfl, hag, (by unfold kE; rw [e1, e2]; exact ⟨by rw [ht]; exact hP, va_K.moved hW.alike hK, hD⟩)⟩, hS.F ht⟩) hS.2.2 dX0_writeMotion_317
          clear hF
          refine itrA_rule (fun (s23 : NN × Int32 × DD) (r28 : NN) => (∃ t, s23.1 = L20 ++ t) → L25 = s23.1 ++ r28 → ∀ (ad27 : Nat → Nat), agr G.1 ad ad27 → ∀ (H : Heap) (locs : List Loc) (ls : Array Slot), va_P D classes (wld ct ad27 (xt G s23.1) s23.2.2) H → va_D A (wld ct ad27 (xt G s23.1) s23.2.2) → va_S A s.heap H locs → lv_has ls 8 [(4, .int s23.2.1), (0, .ref (ad27 a))] → W p l e (headSpec wuX0_writeMotion ({ frames := 6, cells := y.1.length, slots := wt y.1, locals := 198 })).room s m ([.ref (ad a), .int p0] : List Value).toArray below meth c H locs (s23.1 : NN).length (wt s23.1) (MQ below (va_Qv (fun (u : Nat → Nat) => agr G.1 ad u) (fun u t => kE D ct u (xt G y.1) A y.2 t) A) ([.ref (ad a), .int p0] : List Value).toArray s y.1.length (wt y.1) A) (F0 m 205 ls [])) ?_ _ _ _ hy22 ⟨[], (List.append_nil _).symm⟩ eL25 _ hag _ _ _ hP hD hS (lv_sub hl [0, 1] rfl)
          rintro s23 r28 ⟨z29, hF, ⟨t22, et22⟩, hwz29⟩ ⟨u22, eu22⟩ eq22 ad27 hag H locs ls hP hD hS hl
          try dsimp only at hF
          obtain ⟨L30, eL30⟩ : ∃ x, x = s23.1 ++ z29.1 := ⟨_, rfl⟩
          obtain ⟨w31, hw31⟩ : ∃ x, x = z29 := ⟨_, rfl⟩
          rw [← hw31] at hF
          have hbl : L30.length ≤ y.1.length ∧ wt L30 ≤ wt y.1 := room_d (show L25 = L30 ++ t22 by rw [eq22, et22, eL30]; simp only [List.append_assoc]) hbl25
          have hT : L30 = s23.1 ++ w31.1 := by rw [eL30, hw31]
          have h2 : z29.2 = w31.2 := by rw [hw31]
          have hk : (xt G s23.1).2.1 a = 0 := by rw [eu22]; exact xt_k _ hc hk
          have hc : a < (xt G s23.1).1 := by rw [eu22]; exact xt_l _ hc
          have hk2 : (xt G s23.1).2.1 b2 = 9 := by rw [eu22]; exact xt_k _ hc2 hk2
          have hc2 : b2 < (xt G s23.1).1 := by rw [eu22]; exact xt_l _ hc2
          have hk3 : (xt G s23.1).2.1 b3 = 3 := by rw [eu22]; exact xt_k _ hc3 hk3
          have hc3 : b3 < (xt G s23.1).1 := by rw [eu22]; exact xt_l _ hc3
          have hk4 : (xt G s23.1).2.1 b4 = 13 := by rw [eu22]; exact xt_k _ hc4 hk4
          have hc4 : b4 < (xt G s23.1).1 := by rw [eu22]; exact xt_l _ hc4
          have hk8 : (xt G s23.1).2.1 b8 = 13 := by rw [eu22]; exact xt_k _ hc8 hk8
          have hc8 : b8 < (xt G s23.1).1 := by rw [eu22]; exact xt_l _ hc8
          refine lv_iload hx hb dX0_writeMotion_205 (lv_at hl 0 rfl) ?_
          refine lv_iconst (v := (2 : Int32)) hx hb dX0_writeMotion_207 (by decide) ?_
          refine lv_icmp_ge (tgt := 317) hx hb dX0_writeMotion_208 (by decide) (fun c32 => ?_) (fun c32 => ?_)
          · rw [if_pos c32] at hF
            obtain rfl := Option.some.inj hF
            have e1 : L30 = s23.1 := by rw [hT]; exact List.append_nil _
            have e2 : z29.2 = .inr ((s23.2.1, s23.2.2)) := h2
            rw [e2] at hwz29
            obtain ⟨hw1, hw2⟩ := hwz29
            have e8 : L25 = s23.1 := by rw [eq22, hw2, ← eL30, e1]
            rw [e8] at K22
            try rw [← hw1] at K22
            exact K22 _ hag _ _ _ hP hD hS (lv_sub hl [] rfl)
          · rw [if_neg c32] at hF
            refine lv_iconst (v := (0 : Int32)) hx hb dX0_writeMotion_211 (by decide) ?_
            refine lv_istore (lv' := [(5, .int (0 : Int32)), (4, .int s23.2.1), (0, .ref (ad27 a))]) hx hb dX0_writeMotion_212 hl (by decide) rfl (fun ls hl => ?_)
            obtain ⟨y33, hy33, hF⟩ := bnd_some hF
            obtain ⟨w35, hF, ew35⟩ := app_some hF
            obtain ⟨L36, eL36, hF⟩ := ltt_some hF
            have hT36 : L30 = (s23.1 ++ y33.1) ++ w35.1 := by rw [hT, ew35]; simp only [List.append_assoc]
            have hbl36 : L36.length ≤ y.1.length ∧ wt L36 ≤ wt y.1 := by rw [eL36]; exact room_d hT36 hbl
            have K33 : ∀ (ad37 : Nat → Nat), agr G.1 ad ad37 → ∀ (H : Heap) (locs : List Loc) (ls : Array Slot), va_P D classes (wld ct ad37 (xt G L36) y33.2.2) H → va_D A (wld ct ad37 (xt G L36) y33.2.2) → va_S A s.heap H locs → lv_has ls 8 [(4, .int s23.2.1), (0, .ref (ad37 a))] → W p l e (headSpec wuX0_writeMotion ({ frames := 6, cells := y.1.length, slots := wt y.1, locals := 198 })).room s m ([.ref (ad a), .int p0] : List Value).toArray below meth c H locs (L36 : NN).length (wt L36) (MQ below (va_Qv (fun (u : Nat → Nat) => agr G.1 ad u) (fun u t => kE D ct u (xt G y.1) A y.2 t) A) ([.ref (ad a), .int p0] : List Value).toArray s y.1.length (wt y.1) A) (F0 m 311 ls []) := by
              intro ad37 hag H locs ls hP hD hS hl
              have hT : L30 = L36 ++ w35.1 := by rw [hT36, eL36]
              have h2 : z29.2 = w35.2 := by rw [h2, ew35]
              have hk : (xt G L36).2.1 a = 0 := by rw [eL36]; exact xt_k _ hc hk
              have hc : a < (xt G L36).1 := by rw [eL36]; exact xt_l _ hc
              have hk2 : (xt G L36).2.1 b2 = 9 := by rw [eL36]; exact xt_k _ hc2 hk2
              have hc2 : b2 < (xt G L36).1 := by rw [eL36]; exact xt_l _ hc2
              have hk3 : (xt G L36).2.1 b3 = 3 := by rw [eL36]; exact xt_k _ hc3 hk3
              have hc3 : b3 < (xt G L36).1 := by rw [eL36]; exact xt_l _ hc3
              have hk4 : (xt G L36).2.1 b4 = 13 := by rw [eL36]; exact xt_k _ hc4 hk4
              have hc4 : b4 < (xt G L36).1 := by rw [eL36]; exact xt_l _ hc4
              have hk8 : (xt G L36).2.1 b8 = 13 := by rw [eL36]; exact xt_k _ hc8 hk8
              have hc8 : b8 < (xt G L36).1 := by rw [eL36]; exact xt_l _ hc8
              obtain ⟨x38, ex38, hF⟩ := ltt_some hF
              refine lv_iinc (v := x38) (lv' := [(4, .int x38), (0, .ref (ad37 a))]) hx hb dX0_writeMotion_311 hl (k := 0) rfl (by rw [ex38]; rfl) (by decide) rfl (fun ls hl => ?_)
              refine lv_goto (tgt := 205) hx hb dX0_writeMotion_314 (by decide) ?_
              obtain rfl := Option.some.inj hF
              have e1 : L30 = L36 := by rw [hT]; exact List.append_nil _
              have e2 : z29.2 = .inl (L36, (x38, y33.2.2)) := h2
              rw [e2] at hwz29
              obtain ⟨r2, er2, hwz29⟩ := hwz29
              exact hwz29 ⟨u22 ++ z29.1, by show L36 = _; rw [← e1, eL30, eu22]; simp only [List.append_assoc]⟩ (by show L25 = L36 ++ r2; rw [eq22, er2, ← e1, eL30]; simp only [List.append_assoc]) _ hag _ _ _ hP hD hS (lv_sub hl [0, 1] rfl)
            clear hF
            refine itrA_rule (fun (s34 : NN × Int32 × DD) (r40 : NN) => (∃ t, s34.1 = s23.1 ++ t) → L36 = s34.1 ++ r40 → ∀ (ad39 : Nat → Nat), agr G.1 ad ad39 → ∀ (H : Heap) (locs : List Loc) (ls : Array Slot), va_P D classes (wld ct ad39 (xt G s34.1) s34.2.2) H → va_D A (wld ct ad39 (xt G s34.1) s34.2.2) → va_S A s.heap H locs → lv_has ls 8 [(5, .int s34.2.1), (4, .int s23.2.1), (0, .ref (ad39 a))] → W p l e (headSpec wuX0_writeMotion ({ frames := 6, cells := y.1.length, slots := wt y.1, locals := 198 })).room s m ([.ref (ad a), .int p0] : List Value).toArray below meth c H locs (s34.1 : NN).length (wt s34.1) (MQ below (va_Qv (fun (u : Nat → Nat) => agr G.1 ad u) (fun u t => kE D ct u (xt G y.1) A y.2 t) A) ([.ref (ad a), .int p0] : List Value).toArray s y.1.length (wt y.1) A) (F0 m 214 ls [])) ?_ _ _ _ hy33 ⟨[], (List.append_nil _).symm⟩ eL36 _ hag _ _ _ hP hD hS (lv_sub hl [0, 1, 2] rfl)
            rintro s34 r40 ⟨z41, hF, ⟨t33, et33⟩, hwz41⟩ ⟨u33, eu33⟩ eq33 ad39 hag H locs ls hP hD hS hl
            try dsimp only at hF
            obtain ⟨L42, eL42⟩ : ∃ x, x = s34.1 ++ z41.1 := ⟨_, rfl⟩
            obtain ⟨w43, hw43⟩ : ∃ x, x = z41 := ⟨_, rfl⟩
            rw [← hw43] at hF
            have hbl : L42.length ≤ y.1.length ∧ wt L42 ≤ wt y.1 := room_d (show L36 = L42 ++ t33 by rw [eq33, et33, eL42]; simp only [List.append_assoc]) hbl36
            have hT : L42 = s34.1 ++ w43.1 := by rw [eL42, hw43]
            have h2 : z41.2 = w43.2 := by rw [hw43]
            have hk : (xt G s34.1).2.1 a = 0 := by rw [eu33]; exact xt_k _ hc hk
            have hc : a < (xt G s34.1).1 := by rw [eu33]; exact xt_l _ hc
            have hk2 : (xt G s34.1).2.1 b2 = 9 := by rw [eu33]; exact xt_k _ hc2 hk2
            have hc2 : b2 < (xt G s34.1).1 := by rw [eu33]; exact xt_l _ hc2
            have hk3 : (xt G s34.1).2.1 b3 = 3 := by rw [eu33]; exact xt_k _ hc3 hk3
            have hc3 : b3 < (xt G s34.1).1 := by rw [eu33]; exact xt_l _ hc3
            have hk4 : (xt G s34.1).2.1 b4 = 13 := by rw [eu33]; exact xt_k _ hc4 hk4
            have hc4 : b4 < (xt G s34.1).1 := by rw [eu33]; exact xt_l _ hc4
            have hk8 : (xt G s34.1).2.1 b8 = 13 := by rw [eu33]; exact xt_k _ hc8 hk8
            have hc8 : b8 < (xt G s34.1).1 := by rw [eu33]; exact xt_l _ hc8
            refine lv_iload hx hb dX0_writeMotion_214 (lv_at hl 0 rfl) ?_
            refine lv_aload_n hx hb dX0_writeMotion_216 rfl (lv_at hl 2 rfl) ?_
            refine va_get (D := D) (ci := 0) (v := va_re ad39 (s34.2.2.2 a 3)) (C := RX0) (T := TX0) (N := 21) hx hb hts (mus hf_X0) hown hK hP a (wld_o ct ad39 (xt G s34.1) s34.2.2 hc hk (by decide)) rfl 3 (by decide) (hts (.fieldLink RX0 36 "VideoSuite$Coder" "work" "LVideoSuite$Work;") (mu mw_817)) (fun _ h9 => h9) rfl dX0_writeMotion_217 ?_
            obtain ⟨b44, ho44, hc44, hk44, hF⟩ := dr_some hF
            refine W_st (st' := [.ref (ad39 b44), .int s34.2.1]) (by rw [va_some ho44]) ?_
            refine va_get (D := D) (ci := 9) (v := .int (s34.2.2.1 b44 14)) (C := RX9) (T := TX9) (N := 20) hx hb hts (mus hf_X9) hown hK hP b44 (wld_o ct ad39 (xt G s34.1) s34.2.2 hc44 hk44 (by decide)) rfl 14 (by decide) (hts (.fieldLink RX0 406 "VideoSuite$Work" "parts" "I") (mu mw_471)) (fun _ h9 => h9) rfl dX0_writeMotion_220 ?_
            obtain ⟨x45, ex45, hF⟩ := ltt_some hF
            refine lv_topi (fun zx45 ezx45 => ?_)
            obtain rfl : x45 = zx45 := ex45.trans ezx45.symm
            refine lv_icmp_ge (tgt := 311) hx hb dX0_writeMotion_223 (by decide) (fun c46 => ?_) (fun c46 => ?_)
            · rw [if_pos c46] at hF
              obtain rfl := Option.some.inj hF
              have e1 : L42 = s34.1 := by rw [hT]; exact List.append_nil _
              have e2 : z41.2 = .inr ((s34.2.1, s34.2.2)) := h2
              rw [e2] at hwz41
              obtain ⟨hw1, hw2⟩ := hwz41
              have e8 : L36 = s34.1 := by rw [eq33, hw2, ← eL42, e1]
              rw [e8] at K33
              try rw [← hw1] at K33
              exact K33 _ hag _ _ _ hP hD hS (lv_sub hl [1, 2] rfl)
            · rw [if_neg c46] at hF
              refine lv_aload_n hx hb dX0_writeMotion_226 rfl (lv_at hl 2 rfl) ?_
              refine va_get (D := D) (ci := 0) (v := va_re ad39 (s34.2.2.2 a 3)) (C := RX0) (T := TX0) (N := 21) hx hb hts (mus hf_X0) hown hK hP a (wld_o ct ad39 (xt G s34.1) s34.2.2 hc hk (by decide)) rfl 3 (by decide) (hts (.fieldLink RX0 36 "VideoSuite$Coder" "work" "LVideoSuite$Work;") (mu mw_817)) (fun _ h9 => h9) rfl dX0_writeMotion_227 ?_
              refine W_st (st' := [.ref (ad39 b44)]) (by rw [va_some ho44]) ?_
              refine va_get (D := D) (ci := 9) (v := va_re ad39 (s34.2.2.2 b44 13)) (C := RX9) (T := TX9) (N := 20) hx hb hts (mus hf_X9) hown hK hP b44 (wld_o ct ad39 (xt G s34.1) s34.2.2 hc44 hk44 (by decide)) rfl 13 (by decide) (hts (.fieldLink RX0 403 "VideoSuite$Work" "part" "[I") (mu mw_468)) (fun _ h9 => h9) rfl dX0_writeMotion_230 ?_
              refine lv_iconst (v := (5 : Int32)) hx hb dX0_writeMotion_233 (by decide) ?_
              refine lv_iload hx hb dX0_writeMotion_234 (lv_at hl 0 rfl) ?_
              refine lv_imul hx hb dX0_writeMotion_236 ?_
              obtain ⟨x47, ex47, hF⟩ := ltt_some hF
              refine lv_topi (fun zx47 ezx47 => ?_)
              obtain rfl : x47 = zx47 := ex47.trans ezx47.symm
              refine lv_iconst (v := (3 : Int32)) hx hb dX0_writeMotion_237 (by decide) ?_
              refine lv_iadd hx hb dX0_writeMotion_238 ?_
              obtain ⟨x48, ex48, hF⟩ := ltt_some hF
              refine lv_topi (fun zx48 ezx48 => ?_)
              obtain rfl : x48 = zx48 := ex48.trans ezx48.symm
              obtain ⟨b49, ho49, hc49, hk49, hF⟩ := dr_some hF
              refine W_st (st' := [.int x48, .ref (ad39 b49)]) (by rw [va_some ho49]) ?_
              obtain ⟨hvc, hF⟩ := chk_some hF
              refine va_iald hx hb hK hP b49 1 (wld_i ct ad39 (xt G s34.1) s34.2.2 hc49 hk49) rfl hvc dX0_writeMotion_239 ?_
              obtain ⟨x50, ex50, hF⟩ := ltt_some hF
              refine lv_topi (fun zx50 ezx50 => ?_)
              obtain rfl : x50 = zx50 := ex50.trans ezx50.symm
              refine lv_iload hx hb dX0_writeMotion_240 (lv_at hl 1 rfl) ?_
              refine lv_ishr hx hb dX0_writeMotion_242 ?_
              obtain ⟨x51, ex51, hF⟩ := ltt_some hF
              refine lv_topi (fun zx51 ezx51 => ?_)
              obtain rfl : x51 = zx51 := ex51.trans ezx51.symm
              refine lv_iconst (v := (1 : Int32)) hx hb dX0_writeMotion_243 (by decide) ?_
              refine lv_iand hx hb dX0_writeMotion_244 ?_
              obtain ⟨x52, ex52, hF⟩ := ltt_some hF
              refine lv_topi (fun zx52 ezx52 => ?_)
              obtain rfl : x52 = zx52 := ex52.trans ezx52.symm
              refine lv_iconst (v := (1 : Int32)) hx hb dX0_writeMotion_245 (by decide) ?_
              obtain ⟨y53, hy53, hF⟩ := bnd_some hF
              obtain ⟨w54, hF, ew54⟩ := app_some hF
              obtain ⟨L55, eL55, hF⟩ := ltt_some hF
              have hT55 : L42 = (s34.1 ++ y53.1) ++ w54.1 := by rw [hT, ew54]; simp only [List.append_assoc]
              have hbl55 : L55.length ≤ y.1.length ∧ wt L55 ≤ wt y.1 := by rw [eL55]; exact room_d hT55 hbl
              have J53 : ∀ (ad56 : Nat → Nat), agr G.1 ad ad56 → ∀ (H : Heap) (locs : List Loc) (ls : Array Slot), va_P D classes (wld ct ad56 (xt G L55) y53.2) H → va_D A (wld ct ad56 (xt G L55) y53.2) → va_S A s.heap H locs → lv_has ls 8 [(5, .int s34.2.1), (4, .int s23.2.1), (0, .ref (ad56 a))] → W p l e (headSpec wuX0_writeMotion ({ frames := 6, cells := y.1.length, slots := wt y.1, locals := 198 })).room s m ([.ref (ad a), .int p0] : List Value).toArray below meth c H locs (L55 : NN).length (wt L55) (MQ below (va_Qv (fun (u : Nat → Nat) => agr G.1 ad u) (fun u t => kE D ct u (xt G y.1) A y.2 t) A) ([.ref (ad a), .int p0] : List Value).toArray s y.1.length (wt y.1) A) (F0 m 305 ls []) := by
                intro ad56 hag H locs ls hP hD hS hl
                have hT : L42 = L55 ++ w54.1 := by rw [hT55, eL55]
                have h2 : z41.2 = w54.2 := by rw [h2, ew54]
                have hk : (xt G L55).2.1 a = 0 := by rw [eL55]; exact xt_k _ hc hk
                have hc : a < (xt G L55).1 := by rw [eL55]; exact xt_l _ hc
                have hk2 : (xt G L55).2.1 b2 = 9 := by rw [eL55]; exact xt_k _ hc2 hk2
                have hc2 : b2 < (xt G L55).1 := by rw [eL55]; exact xt_l _ hc2
                have hk3 : (xt G L55).2.1 b3 = 3 := by rw [eL55]; exact xt_k _ hc3 hk3
                have hc3 : b3 < (xt G L55).1 := by rw [eL55]; exact xt_l _ hc3
                have hk4 : (xt G L55).2.1 b4 = 13 := by rw [eL55]; exact xt_k _ hc4 hk4
                have hc4 : b4 < (xt G L55).1 := by rw [eL55]; exact xt_l _ hc4
                have hk8 : (xt G L55).2.1 b8 = 13 := by rw [eL55]; exact xt_k _ hc8 hk8
                have hc8 : b8 < (xt G L55).1 := by rw [eL55]; exact xt_l _ hc8
                have hk44 : (xt G L55).2.1 b44 = 9 := by rw [eL55]; exact xt_k _ hc44 hk44
                have hc44 : b44 < (xt G L55).1 := by rw [eL55]; exact xt_l _ hc44
                have hk49 : (xt G L55).2.1 b49 = 13 := by rw [eL55]; exact xt_k _ hc49 hk49
                have hc49 : b49 < (xt G L55).1 := by rw [eL55]; exact xt_l _ hc49
                obtain ⟨x57, ex57, hF⟩ := ltt_some hF
                refine lv_iinc (v := x57) (lv' := [(5, .int x57), (4, .int s23.2.1), (0, .ref (ad56 a))]) hx hb dX0_writeMotion_305 hl (k := 0) rfl (by rw [ex57]; rfl) (by decide) rfl (fun ls hl => ?_)
                refine lv_goto (tgt := 214) hx hb dX0_writeMotion_308 (by decide) ?_
                obtain rfl := Option.some.inj hF
                have e1 : L42 = L55 := by rw [hT]; exact List.append_nil _
                have e2 : z41.2 = .inl (L55, (x57, y53.2)) := h2
                rw [e2] at hwz41
                obtain ⟨r2, er2, hwz41⟩ := hwz41
                exact hwz41 ⟨u33 ++ z41.1, by show L55 = _; rw [← e1, eL42, eu33]; simp only [List.append_assoc]⟩ (by show L36 = L55 ++ r2; rw [eq33, er2, ← e1, eL42]; simp only [List.append_assoc]) _ hag _ _ _ hP hD hS (lv_sub hl [0, 1, 2] rfl)
              clear hF
              obtain ⟨w58, hw58⟩ : ∃ z, z = y53 := ⟨_, rfl⟩
              have hF := hy53
              rw [← hw58] at hF
              clear hy53
              have hT : L55 = s34.1 ++ w58.1 := by rw [eL55, hw58]
              have h2 : y53.2 = w58.2 := by rw [hw58]
              have hbl := hbl55
              refine lv_icmp_ne (tgt := 305) hx hb dX0_writeMotion_246 (by decide) (fun c59 => ?_) (fun c59 => ?_)
              · rw [if_neg c59] at hF
                obtain rfl := Option.some.inj hF
                have e1 : L55 = s34.1 := by rw [hT]; exact List.append_nil _
                have e2 : y53.2 = s34.2.2 := h2
                rw [e1] at J53
                try rw [e2] at J53
                exact J53 _ hag _ _ _ hP hD hS (lv_sub hl [0, 1, 2] rfl)
              · rw [if_pos c59] at hF
                refine lv_aload_n hx hb dX0_writeMotion_249 rfl (lv_at hl 2 rfl) ?_
                refine va_get (D := D) (ci := 0) (v := va_re ad39 (s34.2.2.2 a 2)) (C := RX0) (T := TX0) (N := 21) hx hb hts (mus hf_X0) hown hK hP a (wld_o ct ad39 (xt G s34.1) s34.2.2 hc hk (by decide)) rfl 2 (by decide) (hts (.fieldLink RX0 29 "VideoSuite$Coder" "writer" "LVideoSuite$Writer;") (mu mw_815)) (fun _ h9 => h9) rfl dX0_writeMotion_250 ?_
                refine lv_bipush (v := (7 : Int32)) hx hb dX0_writeMotion_253 (by decide) ?_
                refine lv_aload_n hx hb dX0_writeMotion_255 rfl (lv_at hl 2 rfl) ?_
                refine va_get (D := D) (ci := 0) (v := va_re ad39 (s34.2.2.2 a 3)) (C := RX0) (T := TX0) (N := 21) hx hb hts (mus hf_X0) hown hK hP a (wld_o ct ad39 (xt G s34.1) s34.2.2 hc hk (by decide)) rfl 3 (by decide) (hts (.fieldLink RX0 36 "VideoSuite$Coder" "work" "LVideoSuite$Work;") (mu mw_817)) (fun _ h9 => h9) rfl dX0_writeMotion_256 ?_
                refine W_st (st' := [.ref (ad39 b44), .int (7 : Int32), va_re ad39 (s34.2.2.2 a 2)]) (by rw [va_some ho44]) ?_
                refine va_get (D := D) (ci := 9) (v := va_re ad39 (s34.2.2.2 b44 17)) (C := RX9) (T := TX9) (N := 20) hx hb hts (mus hf_X9) hown hK hP b44 (wld_o ct ad39 (xt G s34.1) s34.2.2 hc44 hk44 (by decide)) rfl 17 (by decide) (hts (.fieldLink RX0 429 "VideoSuite$Work" "difference" "[I") (mu mw_479)) (fun _ h9 => h9) rfl dX0_writeMotion_259 ?_
                refine lv_iconst (v := (2 : Int32)) hx hb dX0_writeMotion_262 (by decide) ?_
                refine lv_bipush (v := (16 : Int32)) hx hb dX0_writeMotion_263 (by decide) ?_
                refine lv_iload hx hb dX0_writeMotion_265 (lv_at hl 1 rfl) ?_
                refine lv_imul hx hb dX0_writeMotion_267 ?_
                obtain ⟨x60, ex60, hF⟩ := ltt_some hF
                refine lv_topi (fun zx60 ezx60 => ?_)
                obtain rfl : x60 = zx60 := ex60.trans ezx60.symm
                refine lv_iload hx hb dX0_writeMotion_268 (lv_at hl 0 rfl) ?_
                refine lv_iadd hx hb dX0_writeMotion_270 ?_
                obtain ⟨x61, ex61, hF⟩ := ltt_some hF
                refine lv_topi (fun zx61 ezx61 => ?_)
                obtain rfl : x61 = zx61 := ex61.trans ezx61.symm
                refine lv_imul hx hb dX0_writeMotion_271 ?_
                obtain ⟨x62, ex62, hF⟩ := ltt_some hF
                refine lv_topi (fun zx62 ezx62 => ?_)
                obtain rfl : x62 = zx62 := ex62.trans ezx62.symm
                obtain ⟨b63, ho63, hc63, hk63, hF⟩ := dr_some hF
                refine W_st (st' := [.int x62, .ref (ad39 b63), .int (7 : Int32), va_re ad39 (s34.2.2.2 a 2)]) (by rw [va_some ho63]) ?_
                obtain ⟨hvc, hF⟩ := chk_some hF
                refine va_iald hx hb hK hP b63 1 (wld_i ct ad39 (xt G s34.1) s34.2.2 hc63 hk63) rfl hvc dX0_writeMotion_272 ?_
                obtain ⟨x64, ex64, hF⟩ := ltt_some hF
                refine lv_topi (fun zx64 ezx64 => ?_)
                obtain rfl : x64 = zx64 := ex64.trans ezx64.symm
                obtain ⟨b65, ho65, hc65, hk65, hF⟩ := dr_some hF
                refine W_st (st' := [.int x64, .int (7 : Int32), .ref (ad39 b65)]) (by rw [va_some ho65]) ?_
                obtain ⟨y66, hy66, hF⟩ := bnd_some hF
                obtain ⟨w67, hF, ew67⟩ := app_some hF
                obtain ⟨L68, eL68, hF⟩ := ltt_some hF
                have hT68 : L55 = (s34.1 ++ y66.1) ++ w67.1 := by rw [hT, ew67]; simp only [List.append_assoc]
                have hf9 := wA_in hD hA9 hS
                refine va_callv (va_runV (As := [.int (7 : Int32), .int x64]) (rest := []) ⟨hx, hb, hml, hown, hts⟩ (kX10_se l D ct ad39 Z (xt G s34.1) s34.2.2 _ b65 ((7 : Int32)) x64 y66 hc65 hk65 hy66) (cwV 2 hts gX0_writeMotion_X10_se rfl rfl rfl (by decide +kernel) ⟨Nat.le_of_ble_eq_true rfl, Nat.le_of_ble_eq_true rfl⟩) ⟨fun a U g mk q => by obtain ⟨q0, q1, qP, qK, qD, qZ, qN⟩ := q; exact ⟨q0, q1, qP, va_K.moved (u := U) (U := U.calling g mk a) (Vm.Alike.refl U.vm) qK, qD, sF.moved (u := U) (U := U.calling g mk a) (Vm.Alike.refl U.vm) qZ, nF.same rfl qN⟩, va_recv hK hP (ci := 10) (q0 := b65) rfl (wld_o ct ad39 (xt G s34.1) s34.2.2 hc65 hk65 (by decide)), fun U hU hW => ⟨rfl, by rw [hU], by rw [hU]; exact hP, va_K.moved hW.alike hK, hD.weaken (fun _ _ _ _ => trivial), by rw [hU]; exact ((hZ.kept hS.2.1).narrow hf9).moved hW.alike, hN.warm hW⟩⟩ rfl rfl hl.1 rfl (lv_room (Nat.le_of_ble_eq_true rfl)) dX0_writeMotion_273 (room_s hT68 hbl)) hS (fun q _ h => hf9 q h) hf9 (fun ad69 t H locs ht hvm hw hB hz1 hk1 hS => ?_)
                have hn70 := hw
                obtain ⟨hP, hK9, hD9⟩ := hB
                rw [ht] at hP
                have hD := hD9.weaken (fun _ q _ h => hf9 q.1 h)
                rw [xt_xt, ← eL68] at hP hD
                refine W_cs (k := L68.length) (n := wt L68) (by rw [eL68]; exact (len_s s34.1 y66.1).symm) (by rw [eL68]; exact (wt_app s34.1 y66.1).symm) ?_
                have hT : L55 = L68 ++ w67.1 := by rw [hT68, eL68]
                have h2 : y53.2 = w67.2 := by rw [h2, ew67]
                have hl := lv_sub (l' := [(5, .int s34.2.1), (4, .int s23.2.1), (0, .ref (ad39 a))]) hl [0, 1, 2] rfl
                have e9 : ([(5, .int s34.2.1), (4, .int s23.2.1), (0, .ref (ad39 a))] : List (Nat × Value)) = [(5, .int s34.2.1), (4, .int s23.2.1), (0, .ref (ad69 a))] := (by first | rfl | simp only [hn70 a hc])
                rw [e9] at hl
                clear e9
                have hk : (xt G L68).2.1 a = 0 := by rw [eL68]; exact xt_k _ hc hk
                have hc : a < (xt G L68).1 := by rw [eL68]; exact xt_l _ hc
                have hk2 : (xt G L68).2.1 b2 = 9 := by rw [eL68]; exact xt_k _ hc2 hk2
                have hc2 : b2 < (xt G L68).1 := by rw [eL68]; exact xt_l _ hc2
                have hk3 : (xt G L68).2.1 b3 = 3 := by rw [eL68]; exact xt_k _ hc3 hk3
                have hc3 : b3 < (xt G L68).1 := by rw [eL68]; exact xt_l _ hc3
                have hk4 : (xt G L68).2.1 b4 = 13 := by rw [eL68]; exact xt_k _ hc4 hk4
                have hc4 : b4 < (xt G L68).1 := by rw [eL68]; exact xt_l _ hc4
                have hk8 : (xt G L68).2.1 b8 = 13 := by rw [eL68]; exact xt_k _ hc8 hk8
                have hc8 : b8 < (xt G L68).1 := by rw [eL68]; exact xt_l _ hc8
                have hk44 : (xt G L68).2.1 b44 = 9 := by rw [eL68]; exact xt_k _ hc44 hk44
                have hc44 : b44 < (xt G L68).1 := by rw [eL68]; exact xt_l _ hc44
                have hk49 : (xt G L68).2.1 b49 = 13 := by rw [eL68]; exact xt_k _ hc49 hk49
                have hc49 : b49 < (xt G L68).1 := by rw [eL68]; exact xt_l _ hc49
                have hk63 : (xt G L68).2.1 b63 = 13 := by rw [eL68]; exact xt_k _ hc63 hk63
                have hc63 : b63 < (xt G L68).1 := by rw [eL68]; exact xt_l _ hc63
                have hk65 : (xt G L68).2.1 b65 = 10 := by rw [eL68]; exact xt_k _ hc65 hk65
                have hc65 : b65 < (xt G L68).1 := by rw [eL68]; exact xt_l _ hc65
                have hag := agr_t (xt_ge _ _) hag hn70
                refine lv_aload_n hx hb dX0_writeMotion_276 rfl (lv_at hl 2 rfl) ?_
                refine va_get (D := D) (ci := 0) (v := va_re ad69 (y66.2.2 a 2)) (C := RX0) (T := TX0) (N := 21) hx hb hts (mus hf_X0) hown hK hP a (wld_o ct ad69 (xt G L68) y66.2 hc hk (by decide)) rfl 2 (by decide) (hts (.fieldLink RX0 29 "VideoSuite$Coder" "writer" "LVideoSuite$Writer;") (mu mw_815)) (fun _ h9 => h9) rfl dX0_writeMotion_277 ?_
                refine lv_bipush (v := (8 : Int32)) hx hb dX0_writeMotion_280 (by decide) ?_
                refine lv_aload_n hx hb dX0_writeMotion_282 rfl (lv_at hl 2 rfl) ?_
                refine va_get (D := D) (ci := 0) (v := va_re ad69 (y66.2.2 a 3)) (C := RX0) (T := TX0) (N := 21) hx hb hts (mus hf_X0) hown hK hP a (wld_o ct ad69 (xt G L68) y66.2 hc hk (by decide)) rfl 3 (by decide) (hts (.fieldLink RX0 36 "VideoSuite$Coder" "work" "LVideoSuite$Work;") (mu mw_817)) (fun _ h9 => h9) rfl dX0_writeMotion_283 ?_
                obtain ⟨b71, ho71, hc71, hk71, hF⟩ := dr_some hF
                refine W_st (st' := [.ref (ad69 b71), .int (8 : Int32), va_re ad69 (y66.2.2 a 2)]) (by rw [va_some ho71]) ?_
                refine va_get (D := D) (ci := 9) (v := va_re ad69 (y66.2.2 b71 17)) (C := RX9) (T := TX9) (N := 20) hx hb hts (mus hf_X9) hown hK hP b71 (wld_o ct ad69 (xt G L68) y66.2 hc71 hk71 (by decide)) rfl 17 (by decide) (hts (.fieldLink RX0 429 "VideoSuite$Work" "difference" "[I") (mu mw_479)) (fun _ h9 => h9) rfl dX0_writeMotion_286 ?_
                refine lv_iconst (v := (2 : Int32)) hx hb dX0_writeMotion_289 (by decide) ?_
                refine lv_bipush (v := (16 : Int32)) hx hb dX0_writeMotion_290 (by decide) ?_
                refine lv_iload hx hb dX0_writeMotion_292 (lv_at hl 1 rfl) ?_
                refine lv_imul hx hb dX0_writeMotion_294 ?_
                obtain ⟨x72, ex72, hF⟩ := ltt_some hF
                refine lv_topi (fun zx72 ezx72 => ?_)
                obtain rfl : x72 = zx72 := ex72.trans ezx72.symm
                refine lv_iload hx hb dX0_writeMotion_295 (lv_at hl 0 rfl) ?_
                refine lv_iadd hx hb dX0_writeMotion_297 ?_
                obtain ⟨x73, ex73, hF⟩ := ltt_some hF
                refine lv_topi (fun zx73 ezx73 => ?_)
                obtain rfl : x73 = zx73 := ex73.trans ezx73.symm
                refine lv_imul hx hb dX0_writeMotion_298 ?_
                obtain ⟨x74, ex74, hF⟩ := ltt_some hF
                refine lv_topi (fun zx74 ezx74 => ?_)
                obtain rfl : x74 = zx74 := ex74.trans ezx74.symm
                refine lv_iconst (v := (1 : Int32)) hx hb dX0_writeMotion_299 (by decide) ?_
                refine lv_iadd hx hb dX0_writeMotion_300 ?_
                obtain ⟨x75, ex75, hF⟩ := ltt_some hF
                refine lv_topi (fun zx75 ezx75 => ?_)
                obtain rfl : x75 = zx75 := ex75.trans ezx75.symm
                obtain ⟨b76, ho76, hc76, hk76, hF⟩ := dr_some hF
                refine W_st (st' := [.int x75, .ref (ad69 b76), .int (8 : Int32), va_re ad69 (y66.2.2 a 2)]) (by rw [va_some ho76]) ?_
                obtain ⟨hvc, hF⟩ := chk_some hF
                refine va_iald hx hb hK hP b76 1 (wld_i ct ad69 (xt G L68) y66.2 hc76 hk76) rfl hvc dX0_writeMotion_301 ?_
                obtain ⟨x77, ex77, hF⟩ := ltt_some hF
                refine lv_topi (fun zx77 ezx77 => ?_)
                obtain rfl : x77 = zx77 := ex77.trans ezx77.symm
                obtain ⟨b78, ho78, hc78, hk78, hF⟩ := dr_some hF
                refine W_st (st' := [.int x77, .int (8 : Int32), .ref (ad69 b78)]) (by rw [va_some ho78]) ?_
                obtain ⟨y79, hy79, hF⟩ := bnd_some hF
                obtain ⟨w80, hF, ew80⟩ := app_some hF
                obtain ⟨L81, eL81, hF⟩ := ltt_some hF
                have hT81 : L55 = (L68 ++ y79.1) ++ w80.1 := by rw [hT, ew80]; simp only [List.append_assoc]
                have hf9 := wA_in hD hA9 hS
                refine va_callv (va_runV (As := [.int (8 : Int32), .int x77]) (rest := []) ⟨hx, hb, hml, hown, hts⟩ (kX10_se l D ct ad69 Z (xt G L68) y66.2 _ b78 ((8 : Int32)) x77 y79 hc78 hk78 hy79) (cwV 2 hts gX0_writeMotion_X10_se rfl rfl rfl (by decide +kernel) ⟨Nat.le_of_ble_eq_true rfl, Nat.le_of_ble_eq_true rfl⟩) ⟨fun a U g mk q => by obtain ⟨q0, q1, qP, qK, qD, qZ, qN⟩ := q; exact ⟨q0, q1, qP, va_K.moved (u := U) (U := U.calling g mk a) (Vm.Alike.refl U.vm) qK, qD, sF.moved (u := U) (U := U.calling g mk a) (Vm.Alike.refl U.vm) qZ, nF.same rfl qN⟩, va_recv hK hP (ci := 10) (q0 := b78) rfl (wld_o ct ad69 (xt G L68) y66.2 hc78 hk78 (by decide)), fun U hU hW => ⟨rfl, by rw [hU], by rw [hU]; exact hP, va_K.moved hW.alike hK, hD.weaken (fun _ _ _ _ => trivial), by rw [hU]; exact ((hZ.kept hS.2.1).narrow hf9).moved hW.alike, hN.warm hW⟩⟩ rfl rfl hl.1 rfl (lv_room (Nat.le_of_ble_eq_true rfl)) dX0_writeMotion_302 (room_s hT81 hbl)) hS (fun q _ h => hf9 q h) hf9 (fun ad82 t H locs ht hvm hw hB hz1 hk1 hS => ?_)
                have hn83 := hw
                obtain ⟨hP, hK9, hD9⟩ := hB
                rw [ht] at hP
                have hD := hD9.weaken (fun _ q _ h => hf9 q.1 h)
                rw [xt_xt, ← eL81] at hP hD
                refine W_cs (k := L81.length) (n := wt L81) (by rw [eL81]; exact (len_s L68 y79.1).symm) (by rw [eL81]; exact (wt_app L68 y79.1).symm) ?_
                have hT : L55 = L81 ++ w80.1 := by rw [hT81, eL81]
                have h2 : y53.2 = w80.2 := by rw [h2, ew80]
                have hl := lv_sub (l' := [(5, .int s34.2.1), (4, .int s23.2.1), (0, .ref (ad69 a))]) hl [0, 1, 2] rfl
                have e9 : ([(5, .int s34.2.1), (4, .int s23.2.1), (0, .ref (ad69 a))] : List (Nat × Value)) = [(5, .int s34.2.1), (4, .int s23.2.1), (0, .ref (ad82 a))] := (by first | rfl | simp only [hn83 a hc])
                rw [e9] at hl
                clear e9
                have hk : (xt G L81).2.1 a = 0 := by rw [eL81]; exact xt_k _ hc hk
                have hc : a < (xt G L81).1 := by rw [eL81]; exact xt_l _ hc
                have hk2 : (xt G L81).2.1 b2 = 9 := by rw [eL81]; exact xt_k _ hc2 hk2
                have hc2 : b2 < (xt G L81).1 := by rw [eL81]; exact xt_l _ hc2
                have hk3 : (xt G L81).2.1 b3 = 3 := by rw [eL81]; exact xt_k _ hc3 hk3
                have hc3 : b3 < (xt G L81).1 := by rw [eL81]; exact xt_l _ hc3
                have hk4 : (xt G L81).2.1 b4 = 13 := by rw [eL81]; exact xt_k _ hc4 hk4
                have hc4 : b4 < (xt G L81).1 := by rw [eL81]; exact xt_l _ hc4
                have hk8 : (xt G L81).2.1 b8 = 13 := by rw [eL81]; exact xt_k _ hc8 hk8
                have hc8 : b8 < (xt G L81).1 := by rw [eL81]; exact xt_l _ hc8
                have hk44 : (xt G L81).2.1 b44 = 9 := by rw [eL81]; exact xt_k _ hc44 hk44
                have hc44 : b44 < (xt G L81).1 := by rw [eL81]; exact xt_l _ hc44
                have hk49 : (xt G L81).2.1 b49 = 13 := by rw [eL81]; exact xt_k _ hc49 hk49
                have hc49 : b49 < (xt G L81).1 := by rw [eL81]; exact xt_l _ hc49
                have hk63 : (xt G L81).2.1 b63 = 13 := by rw [eL81]; exact xt_k _ hc63 hk63
                have hc63 : b63 < (xt G L81).1 := by rw [eL81]; exact xt_l _ hc63
                have hk65 : (xt G L81).2.1 b65 = 10 := by rw [eL81]; exact xt_k _ hc65 hk65
                have hc65 : b65 < (xt G L81).1 := by rw [eL81]; exact xt_l _ hc65
                have hk71 : (xt G L81).2.1 b71 = 9 := by rw [eL81]; exact xt_k _ hc71 hk71
                have hc71 : b71 < (xt G L81).1 := by rw [eL81]; exact xt_l _ hc71
                have hk76 : (xt G L81).2.1 b76 = 13 := by rw [eL81]; exact xt_k _ hc76 hk76
                have hc76 : b76 < (xt G L81).1 := by rw [eL81]; exact xt_l _ hc76
                have hk78 : (xt G L81).2.1 b78 = 10 := by rw [eL81]; exact xt_k _ hc78 hk78
                have hc78 : b78 < (xt G L81).1 := by rw [eL81]; exact xt_l _ hc78
                have hag := agr_t (xt_ge _ _) hag hn83
                obtain rfl := Option.some.inj hF
                have e1 : L55 = L81 := by rw [hT]; exact List.append_nil _
                have e2 : y53.2 = y79.2 := h2
                rw [e1] at J53
                try rw [e2] at J53
                exact J53 _ hag _ _ _ hP hD hS (lv_sub hl [0, 1, 2] rfl)
        clear hF
        refine itrA_rule (fun (s18 : NN × Int32 × DD) (r85 : NN) => (∃ t, s18.1 = [] ++ t) → L20 = s18.1 ++ r85 → ∀ (ad84 : Nat → Nat), agr G.1 ad ad84 → ∀ (H : Heap) (locs : List Loc) (ls : Array Slot), va_P D classes (wld ct ad84 (xt G s18.1) s18.2.2) H → va_D A (wld ct ad84 (xt G s18.1) s18.2.2) → va_S A s.heap H locs → lv_has ls 8 [(4, .int s18.2.1), (0, .ref (ad84 a)), (1, .int p0)] → W p l e (headSpec wuX0_writeMotion ({ frames := 6, cells := y.1.length, slots := wt y.1, locals := 198 })).room s m ([.ref (ad a), .int p0] : List Value).toArray below meth c H locs (s18.1 : NN).length (wt s18.1) (MQ below (va_Qv (fun (u : Nat → Nat) => agr G.1 ad u) (fun u t => kE D ct u (xt G y.1) A y.2 t) A) ([.ref (ad a), .int p0] : List Value).toArray s y.1.length (wt y.1) A) (F0 m 72 ls [])) ?_ _ _ _ hy17 ⟨[], (List.append_nil _).symm⟩ eL20 _ hag _ _ _ hP hD hS (lv_sub hl [0, 3, 4] rfl)
        rintro s18 r85 ⟨z86, hF, ⟨t17, et17⟩, hwz86⟩ ⟨u17, eu17⟩ eq17 ad84 hag H locs ls hP hD hS hl
        try dsimp only at hF
        obtain ⟨L87, eL87⟩ : ∃ x, x = s18.1 ++ z86.1 := ⟨_, rfl⟩
        obtain ⟨w88, hw88⟩ : ∃ x, x = z86 := ⟨_, rfl⟩
        rw [← hw88] at hF
        have hbl : L87.length ≤ y.1.length ∧ wt L87 ≤ wt y.1 := room_d (show L20 = L87 ++ t17 by rw [eq17, et17, eL87]; simp only [List.append_assoc]) hbl20
        have hT : L87 = s18.1 ++ w88.1 := by rw [eL87, hw88]
        have h2 : z86.2 = w88.2 := by rw [hw88]
        have hk : (xt G s18.1).2.1 a = 0 := by rw [eu17]; exact xt_k _ hc hk
        have hc : a < (xt G s18.1).1 := by rw [eu17]; exact xt_l _ hc
        have hk2 : (xt G s18.1).2.1 b2 = 9 := by rw [eu17]; exact xt_k _ hc2 hk2
        have hc2 : b2 < (xt G s18.1).1 := by rw [eu17]; exact xt_l _ hc2
        have hk3 : (xt G s18.1).2.1 b3 = 3 := by rw [eu17]; exact xt_k _ hc3 hk3
        have hc3 : b3 < (xt G s18.1).1 := by rw [eu17]; exact xt_l _ hc3
        have hk4 : (xt G s18.1).2.1 b4 = 13 := by rw [eu17]; exact xt_k _ hc4 hk4
        have hc4 : b4 < (xt G s18.1).1 := by rw [eu17]; exact xt_l _ hc4
        have hk8 : (xt G s18.1).2.1 b8 = 13 := by rw [eu17]; exact xt_k _ hc8 hk8
        have hc8 : b8 < (xt G s18.1).1 := by rw [eu17]; exact xt_l _ hc8
        refine lv_iload hx hb dX0_writeMotion_72 (lv_at hl 0 rfl) ?_
        refine lv_iconst (v := (2 : Int32)) hx hb dX0_writeMotion_74 (by decide) ?_
        refine lv_icmp_ge (tgt := 202) hx hb dX0_writeMotion_75 (by decide) (fun c89 => ?_) (fun c89 => ?_)
        · rw [if_pos c89] at hF
          obtain rfl := Option.some.inj hF
          have e1 : L87 = s18.1 := by rw [hT]; exact List.append_nil _
          have e2 : z86.2 = .inr ((s18.2.1, s18.2.2)) := h2
          rw [e2] at hwz86
          obtain ⟨hw1, hw2⟩ := hwz86
          have e8 : L20 = s18.1 := by rw [eq17, hw2, ← eL87, e1]
          rw [e8] at K17
          try rw [← hw1] at K17
          exact K17 _ hag _ _ _ hP hD hS (lv_sub hl [1] rfl)
        · rw [if_neg c89] at hF
          refine lv_aload_n hx hb dX0_writeMotion_78 rfl (lv_at hl 1 rfl) ?_
          refine va_get (D := D) (ci := 0) (v := va_re ad84 (s18.2.2.2 a 3)) (C := RX0) (T := TX0) (N := 21) hx hb hts (mus hf_X0) hown hK hP a (wld_o ct ad84 (xt G s18.1) s18.2.2 hc hk (by decide)) rfl 3 (by decide) (hts (.fieldLink RX0 36 "VideoSuite$Coder" "work" "LVideoSuite$Work;") (mu mw_817)) (fun _ h9 => h9) rfl dX0_writeMotion_79 ?_
          obtain ⟨b90, ho90, hc90, hk90, hF⟩ := dr_some hF
          refine W_st (st' := [.ref (ad84 b90)]) (by rw [va_some ho90]) ?_
          refine va_get (D := D) (ci := 9) (v := va_re ad84 (s18.2.2.2 b90 1)) (C := RX9) (T := TX9) (N := 20) hx hb hts (mus hf_X9) hown hK hP b90 (wld_o ct ad84 (xt G s18.1) s18.2.2 hc90 hk90 (by decide)) rfl 1 (by decide) (hts (.fieldLink RX0 81 "VideoSuite$Work" "head" "LVideoSuite$Header;") (mu mw_425)) (fun _ h9 => h9) rfl dX0_writeMotion_82 ?_
          obtain ⟨b91, ho91, hc91, hk91, hF⟩ := dr_some hF
          refine W_st (st' := [.ref (ad84 b91)]) (by rw [va_some ho91]) ?_
          refine va_get (D := D) (ci := 3) (v := va_re ad84 (s18.2.2.2 b91 0)) (C := RX3) (T := TX3) (N := 4) hx hb hts (mus hf_X3) hown hK hP b91 (wld_o ct ad84 (xt G s18.1) s18.2.2 hc91 hk91 (by decide)) rfl 0 (by decide) (hts (.fieldLink RX0 252 "VideoSuite$Header" "v" "[I") (mu mw_620)) (fun _ h9 => h9) rfl dX0_writeMotion_85 ?_
          refine lv_bipush (v := (9 : Int32)) hx hb dX0_writeMotion_88 (by decide) ?_
          refine lv_iload hx hb dX0_writeMotion_90 (lv_at hl 0 rfl) ?_
          refine lv_iadd hx hb dX0_writeMotion_92 ?_
          obtain ⟨x92, ex92, hF⟩ := ltt_some hF
          refine lv_topi (fun zx92 ezx92 => ?_)
          obtain rfl : x92 = zx92 := ex92.trans ezx92.symm
          obtain ⟨b93, ho93, hc93, hk93, hF⟩ := dr_some hF
          refine W_st (st' := [.int x92, .ref (ad84 b93)]) (by rw [va_some ho93]) ?_
          obtain ⟨hvc, hF⟩ := chk_some hF
          refine va_iald hx hb hK hP b93 1 (wld_i ct ad84 (xt G s18.1) s18.2.2 hc93 hk93) rfl hvc dX0_writeMotion_93 ?_
          obtain ⟨x94, ex94, hF⟩ := ltt_some hF
          refine lv_topi (fun zx94 ezx94 => ?_)
          obtain rfl : x94 = zx94 := ex94.trans ezx94.symm
          refine lv_istore (lv' := [(5, .int x94), (4, .int s18.2.1), (0, .ref (ad84 a)), (1, .int p0)]) hx hb dX0_writeMotion_94 hl (by decide) rfl (fun ls hl => ?_)
          refine lv_iconst (v := (0 : Int32)) hx hb dX0_writeMotion_96 (by decide) ?_
          refine lv_istore (lv' := [(6, .int (0 : Int32)), (5, .int x94), (4, .int s18.2.1), (0, .ref (ad84 a)), (1, .int p0)]) hx hb dX0_writeMotion_97 hl (by decide) rfl (fun ls hl => ?_)
          obtain ⟨y95, hy95, hF⟩ := bnd_some hF
          obtain ⟨w97, hF, ew97⟩ := app_some hF
          obtain ⟨L98, eL98, hF⟩ := ltt_some hF
          have hT98 : L87 = (s18.1 ++ y95.1) ++ w97.1 := by rw [hT, ew97]; simp only [List.append_assoc]
          have hbl98 : L98.length ≤ y.1.length ∧ wt L98 ≤ wt y.1 := by rw [eL98]; exact room_d hT98 hbl
          have K95 : ∀ (ad99 : Nat → Nat), agr G.1 ad ad99 → ∀ (H : Heap) (locs : List Loc) (ls : Array Slot), va_P D classes (wld ct ad99 (xt G L98) y95.2.2) H → va_D A (wld ct ad99 (xt G L98) y95.2.2) → va_S A s.heap H locs → lv_has ls 8 [(4, .int s18.2.1), (0, .ref (ad99 a)), (1, .int p0)] → W p l e (headSpec wuX0_writeMotion ({ frames := 6, cells := y.1.length, slots := wt y.1, locals := 198 })).room s m ([.ref (ad a), .int p0] : List Value).toArray below meth c H locs (L98 : NN).length (wt L98) (MQ below (va_Qv (fun (u : Nat → Nat) => agr G.1 ad u) (fun u t => kE D ct u (xt G y.1) A y.2 t) A) ([.ref (ad a), .int p0] : List Value).toArray s y.1.length (wt y.1) A) (F0 m 196 ls []) := by
            intro ad99 hag H locs ls hP hD hS hl
            have hT : L87 = L98 ++ w97.1 := by rw [hT98, eL98]
            have h2 : z86.2 = w97.2 := by rw [h2, ew97]
            have hk : (xt G L98).2.1 a = 0 := by rw [eL98]; exact xt_k _ hc hk
            have hc : a < (xt G L98).1 := by rw [eL98]; exact xt_l _ hc
            have hk2 : (xt G L98).2.1 b2 = 9 := by rw [eL98]; exact xt_k _ hc2 hk2
            have hc2 : b2 < (xt G L98).1 := by rw [eL98]; exact xt_l _ hc2
            have hk3 : (xt G L98).2.1 b3 = 3 := by rw [eL98]; exact xt_k _ hc3 hk3
            have hc3 : b3 < (xt G L98).1 := by rw [eL98]; exact xt_l _ hc3
            have hk4 : (xt G L98).2.1 b4 = 13 := by rw [eL98]; exact xt_k _ hc4 hk4
            have hc4 : b4 < (xt G L98).1 := by rw [eL98]; exact xt_l _ hc4
            have hk8 : (xt G L98).2.1 b8 = 13 := by rw [eL98]; exact xt_k _ hc8 hk8
            have hc8 : b8 < (xt G L98).1 := by rw [eL98]; exact xt_l _ hc8
            have hk90 : (xt G L98).2.1 b90 = 9 := by rw [eL98]; exact xt_k _ hc90 hk90
            have hc90 : b90 < (xt G L98).1 := by rw [eL98]; exact xt_l _ hc90
            have hk91 : (xt G L98).2.1 b91 = 3 := by rw [eL98]; exact xt_k _ hc91 hk91
            have hc91 : b91 < (xt G L98).1 := by rw [eL98]; exact xt_l _ hc91
            have hk93 : (xt G L98).2.1 b93 = 13 := by rw [eL98]; exact xt_k _ hc93 hk93
            have hc93 : b93 < (xt G L98).1 := by rw [eL98]; exact xt_l _ hc93
            obtain ⟨x100, ex100, hF⟩ := ltt_some hF
            refine lv_iinc (v := x100) (lv' := [(4, .int x100), (0, .ref (ad99 a)), (1, .int p0)]) hx hb dX0_writeMotion_196 hl (k := 0) rfl (by rw [ex100]; rfl) (by decide) rfl (fun ls hl => ?_)
            refine lv_goto (tgt := 72) hx hb dX0_writeMotion_199 (by decide) ?_
            obtain rfl := Option.some.inj hF
            have e1 : L87 = L98 := by rw [hT]; exact List.append_nil _
            have e2 : z86.2 = .inl (L98, (x100, y95.2.2)) := h2
            rw [e2] at hwz86
            obtain ⟨r2, er2, hwz86⟩ := hwz86
            exact hwz86 ⟨u17 ++ z86.1, by show L98 = _; rw [← e1, eL87, eu17]; simp only [List.append_assoc]⟩ (by show L20 = L98 ++ r2; rw [eq17, er2, ← e1, eL87]; simp only [List.append_assoc]) _ hag _ _ _ hP hD hS (lv_sub hl [0, 1, 2] rfl)
          clear hF
          refine itrA_rule (fun (s96 : NN × Int32 × DD) (r102 : NN) => (∃ t, s96.1 = s18.1 ++ t) → L98 = s96.1 ++ r102 → ∀ (ad101 : Nat → Nat), agr G.1 ad ad101 → ∀ (H : Heap) (locs : List Loc) (ls : Array Slot), va_P D classes (wld ct ad101 (xt G s96.1) s96.2.2) H → va_D A (wld ct ad101 (xt G s96.1) s96.2.2) → va_S A s.heap H locs → lv_has ls 8 [(6, .int s96.2.1), (5, .int x94), (4, .int s18.2.1), (0, .ref (ad101 a)), (1, .int p0)] → W p l e (headSpec wuX0_writeMotion ({ frames := 6, cells := y.1.length, slots := wt y.1, locals := 198 })).room s m ([.ref (ad a), .int p0] : List Value).toArray below meth c H locs (s96.1 : NN).length (wt s96.1) (MQ below (va_Qv (fun (u : Nat → Nat) => agr G.1 ad u) (fun u t => kE D ct u (xt G y.1) A y.2 t) A) ([.ref (ad a), .int p0] : List Value).toArray s y.1.length (wt y.1) A) (F0 m 99 ls [])) ?_ _ _ _ hy95 ⟨[], (List.append_nil _).symm⟩ eL98 _ hag _ _ _ hP hD hS (lv_sub hl [0, 1, 2, 3, 4] rfl)
          rintro s96 r102 ⟨z103, hF, ⟨t95, et95⟩, hwz103⟩ ⟨u95, eu95⟩ eq95 ad101 hag H locs ls hP hD hS hl
          try dsimp only at hF
          obtain ⟨L104, eL104⟩ : ∃ x, x = s96.1 ++ z103.1 := ⟨_, rfl⟩
          obtain ⟨w105, hw105⟩ : ∃ x, x = z103 := ⟨_, rfl⟩
          rw [← hw105] at hF
          have hbl : L104.length ≤ y.1.length ∧ wt L104 ≤ wt y.1 := room_d (show L98 = L104 ++ t95 by rw [eq95, et95, eL104]; simp only [List.append_assoc]) hbl98
          have hT : L104 = s96.1 ++ w105.1 := by rw [eL104, hw105]
          have h2 : z103.2 = w105.2 := by rw [hw105]
          have hk : (xt G s96.1).2.1 a = 0 := by rw [eu95]; exact xt_k _ hc hk
          have hc : a < (xt G s96.1).1 := by rw [eu95]; exact xt_l _ hc
          have hk2 : (xt G s96.1).2.1 b2 = 9 := by rw [eu95]; exact xt_k _ hc2 hk2
          have hc2 : b2 < (xt G s96.1).1 := by rw [eu95]; exact xt_l _ hc2
          have hk3 : (xt G s96.1).2.1 b3 = 3 := by rw [eu95]; exact xt_k _ hc3 hk3
          have hc3 : b3 < (xt G s96.1).1 := by rw [eu95]; exact xt_l _ hc3
          have hk4 : (xt G s96.1).2.1 b4 = 13 := by rw [eu95]; exact xt_k _ hc4 hk4
          have hc4 : b4 < (xt G s96.1).1 := by rw [eu95]; exact xt_l _ hc4
          have hk8 : (xt G s96.1).2.1 b8 = 13 := by rw [eu95]; exact xt_k _ hc8 hk8
          have hc8 : b8 < (xt G s96.1).1 := by rw [eu95]; exact xt_l _ hc8
          have hk90 : (xt G s96.1).2.1 b90 = 9 := by rw [eu95]; exact xt_k _ hc90 hk90
          have hc90 : b90 < (xt G s96.1).1 := by rw [eu95]; exact xt_l _ hc90
          have hk91 : (xt G s96.1).2.1 b91 = 3 := by rw [eu95]; exact xt_k _ hc91 hk91
          have hc91 : b91 < (xt G s96.1).1 := by rw [eu95]; exact xt_l _ hc91
          have hk93 : (xt G s96.1).2.1 b93 = 13 := by rw [eu95]; exact xt_k _ hc93 hk93
          have hc93 : b93 < (xt G s96.1).1 := by rw [eu95]; exact xt_l _ hc93
          refine lv_iload hx hb dX0_writeMotion_99 (lv_at hl 0 rfl) ?_
          refine lv_aload_n hx hb dX0_writeMotion_101 rfl (lv_at hl 3 rfl) ?_
          refine va_get (D := D) (ci := 0) (v := va_re ad101 (s96.2.2.2 a 3)) (C := RX0) (T := TX0) (N := 21) hx hb hts (mus hf_X0) hown hK hP a (wld_o ct ad101 (xt G s96.1) s96.2.2 hc hk (by decide)) rfl 3 (by decide) (hts (.fieldLink RX0 36 "VideoSuite$Coder" "work" "LVideoSuite$Work;") (mu mw_817)) (fun _ h9 => h9) rfl dX0_writeMotion_102 ?_
          obtain ⟨b106, ho106, hc106, hk106, hF⟩ := dr_some hF
          refine W_st (st' := [.ref (ad101 b106), .int s96.2.1]) (by rw [va_some ho106]) ?_
          refine va_get (D := D) (ci := 9) (v := .int (s96.2.2.1 b106 16)) (C := RX9) (T := TX9) (N := 20) hx hb hts (mus hf_X9) hown hK hP b106 (wld_o ct ad101 (xt G s96.1) s96.2.2 hc106 hk106 (by decide)) rfl 16 (by decide) (hts (.fieldLink RX0 387 "VideoSuite$Work" "groups" "I") (mu mw_477)) (fun _ h9 => h9) rfl dX0_writeMotion_105 ?_
          obtain ⟨x107, ex107, hF⟩ := ltt_some hF
          refine lv_topi (fun zx107 ezx107 => ?_)
          obtain rfl : x107 = zx107 := ex107.trans ezx107.symm
          refine lv_icmp_ge (tgt := 196) hx hb dX0_writeMotion_108 (by decide) (fun c108 => ?_) (fun c108 => ?_)
          · rw [if_pos c108] at hF
            obtain rfl := Option.some.inj hF
            have e1 : L104 = s96.1 := by rw [hT]; exact List.append_nil _
            have e2 : z103.2 = .inr ((s96.2.1, s96.2.2)) := h2
            rw [e2] at hwz103
            obtain ⟨hw1, hw2⟩ := hwz103
            have e8 : L98 = s96.1 := by rw [eq95, hw2, ← eL104, e1]
            rw [e8] at K95
            try rw [← hw1] at K95
            exact K95 _ hag _ _ _ hP hD hS (lv_sub hl [2, 3, 4] rfl)
          · rw [if_neg c108] at hF
            refine lv_iload hx hb dX0_writeMotion_111 (lv_at hl 1 rfl) ?_
            refine lv_iconst (v := (1 : Int32)) hx hb dX0_writeMotion_113 (by decide) ?_
            refine lv_icmp_le (tgt := 196) hx hb dX0_writeMotion_114 (by decide) (fun c109 => ?_) (fun c109 => ?_)
            · rw [if_pos c109] at hF
              obtain rfl := Option.some.inj hF
              have e1 : L104 = s96.1 := by rw [hT]; exact List.append_nil _
              have e2 : z103.2 = .inr ((s96.2.1, s96.2.2)) := h2
              rw [e2] at hwz103
              obtain ⟨hw1, hw2⟩ := hwz103
              have e8 : L98 = s96.1 := by rw [eq95, hw2, ← eL104, e1]
              rw [e8] at K95
              try rw [← hw1] at K95
              exact K95 _ hag _ _ _ hP hD hS (lv_sub hl [2, 3, 4] rfl)
            · rw [if_neg c109] at hF
              refine lv_aload_n hx hb dX0_writeMotion_117 rfl (lv_at hl 3 rfl) ?_
              refine va_get (D := D) (ci := 0) (v := va_re ad101 (s96.2.2.2 a 3)) (C := RX0) (T := TX0) (N := 21) hx hb hts (mus hf_X0) hown hK hP a (wld_o ct ad101 (xt G s96.1) s96.2.2 hc hk (by decide)) rfl 3 (by decide) (hts (.fieldLink RX0 36 "VideoSuite$Coder" "work" "LVideoSuite$Work;") (mu mw_817)) (fun _ h9 => h9) rfl dX0_writeMotion_118 ?_
              refine W_st (st' := [.ref (ad101 b106)]) (by rw [va_some ho106]) ?_
              refine va_get (D := D) (ci := 9) (v := va_re ad101 (s96.2.2.2 b106 15)) (C := RX9) (T := TX9) (N := 20) hx hb hts (mus hf_X9) hown hK hP b106 (wld_o ct ad101 (xt G s96.1) s96.2.2 hc106 hk106 (by decide)) rfl 15 (by decide) (hts (.fieldLink RX0 390 "VideoSuite$Work" "group" "[I") (mu mw_474)) (fun _ h9 => h9) rfl dX0_writeMotion_121 ?_
              refine lv_iconst (v := (4 : Int32)) hx hb dX0_writeMotion_124 (by decide) ?_
              refine lv_iload hx hb dX0_writeMotion_125 (lv_at hl 0 rfl) ?_
              refine lv_imul hx hb dX0_writeMotion_127 ?_
              obtain ⟨x110, ex110, hF⟩ := ltt_some hF
              refine lv_topi (fun zx110 ezx110 => ?_)
              obtain rfl : x110 = zx110 := ex110.trans ezx110.symm
              refine lv_iconst (v := (3 : Int32)) hx hb dX0_writeMotion_128 (by decide) ?_
              refine lv_iadd hx hb dX0_writeMotion_129 ?_
              obtain ⟨x111, ex111, hF⟩ := ltt_some hF
              refine lv_topi (fun zx111 ezx111 => ?_)
              obtain rfl : x111 = zx111 := ex111.trans ezx111.symm
              obtain ⟨b112, ho112, hc112, hk112, hF⟩ := dr_some hF
              refine W_st (st' := [.int x111, .ref (ad101 b112)]) (by rw [va_some ho112]) ?_
              obtain ⟨hvc, hF⟩ := chk_some hF
              refine va_iald hx hb hK hP b112 1 (wld_i ct ad101 (xt G s96.1) s96.2.2 hc112 hk112) rfl hvc dX0_writeMotion_130 ?_
              obtain ⟨x113, ex113, hF⟩ := ltt_some hF
              refine lv_topi (fun zx113 ezx113 => ?_)
              obtain rfl : x113 = zx113 := ex113.trans ezx113.symm
              refine lv_iload hx hb dX0_writeMotion_131 (lv_at hl 2 rfl) ?_
              refine lv_ishr hx hb dX0_writeMotion_133 ?_
              obtain ⟨x114, ex114, hF⟩ := ltt_some hF
              refine lv_topi (fun zx114 ezx114 => ?_)
              obtain rfl : x114 = zx114 := ex114.trans ezx114.symm
              refine lv_iconst (v := (1 : Int32)) hx hb dX0_writeMotion_134 (by decide) ?_
              refine lv_iand hx hb dX0_writeMotion_135 ?_
              obtain ⟨x115, ex115, hF⟩ := ltt_some hF
              refine lv_topi (fun zx115 ezx115 => ?_)
              obtain rfl : x115 = zx115 := ex115.trans ezx115.symm
              refine lv_iconst (v := (1 : Int32)) hx hb dX0_writeMotion_136 (by decide) ?_
              obtain ⟨y116, hy116, hF⟩ := bnd_some hF
              obtain ⟨w117, hF, ew117⟩ := app_some hF
              obtain ⟨L118, eL118, hF⟩ := ltt_some hF
              have hT118 : L104 = (s96.1 ++ y116.1) ++ w117.1 := by rw [hT, ew117]; simp only [List.append_assoc]
              have hbl118 : L118.length ≤ y.1.length ∧ wt L118 ≤ wt y.1 := by rw [eL118]; exact room_d hT118 hbl
              have J116 : ∀ (ad119 : Nat → Nat), agr G.1 ad ad119 → ∀ (H : Heap) (locs : List Loc) (ls : Array Slot), va_P D classes (wld ct ad119 (xt G L118) y116.2) H → va_D A (wld ct ad119 (xt G L118) y116.2) → va_S A s.heap H locs → lv_has ls 8 [(6, .int s96.2.1), (5, .int x94), (4, .int s18.2.1), (0, .ref (ad119 a)), (1, .int p0)] → W p l e (headSpec wuX0_writeMotion ({ frames := 6, cells := y.1.length, slots := wt y.1, locals := 198 })).room s m ([.ref (ad a), .int p0] : List Value).toArray below meth c H locs (L118 : NN).length (wt L118) (MQ below (va_Qv (fun (u : Nat → Nat) => agr G.1 ad u) (fun u t => kE D ct u (xt G y.1) A y.2 t) A) ([.ref (ad a), .int p0] : List Value).toArray s y.1.length (wt y.1) A) (F0 m 190 ls []) := by
                intro ad119 hag H locs ls hP hD hS hl
                have hT : L104 = L118 ++ w117.1 := by rw [hT118, eL118]
                have h2 : z103.2 = w117.2 := by rw [h2, ew117]
                have hk : (xt G L118).2.1 a = 0 := by rw [eL118]; exact xt_k _ hc hk
                have hc : a < (xt G L118).1 := by rw [eL118]; exact xt_l _ hc
                have hk2 : (xt G L118).2.1 b2 = 9 := by rw [eL118]; exact xt_k _ hc2 hk2
                have hc2 : b2 < (xt G L118).1 := by rw [eL118]; exact xt_l _ hc2
                have hk3 : (xt G L118).2.1 b3 = 3 := by rw [eL118]; exact xt_k _ hc3 hk3
                have hc3 : b3 < (xt G L118).1 := by rw [eL118]; exact xt_l _ hc3
                have hk4 : (xt G L118).2.1 b4 = 13 := by rw [eL118]; exact xt_k _ hc4 hk4
                have hc4 : b4 < (xt G L118).1 := by rw [eL118]; exact xt_l _ hc4
                have hk8 : (xt G L118).2.1 b8 = 13 := by rw [eL118]; exact xt_k _ hc8 hk8
                have hc8 : b8 < (xt G L118).1 := by rw [eL118]; exact xt_l _ hc8
                have hk90 : (xt G L118).2.1 b90 = 9 := by rw [eL118]; exact xt_k _ hc90 hk90
                have hc90 : b90 < (xt G L118).1 := by rw [eL118]; exact xt_l _ hc90
                have hk91 : (xt G L118).2.1 b91 = 3 := by rw [eL118]; exact xt_k _ hc91 hk91
                have hc91 : b91 < (xt G L118).1 := by rw [eL118]; exact xt_l _ hc91
                have hk93 : (xt G L118).2.1 b93 = 13 := by rw [eL118]; exact xt_k _ hc93 hk93
                have hc93 : b93 < (xt G L118).1 := by rw [eL118]; exact xt_l _ hc93
                have hk106 : (xt G L118).2.1 b106 = 9 := by rw [eL118]; exact xt_k _ hc106 hk106
                have hc106 : b106 < (xt G L118).1 := by rw [eL118]; exact xt_l _ hc106
                have hk112 : (xt G L118).2.1 b112 = 13 := by rw [eL118]; exact xt_k _ hc112 hk112
                have hc112 : b112 < (xt G L118).1 := by rw [eL118]; exact xt_l _ hc112
                obtain ⟨x120, ex120, hF⟩ := ltt_some hF
                refine lv_iinc (v := x120) (lv' := [(6, .int x120), (5, .int x94), (4, .int s18.2.1), (0, .ref (ad119 a)), (1, .int p0)]) hx hb dX0_writeMotion_190 hl (k := 0) rfl (by rw [ex120]; rfl) (by decide) rfl (fun ls hl => ?_)
                refine lv_goto (tgt := 99) hx hb dX0_writeMotion_193 (by decide) ?_
                obtain rfl := Option.some.inj hF
                have e1 : L104 = L118 := by rw [hT]; exact List.append_nil _
                have e2 : z103.2 = .inl (L118, (x120, y116.2)) := h2
                rw [e2] at hwz103
                obtain ⟨r2, er2, hwz103⟩ := hwz103
                exact hwz103 ⟨u95 ++ z103.1, by show L118 = _; rw [← e1, eL104, eu95]; simp only [List.append_assoc]⟩ (by show L98 = L118 ++ r2; rw [eq95, er2, ← e1, eL104]; simp only [List.append_assoc]) _ hag _ _ _ hP hD hS (lv_sub hl [0, 1, 2, 3, 4] rfl)
              clear hF
              obtain ⟨w121, hw121⟩ : ∃ z, z = y116 := ⟨_, rfl⟩
              have hF := hy116
              rw [← hw121] at hF
              clear hy116
              have hT : L118 = s96.1 ++ w121.1 := by rw [eL118, hw121]
              have h2 : y116.2 = w121.2 := by rw [hw121]
              have hbl := hbl118
              refine lv_icmp_ne (tgt := 190) hx hb dX0_writeMotion_137 (by decide) (fun c122 => ?_) (fun c122 => ?_)
              · rw [if_neg c122] at hF
                obtain rfl := Option.some.inj hF
                have e1 : L118 = s96.1 := by rw [hT]; exact List.append_nil _
                have e2 : y116.2 = s96.2.2 := h2
                rw [e1] at J116
                try rw [e2] at J116
                exact J116 _ hag _ _ _ hP hD hS (lv_sub hl [0, 1, 2, 3, 4] rfl)
              · rw [if_pos c122] at hF
                refine lv_bipush (v := (16 : Int32)) hx hb dX0_writeMotion_140 (by decide) ?_
                refine lv_iload_n hx hb dX0_writeMotion_142 rfl (lv_at hl 4 rfl) ?_
                refine lv_imul hx hb dX0_writeMotion_143 ?_
                obtain ⟨x123, ex123, hF⟩ := ltt_some hF
                refine lv_topi (fun zx123 ezx123 => ?_)
                obtain rfl : x123 = zx123 := ex123.trans ezx123.symm
                refine lv_aload_n hx hb dX0_writeMotion_144 rfl (lv_at hl 3 rfl) ?_
                refine va_get (D := D) (ci := 0) (v := va_re ad101 (s96.2.2.2 a 3)) (C := RX0) (T := TX0) (N := 21) hx hb hts (mus hf_X0) hown hK hP a (wld_o ct ad101 (xt G s96.1) s96.2.2 hc hk (by decide)) rfl 3 (by decide) (hts (.fieldLink RX0 36 "VideoSuite$Coder" "work" "LVideoSuite$Work;") (mu mw_817)) (fun _ h9 => h9) rfl dX0_writeMotion_145 ?_
                refine W_st (st' := [.ref (ad101 b106), .int x123]) (by rw [va_some ho106]) ?_
                refine va_get (D := D) (ci := 9) (v := va_re ad101 (s96.2.2.2 b106 15)) (C := RX9) (T := TX9) (N := 20) hx hb hts (mus hf_X9) hown hK hP b106 (wld_o ct ad101 (xt G s96.1) s96.2.2 hc106 hk106 (by decide)) rfl 15 (by decide) (hts (.fieldLink RX0 390 "VideoSuite$Work" "group" "[I") (mu mw_474)) (fun _ h9 => h9) rfl dX0_writeMotion_148 ?_
                refine lv_iconst (v := (4 : Int32)) hx hb dX0_writeMotion_151 (by decide) ?_
                refine lv_iload hx hb dX0_writeMotion_152 (lv_at hl 0 rfl) ?_
                refine lv_imul hx hb dX0_writeMotion_154 ?_
                obtain ⟨x124, ex124, hF⟩ := ltt_some hF
                refine lv_topi (fun zx124 ezx124 => ?_)
                obtain rfl : x124 = zx124 := ex124.trans ezx124.symm
                refine W_st (st' := [.int x124, .ref (ad101 b112), .int x123]) (by rw [va_some ho112]) ?_
                obtain ⟨hvc, hF⟩ := chk_some hF
                refine va_iald hx hb hK hP b112 1 (wld_i ct ad101 (xt G s96.1) s96.2.2 hc112 hk112) rfl hvc dX0_writeMotion_155 ?_
                obtain ⟨x125, ex125, hF⟩ := ltt_some hF
                refine lv_topi (fun zx125 ezx125 => ?_)
                obtain rfl : x125 = zx125 := ex125.trans ezx125.symm
                refine lv_iadd hx hb dX0_writeMotion_156 ?_
                obtain ⟨x126, ex126, hF⟩ := ltt_some hF
                refine lv_topi (fun zx126 ezx126 => ?_)
                obtain rfl : x126 = zx126 := ex126.trans ezx126.symm
                refine lv_istore (lv' := [(7, .int x126), (6, .int s96.2.1), (5, .int x94), (4, .int s18.2.1), (0, .ref (ad101 a)), (1, .int p0)]) hx hb dX0_writeMotion_157 hl (by decide) rfl (fun ls hl => ?_)
                refine lv_aload_n hx hb dX0_writeMotion_159 rfl (lv_at hl 4 rfl) ?_
                refine va_get (D := D) (ci := 0) (v := va_re ad101 (s96.2.2.2 a 2)) (C := RX0) (T := TX0) (N := 21) hx hb hts (mus hf_X0) hown hK hP a (wld_o ct ad101 (xt G s96.1) s96.2.2 hc hk (by decide)) rfl 2 (by decide) (hts (.fieldLink RX0 29 "VideoSuite$Coder" "writer" "LVideoSuite$Writer;") (mu mw_815)) (fun _ h9 => h9) rfl dX0_writeMotion_160 ?_
                refine lv_bipush (v := (6 : Int32)) hx hb dX0_writeMotion_163 (by decide) ?_
                refine lv_iload hx hb dX0_writeMotion_165 (lv_at hl 2 rfl) ?_
                refine lv_iconst (v := (1 : Int32)) hx hb dX0_writeMotion_167 (by decide) ?_
                refine lv_isub hx hb dX0_writeMotion_168 ?_
                obtain ⟨x127, ex127, hF⟩ := ltt_some hF
                refine lv_topi (fun zx127 ezx127 => ?_)
                obtain rfl : x127 = zx127 := ex127.trans ezx127.symm
                refine lv_aload_n hx hb dX0_writeMotion_169 rfl (lv_at hl 4 rfl) ?_
                refine va_get (D := D) (ci := 0) (v := va_re ad101 (s96.2.2.2 a 3)) (C := RX0) (T := TX0) (N := 21) hx hb hts (mus hf_X0) hown hK hP a (wld_o ct ad101 (xt G s96.1) s96.2.2 hc hk (by decide)) rfl 3 (by decide) (hts (.fieldLink RX0 36 "VideoSuite$Coder" "work" "LVideoSuite$Work;") (mu mw_817)) (fun _ h9 => h9) rfl dX0_writeMotion_170 ?_
                refine W_st (st' := [.ref (ad101 b106), .int x127, .int (6 : Int32), va_re ad101 (s96.2.2.2 a 2)]) (by rw [va_some ho106]) ?_
                refine va_get (D := D) (ci := 9) (v := va_re ad101 (s96.2.2.2 b106 0)) (C := RX9) (T := TX9) (N := 20) hx hb hts (mus hf_X9) hown hK hP b106 (wld_o ct ad101 (xt G s96.1) s96.2.2 hc106 hk106 (by decide)) rfl 0 (by decide) (hts (.fieldLink RX0 266 "VideoSuite$Work" "pic" "LVideoSuite$Picture;") (mu mw_424)) (fun _ h9 => h9) rfl dX0_writeMotion_173 ?_
                obtain ⟨b128, ho128, hc128, hk128, hF⟩ := dr_some hF
                refine W_st (st' := [.ref (ad101 b128), .int x127, .int (6 : Int32), va_re ad101 (s96.2.2.2 a 2)]) (by rw [va_some ho128]) ?_
                refine va_get (D := D) (ci := 4) (v := va_re ad101 (s96.2.2.2 b128 5)) (C := RX4) (T := TX4) (N := 18) hx hb hts (mus hf_X4) hown hK hP b128 (wld_o ct ad101 (xt G s96.1) s96.2.2 hc128 hk128 (by decide)) rfl 5 (by decide) (hts (.fieldLink RX0 409 "VideoSuite$Picture" "reference" "[I") (mu mw_1441)) (fun _ h9 => h9) rfl dX0_writeMotion_176 ?_
                refine lv_iload hx hb dX0_writeMotion_179 (lv_at hl 3 rfl) ?_
                refine lv_iload hx hb dX0_writeMotion_181 (lv_at hl 0 rfl) ?_
                obtain ⟨y129, hy129, hF⟩ := bnd_some hF
                have hf9 := wA_in hD hA9 hS
                refine va_calli (va_runS (As := [.int s18.2.1, .int x126]) (rest := [va_re ad101 (s96.2.2.2 b128 5), .int x127, .int (6 : Int32), va_re ad101 (s96.2.2.2 a 2)]) ⟨hx, hb, hml, hown, hts⟩ (kX4_at l D ct ad101 Z (xt G s96.1) s96.2.2 H.size s18.2.1 x126 y129 hy129) (va_cwS 2 hts gX0_writeMotion_X4_at rfl rfl rfl (by decide +kernel) ⟨Nat.le_of_ble_eq_true rfl, Nat.le_of_ble_eq_true rfl⟩) ⟨fun a U g mk q => by obtain ⟨q0, q1, qP, qK, qD, qZ, qN⟩ := q; exact ⟨q0, q1, qP, va_K.moved (u := U) (U := U.calling g mk a) (Vm.Alike.refl U.vm) qK, qD, sF.moved (u := U) (U := U.calling g mk a) (Vm.Alike.refl U.vm) qZ, nF.same rfl qN⟩, fun U hU hW => ⟨rfl, by rw [hU], by rw [hU]; exact hP, va_K.moved hW.alike hK, hD.weaken (fun _ _ _ _ => trivial), by rw [hU]; exact ((hZ.kept hS.2.1).narrow hf9).moved hW.alike, hN.warm hW⟩⟩ rfl rfl hl.1 rfl (lv_room (by simp only [List.map, va_re_cat]; exact Nat.le_of_ble_eq_true rfl)) dX0_writeMotion_183 (room_d hT hbl)) hS (fun q _ h => hf9 q h) hf9 (fun r u t H locs ht hvm hw hB hz1 hk1 hS => ?_)
                obtain ⟨hP, hK9, hD9⟩ := hB
                rw [ht] at hP
                try dsimp only at hw
                subst hw
                refine W_cs (k := (s96.1 : NN).length) (n := wt s96.1) rfl rfl ?_
                have hD := hD9.weaken (fun _ q _ h => hf9 q.1 h)
                obtain ⟨b130, ho130, hc130, hk130, hF⟩ := dr_some hF
                refine W_st (st' := [.int y129.2, .ref (ad101 b130), .int x127, .int (6 : Int32), va_re ad101 (s96.2.2.2 a 2)]) (by rw [va_some ho130]) ?_
                obtain ⟨hvc, hF⟩ := chk_some hF
                refine va_iald hx hb hK hP b130 1 (wld_i ct ad101 (xt G s96.1) y129.1 hc130 hk130) rfl hvc dX0_writeMotion_186 ?_
                obtain ⟨x131, ex131, hF⟩ := ltt_some hF
                refine lv_topi (fun zx131 ezx131 => ?_)
                obtain rfl : x131 = zx131 := ex131.trans ezx131.symm
                obtain ⟨b132, ho132, hc132, hk132, hF⟩ := dr_some hF
                refine W_st (st' := [.int x131, .int x127, .int (6 : Int32), .ref (ad101 b132)]) (by rw [va_some ho132]) ?_
                obtain ⟨y133, hy133, hF⟩ := bnd_some hF
                obtain ⟨w134, hF, ew134⟩ := app_some hF
                obtain ⟨L135, eL135, hF⟩ := ltt_some hF
                have hT135 : L118 = (s96.1 ++ y133.1) ++ w134.1 := by rw [hT, ew134]; simp only [List.append_assoc]
                have hf9 := wA_in hD hA9 hS
                refine va_callv (va_runV (As := [.int (6 : Int32), .int x127, .int x131]) (rest := []) ⟨hx, hb, hml, hown, hts⟩ (kX10_te l D ct ad101 Z (xt G s96.1) y129.1 _ b132 ((6 : Int32)) x127 x131 y133 hc132 hk132 hy133) (cwV 3 hts gX0_writeMotion_X10_te rfl rfl rfl (by decide +kernel) ⟨Nat.le_of_ble_eq_true rfl, Nat.le_of_ble_eq_true rfl⟩) ⟨fun a U g mk q => by obtain ⟨q0, q1, qP, qK, qD, qZ, qN⟩ := q; exact ⟨q0, q1, qP, va_K.moved (u := U) (U := U.calling g mk a) (Vm.Alike.refl U.vm) qK, qD, sF.moved (u := U) (U := U.calling g mk a) (Vm.Alike.refl U.vm) qZ, nF.same rfl qN⟩, va_recv hK hP (ci := 10) (q0 := b132) rfl (wld_o ct ad101 (xt G s96.1) y129.1 hc132 hk132 (by decide)), fun U hU hW => ⟨rfl, by rw [hU], by rw [hU]; exact hP, va_K.moved hW.alike hK, hD.weaken (fun _ _ _ _ => trivial), by rw [hU]; exact ((hZ.kept hS.2.1).narrow hf9).moved hW.alike, hN.warm hW⟩⟩ rfl rfl hl.1 rfl (lv_room (Nat.le_of_ble_eq_true rfl)) dX0_writeMotion_187 (room_s hT135 hbl)) hS (fun q _ h => hf9 q h) hf9 (fun ad136 t H locs ht hvm hw hB hz1 hk1 hS => ?_)
                have hn137 := hw
                obtain ⟨hP, hK9, hD9⟩ := hB
                rw [ht] at hP
                have hD := hD9.weaken (fun _ q _ h => hf9 q.1 h)
                rw [xt_xt, ← eL135] at hP hD
                refine W_cs (k := L135.length) (n := wt L135) (by rw [eL135]; exact (len_s s96.1 y133.1).symm) (by rw [eL135]; exact (wt_app s96.1 y133.1).symm) ?_
                have hT : L118 = L135 ++ w134.1 := by rw [hT135, eL135]
                have h2 : y116.2 = w134.2 := by rw [h2, ew134]
                have hl := lv_sub (l' := [(6, .int s96.2.1), (5, .int x94), (4, .int s18.2.1), (0, .ref (ad101 a)), (1, .int p0)]) hl [1, 2, 3, 4, 5] rfl
                have e9 : ([(6, .int s96.2.1), (5, .int x94), (4, .int s18.2.1), (0, .ref (ad101 a)), (1, .int p0)] : List (Nat × Value)) = [(6, .int s96.2.1), (5, .int x94), (4, .int s18.2.1), (0, .ref (ad136 a)), (1, .int p0)] := (by first | rfl | simp only [hn137 a hc])
                rw [e9] at hl
                clear e9
                have hk : (xt G L135).2.1 a = 0 := by rw [eL135]; exact xt_k _ hc hk
                have hc : a < (xt G L135).1 := by rw [eL135]; exact xt_l _ hc
                have hk2 : (xt G L135).2.1 b2 = 9 := by rw [eL135]; exact xt_k _ hc2 hk2
                have hc2 : b2 < (xt G L135).1 := by rw [eL135]; exact xt_l _ hc2
                have hk3 : (xt G L135).2.1 b3 = 3 := by rw [eL135]; exact xt_k _ hc3 hk3
                have hc3 : b3 < (xt G L135).1 := by rw [eL135]; exact xt_l _ hc3
                have hk4 : (xt G L135).2.1 b4 = 13 := by rw [eL135]; exact xt_k _ hc4 hk4
                have hc4 : b4 < (xt G L135).1 := by rw [eL135]; exact xt_l _ hc4
                have hk8 : (xt G L135).2.1 b8 = 13 := by rw [eL135]; exact xt_k _ hc8 hk8
                have hc8 : b8 < (xt G L135).1 := by rw [eL135]; exact xt_l _ hc8
                have hk90 : (xt G L135).2.1 b90 = 9 := by rw [eL135]; exact xt_k _ hc90 hk90
                have hc90 : b90 < (xt G L135).1 := by rw [eL135]; exact xt_l _ hc90
                have hk91 : (xt G L135).2.1 b91 = 3 := by rw [eL135]; exact xt_k _ hc91 hk91
                have hc91 : b91 < (xt G L135).1 := by rw [eL135]; exact xt_l _ hc91
                have hk93 : (xt G L135).2.1 b93 = 13 := by rw [eL135]; exact xt_k _ hc93 hk93
                have hc93 : b93 < (xt G L135).1 := by rw [eL135]; exact xt_l _ hc93
                have hk106 : (xt G L135).2.1 b106 = 9 := by rw [eL135]; exact xt_k _ hc106 hk106
                have hc106 : b106 < (xt G L135).1 := by rw [eL135]; exact xt_l _ hc106
                have hk112 : (xt G L135).2.1 b112 = 13 := by rw [eL135]; exact xt_k _ hc112 hk112
                have hc112 : b112 < (xt G L135).1 := by rw [eL135]; exact xt_l _ hc112
                have hk128 : (xt G L135).2.1 b128 = 4 := by rw [eL135]; exact xt_k _ hc128 hk128
                have hc128 : b128 < (xt G L135).1 := by rw [eL135]; exact xt_l _ hc128
                have hk130 : (xt G L135).2.1 b130 = 13 := by rw [eL135]; exact xt_k _ hc130 hk130
                have hc130 : b130 < (xt G L135).1 := by rw [eL135]; exact xt_l _ hc130
                have hk132 : (xt G L135).2.1 b132 = 10 := by rw [eL135]; exact xt_k _ hc132 hk132
                have hc132 : b132 < (xt G L135).1 := by rw [eL135]; exact xt_l _ hc132
                have hag := agr_t (xt_ge _ _) hag hn137
                obtain rfl := Option.some.inj hF
                have e1 : L118 = L135 := by rw [hT]; exact List.append_nil _
                have e2 : y116.2 = y133.2 := h2
                rw [e1] at J116
                try rw [e2] at J116
                exact J116 _ hag _ _ _ hP hD hS (lv_sub hl [0, 1, 2, 3, 4] rfl)
      · rw [if_pos c15] at hF
        refine lv_iload_n hx hb dX0_writeMotion_55 rfl (lv_at hl 0 rfl) ?_
        refine lv_if_ne (tgt := 60) hx hb dX0_writeMotion_56 (by decide) (fun c138 => ?_) (fun c138 => ?_)
        · rw [if_neg c138] at hF
          refine lv_aload_n hx hb dX0_writeMotion_60 rfl (lv_at hl 2 rfl) ?_
          refine va_get (D := D) (ci := 0) (v := va_re ad (M.2 a 3)) (C := RX0) (T := TX0) (N := 21) hx hb hts (mus hf_X0) hown hK hP a (wld_o ct ad (xt G []) M hc hk (by decide)) rfl 3 (by decide) (hts (.fieldLink RX0 36 "VideoSuite$Coder" "work" "LVideoSuite$Work;") (mu mw_817)) (fun _ h9 => h9) rfl dX0_writeMotion_61 ?_
          refine lv_iload_n hx hb dX0_writeMotion_64 rfl (lv_at hl 1 rfl) ?_
          refine lv_iload_n hx hb dX0_writeMotion_65 rfl (lv_at hl 0 rfl) ?_
          refine W_st (st' := [.int x9, .int x5, .ref (ad b2)]) (by rw [va_some ho2]) ?_
          obtain ⟨y139, hy139, hF⟩ := bnd_some hF
          have hf9 := wA_in hD hA9 hS
          refine va_callv (va_runV (As := [.int x5, .int x9]) (rest := []) ⟨hx, hb, hml, hown, hts⟩ (kX9_plan l D ct ad Z (xt G []) M s.heap.size b2 x5 x9 y139 hc2 hk2 hy139) (cwV 2 hts gX0_writeMotion_X9_plan rfl rfl rfl (by decide +kernel) ⟨Nat.le_of_ble_eq_true rfl, Nat.le_of_ble_eq_true rfl⟩) ⟨fun a U g mk q => by obtain ⟨q0, q1, qP, qK, qD, qZ, qN⟩ := q; exact ⟨q0, q1, qP, va_K.moved (u := U) (U := U.calling g mk a) (Vm.Alike.refl U.vm) qK, qD, sF.moved (u := U) (U := U.calling g mk a) (Vm.Alike.refl U.vm) qZ, nF.same rfl qN⟩, va_recv hK hP (ci := 9) (q0 := b2) rfl (wld_o ct ad (xt G []) M hc2 hk2 (by decide)), fun U hU hW => ⟨rfl, by rw [hU], by rw [hU]; exact hP, va_K.moved hW.alike hK, hD.weaken (fun _ _ _ _ => trivial), by rw [hU]; exact ((hZ.kept hS.2.1).narrow hf9).moved hW.alike, hN.warm hW⟩⟩ rfl rfl hl.1 rfl (lv_room (Nat.le_of_ble_eq_true rfl)) dX0_writeMotion_66 (room_d hT hbl)) hS (fun q _ h => hf9 q h) hf9 (fun u t H locs ht hvm hw hB hz1 hk1 hS => ?_)
          obtain ⟨hP, hK9, hD9⟩ := hB
          rw [ht] at hP
          refine W_cs (k := ([] : NN).length) (n := wt []) rfl rfl ?_
          have hD := hD9.weaken (fun _ q _ h => hf9 q.1 h)
          refine lv_iconst (v := (0 : Int32)) hx hb dX0_writeMotion_69 (by decide) ?_
          refine lv_istore (lv' := [(4, .int (0 : Int32)), (3, .int x9), (2, .int x5), (0, .ref (ad a)), (1, .int p0)]) hx hb dX0_writeMotion_70 hl (by decide) rfl (fun ls hl => ?_)
          obtain ⟨y140, hy140, hF⟩ := bnd_some hF
          obtain ⟨w142, hF, ew142⟩ := app_some hF
          obtain ⟨L143, eL143, hF⟩ := ltt_some hF
          have hT143 : y.1 = ([] ++ y140.1) ++ w142.1 := by rw [hT, ew142]; simp only [List.append_assoc]
          have hbl143 : L143.length ≤ y.1.length ∧ wt L143 ≤ wt y.1 := by rw [eL143]; exact room_d hT143 hbl
          have K140 : ∀ (ad144 : Nat → Nat), agr G.1 ad ad144 → ∀ (H : Heap) (locs : List Loc) (ls : Array Slot), va_P D classes (wld ct ad144 (xt G L143) y140.2.2) H → va_D A (wld ct ad144 (xt G L143) y140.2.2) → va_S A s.heap H locs → lv_has ls 8 [(0, .ref (ad144 a))] → W p l e (headSpec wuX0_writeMotion ({ frames := 6, cells := y.1.length, slots := wt y.1, locals := 198 })).room s m ([.ref (ad a), .int p0] : List Value).toArray below meth c H locs (L143 : NN).length (wt L143) (MQ below (va_Qv (fun (u : Nat → Nat) => agr G.1 ad u) (fun u t => kE D ct u (xt G y.1) A y.2 t) A) ([.ref (ad a), .int p0] : List Value).toArray s y.1.length (wt y.1) A) (F0 m 202 ls []) := by
            intro ad144 hag H locs ls hP hD hS hl
            have hT : y.1 = L143 ++ w142.1 := by rw [hT143, eL143]
            have h2 : y.2 = w142.2 := by rw [h2, ew142]
            have hk : (xt G L143).2.1 a = 0 := by rw [eL143]; exact xt_k _ hc hk
            have hc : a < (xt G L143).1 := by rw [eL143]; exact xt_l _ hc
            have hk2 : (xt G L143).2.1 b2 = 9 := by rw [eL143]; exact xt_k _ hc2 hk2
            have hc2 : b2 < (xt G L143).1 := by rw [eL143]; exact xt_l _ hc2
            have hk3 : (xt G L143).2.1 b3 = 3 := by rw [eL143]; exact xt_k _ hc3 hk3
            have hc3 : b3 < (xt G L143).1 := by rw [eL143]; exact xt_l _ hc3
            have hk4 : (xt G L143).2.1 b4 = 13 := by rw [eL143]; exact xt_k _ hc4 hk4
            have hc4 : b4 < (xt G L143).1 := by rw [eL143]; exact xt_l _ hc4
            have hk8 : (xt G L143).2.1 b8 = 13 := by rw [eL143]; exact xt_k _ hc8 hk8
            have hc8 : b8 < (xt G L143).1 := by rw [eL143]; exact xt_l _ hc8
            refine lv_iconst (v := (0 : Int32)) hx hb dX0_writeMotion_202 (by decide) ?_
            refine lv_istore (lv' := [(4, .int (0 : Int32)), (0, .ref (ad144 a))]) hx hb dX0_writeMotion_203 hl (by decide) rfl (fun ls hl => ?_)
            obtain ⟨y145, hy145, hF⟩ := bnd_some hF
            obtain ⟨w147, hF, ew147⟩ := app_some hF
            obtain ⟨L148, eL148, hF⟩ := ltt_some hF
            have hT148 : y.1 = (L143 ++ y145.1) ++ w147.1 := by rw [hT, ew147]; simp only [List.append_assoc]
            have hbl148 : L148.length ≤ y.1.length ∧ wt L148 ≤ wt y.1 := by rw [eL148]; exact room_d hT148 hbl
            have K145 : ∀ (ad149 : Nat → Nat), agr G.1 ad ad149 → ∀ (H : Heap) (locs : List Loc) (ls : Array Slot), va_P D classes (wld ct ad149 (xt G L148) y145.2.2) H → va_D A (wld ct ad149 (xt G L148) y145.2.2) → va_S A s.heap H locs → lv_has ls 8 [] → W p l e (headSpec wuX0_writeMotion ({ frames := 6, cells := y.1.length, slots := wt y.1, locals := 198 })).room s m ([.ref (ad a), .int p0] : List Value).toArray below meth c H locs (L148 : NN).length (wt L148) (MQ below (va_Qv (fun (u : Nat → Nat) => agr G.1 ad u) (fun u t => kE D ct u (xt G y.1) A y.2 t) A) ([.ref (ad a), .int p0] : List Value).toArray s y.1.length (wt y.1) A) (F0 m 317 ls []) := by
              intro ad149 hag H locs ls hP hD hS hl
              have hT : y.1 = L148 ++ w147.1 := by rw [hT148, eL148]
              have h2 : y.2 = w147.2 := by rw [h2, ew147]
              have hk : (xt G L148).2.1 a = 0 := by rw [eL148]; exact xt_k _ hc hk
              have hc : a < (xt G L148).1 := by rw [eL148]; exact xt_l _ hc
              have hk2 : (xt G L148).2.1 b2 = 9 := by rw [eL148]; exact xt_k _ hc2 hk2
              have hc2 : b2 < (xt G L148).1 := by rw [eL148]; exact xt_l _ hc2
              have hk3 : (xt G L148).2.1 b3 = 3 := by rw [eL148]; exact xt_k _ hc3 hk3
              have hc3 : b3 < (xt G L148).1 := by rw [eL148]; exact xt_l _ hc3
              have hk4 : (xt G L148).2.1 b4 = 13 := by rw [eL148]; exact xt_k _ hc4 hk4
              have hc4 : b4 < (xt G L148).1 := by rw [eL148]; exact xt_l _ hc4
              have hk8 : (xt G L148).2.1 b8 = 13 := by rw [eL148]; exact xt_k _ hc8 hk8
              have hc8 : b8 < (xt G L148).1 := by rw [eL148]; exact xt_l _ hc8
              obtain rfl := Option.some.inj hF
              have e1 : y.1 = L148 := by rw [hT]; exact List.append_nil _
              have e2 : y.2 = y145.2.2 := h2
              refine W.widen (k := y.1.length) (n := wt y.1) (Nat.le_of_eq (by rw [e1])) (Nat.le_of_eq (by rw [e1])) ?_
              exact W.vret hx hb hr (fun t ht hW => ⟨⟨ad149, rfl, hag, (by unfold kE; rw [e1, e2]; exact ⟨by rw [ht]; exact hP, va_K.moved hW.alike hK, hD⟩)⟩, hS.F ht⟩) hS.2.2 dX0_writeMotion_317
            clear hF
            refine itrA_rule (fun (s146 : NN × Int32 × DD) (r151 : NN) => (∃ t, s146.1 = L143 ++ t) → L148 = s146.1 ++ r151 → ∀ (ad150 : Nat → Nat), agr G.1 ad ad150 → ∀ (H : Heap) (locs : List Loc) (ls : Array Slot), va_P D classes (wld ct ad150 (xt G s146.1) s146.2.2) H → va_D A (wld ct ad150 (xt G s146.1) s146.2.2) → va_S A s.heap H locs → lv_has ls 8 [(4, .int s146.2.1), (0, .ref (ad150 a))] → W p l e (headSpec wuX0_writeMotion ({ frames := 6, cells := y.1.length, slots := wt y.1, locals := 198 })).room s m ([.ref (ad a), .int p0] : List Value).toArray below meth c H locs (s146.1 : NN).length (wt s146.1) (MQ below (va_Qv (fun (u : Nat → Nat) => agr G.1 ad u) (fun u t => kE D ct u (xt G y.1) A y.2 t) A) ([.ref (ad a), .int p0] : List Value).toArray s y.1.length (wt y.1) A) (F0 m 205 ls [])) ?_ _ _ _ hy145 ⟨[], (List.append_nil _).symm⟩ eL148 _ hag _ _ _ hP hD hS (lv_sub hl [0, 1] rfl)
            rintro s146 r151 ⟨z152, hF, ⟨t145, et145⟩, hwz152⟩ ⟨u145, eu145⟩ eq145 ad150 hag H locs ls hP hD hS hl
            try dsimp only at hF
            obtain ⟨L153, eL153⟩ : ∃ x, x = s146.1 ++ z152.1 := ⟨_, rfl⟩
            obtain ⟨w154, hw154⟩ : ∃ x, x = z152 := ⟨_, rfl⟩
            rw [← hw154] at hF
            have hbl : L153.length ≤ y.1.length ∧ wt L153 ≤ wt y.1 := room_d (show L148 = L153 ++ t145 by rw [eq145, et145, eL153]; simp only [List.append_assoc]) hbl148
            have hT : L153 = s146.1 ++ w154.1 := by rw [eL153, hw154]
            have h2 : z152.2 = w154.2 := by rw [hw154]
            have hk : (xt G s146.1).2.1 a = 0 := by rw [eu145]; exact xt_k _ hc hk
            have hc : a < (xt G s146.1).1 := by rw [eu145]; exact xt_l _ hc
            have hk2 : (xt G s146.1).2.1 b2 = 9 := by rw [eu145]; exact xt_k _ hc2 hk2
            have hc2 : b2 < (xt G s146.1).1 := by rw [eu145]; exact xt_l _ hc2
            have hk3 : (xt G s146.1).2.1 b3 = 3 := by rw [eu145]; exact xt_k _ hc3 hk3
            have hc3 : b3 < (xt G s146.1).1 := by rw [eu145]; exact xt_l _ hc3
            have hk4 : (xt G s146.1).2.1 b4 = 13 := by rw [eu145]; exact xt_k _ hc4 hk4
            have hc4 : b4 < (xt G s146.1).1 := by rw [eu145]; exact xt_l _ hc4
            have hk8 : (xt G s146.1).2.1 b8 = 13 := by rw [eu145]; exact xt_k _ hc8 hk8
            have hc8 : b8 < (xt G s146.1).1 := by rw [eu145]; exact xt_l _ hc8
            refine lv_iload hx hb dX0_writeMotion_205 (lv_at hl 0 rfl) ?_
            refine lv_iconst (v := (2 : Int32)) hx hb dX0_writeMotion_207 (by decide) ?_
            refine lv_icmp_ge (tgt := 317) hx hb dX0_writeMotion_208 (by decide) (fun c155 => ?_) (fun c155 => ?_)
            · rw [if_pos c155] at hF
              obtain rfl := Option.some.inj hF
              have e1 : L153 = s146.1 := by rw [hT]; exact List.append_nil _
              have e2 : z152.2 = .inr ((s146.2.1, s146.2.2)) := h2
              rw [e2] at hwz152
              obtain ⟨hw1, hw2⟩ := hwz152
              have e8 : L148 = s146.1 := by rw [eq145, hw2, ← eL153, e1]
              rw [e8] at K145
              try rw [← hw1] at K145
              exact K145 _ hag _ _ _ hP hD hS (lv_sub hl [] rfl)
            · rw [if_neg c155] at hF
              refine lv_iconst (v := (0 : Int32)) hx hb dX0_writeMotion_211 (by decide) ?_
              refine lv_istore (lv' := [(5, .int (0 : Int32)), (4, .int s146.2.1), (0, .ref (ad150 a))]) hx hb dX0_writeMotion_212 hl (by decide) rfl (fun ls hl => ?_)
              obtain ⟨y156, hy156, hF⟩ := bnd_some hF
              obtain ⟨w158, hF, ew158⟩ := app_some hF
              obtain ⟨L159, eL159, hF⟩ := ltt_some hF
              have hT159 : L153 = (s146.1 ++ y156.1) ++ w158.1 := by rw [hT, ew158]; simp only [List.append_assoc]
              have hbl159 : L159.length ≤ y.1.length ∧ wt L159 ≤ wt y.1 := by rw [eL159]; exact room_d hT159 hbl
              have K156 : ∀ (ad160 : Nat → Nat), agr G.1 ad ad160 → ∀ (H : Heap) (locs : List Loc) (ls : Array Slot), va_P D classes (wld ct ad160 (xt G L159) y156.2.2) H → va_D A (wld ct ad160 (xt G L159) y156.2.2) → va_S A s.heap H locs → lv_has ls 8 [(4, .int s146.2.1), (0, .ref (ad160 a))] → W p l e (headSpec wuX0_writeMotion ({ frames := 6, cells := y.1.length, slots := wt y.1, locals := 198 })).room s m ([.ref (ad a), .int p0] : List Value).toArray below meth c H locs (L159 : NN).length (wt L159) (MQ below (va_Qv (fun (u : Nat → Nat) => agr G.1 ad u) (fun u t => kE D ct u (xt G y.1) A y.2 t) A) ([.ref (ad a), .int p0] : List Value).toArray s y.1.length (wt y.1) A) (F0 m 311 ls []) := by
                intro ad160 hag H locs ls hP hD hS hl
                have hT : L153 = L159 ++ w158.1 := by rw [hT159, eL159]
                have h2 : z152.2 = w158.2 := by rw [h2, ew158]
                have hk : (xt G L159).2.1 a = 0 := by rw [eL159]; exact xt_k _ hc hk
                have hc : a < (xt G L159).1 := by rw [eL159]; exact xt_l _ hc
                have hk2 : (xt G L159).2.1 b2 = 9 := by rw [eL159]; exact xt_k _ hc2 hk2
                have hc2 : b2 < (xt G L159).1 := by rw [eL159]; exact xt_l _ hc2
                have hk3 : (xt G L159).2.1 b3 = 3 := by rw [eL159]; exact xt_k _ hc3 hk3
                have hc3 : b3 < (xt G L159).1 := by rw [eL159]; exact xt_l _ hc3
                have hk4 : (xt G L159).2.1 b4 = 13 := by rw [eL159]; exact xt_k _ hc4 hk4
                have hc4 : b4 < (xt G L159).1 := by rw [eL159]; exact xt_l _ hc4
                have hk8 : (xt G L159).2.1 b8 = 13 := by rw [eL159]; exact xt_k _ hc8 hk8
                have hc8 : b8 < (xt G L159).1 := by rw [eL159]; exact xt_l _ hc8
                obtain ⟨x161, ex161, hF⟩ := ltt_some hF
                refine lv_iinc (v := x161) (lv' := [(4, .int x161), (0, .ref (ad160 a))]) hx hb dX0_writeMotion_311 hl (k := 0) rfl (by rw [ex161]; rfl) (by decide) rfl (fun ls hl => ?_)
                refine lv_goto (tgt := 205) hx hb dX0_writeMotion_314 (by decide) ?_
                obtain rfl := Option.some.inj hF
                have e1 : L153 = L159 := by rw [hT]; exact List.append_nil _
                have e2 : z152.2 = .inl (L159, (x161, y156.2.2)) := h2
                rw [e2] at hwz152
                obtain ⟨r2, er2, hwz152⟩ := hwz152
                exact hwz152 ⟨u145 ++ z152.1, by show L159 = _; rw [← e1, eL153, eu145]; simp only [List.append_assoc]⟩ (by show L148 = L159 ++ r2; rw [eq145, er2, ← e1, eL153]; simp only [List.append_assoc]) _ hag _ _ _ hP hD hS (lv_sub hl [0, 1] rfl)
              clear hF
              refine itrA_rule (fun (s157 : NN × Int32 × DD) (r163 : NN) => (∃ t, s157.1 = s146.1 ++ t) → L159 = s157.1 ++ r163 → ∀ (ad162 : Nat → Nat), agr G.1 ad ad162 → ∀ (H : Heap) (locs : List Loc) (ls : Array Slot), va_P D classes (wld ct ad162 (xt G s157.1) s157.2.2) H → va_D A (wld ct ad162 (xt G s157.1) s157.2.2) → va_S A s.heap H locs → lv_has ls 8 [(5, .int s157.2.1), (4, .int s146.2.1), (0, .ref (ad162 a))] → W p l e (headSpec wuX0_writeMotion ({ frames := 6, cells := y.1.length, slots := wt y.1, locals := 198 })).room s m ([.ref (ad a), .int p0] : List Value).toArray below meth c H locs (s157.1 : NN).length (wt s157.1) (MQ below (va_Qv (fun (u : Nat → Nat) => agr G.1 ad u) (fun u t => kE D ct u (xt G y.1) A y.2 t) A) ([.ref (ad a), .int p0] : List Value).toArray s y.1.length (wt y.1) A) (F0 m 214 ls [])) ?_ _ _ _ hy156 ⟨[], (List.append_nil _).symm⟩ eL159 _ hag _ _ _ hP hD hS (lv_sub hl [0, 1, 2] rfl)
              rintro s157 r163 ⟨z164, hF, ⟨t156, et156⟩, hwz164⟩ ⟨u156, eu156⟩ eq156 ad162 hag H locs ls hP hD hS hl
              try dsimp only at hF
              obtain ⟨L165, eL165⟩ : ∃ x, x = s157.1 ++ z164.1 := ⟨_, rfl⟩
              obtain ⟨w166, hw166⟩ : ∃ x, x = z164 := ⟨_, rfl⟩
              rw [← hw166] at hF
              have hbl : L165.length ≤ y.1.length ∧ wt L165 ≤ wt y.1 := room_d (show L159 = L165 ++ t156 by rw [eq156, et156, eL165]; simp only [List.append_assoc]) hbl159
              have hT : L165 = s157.1 ++ w166.1 := by rw [eL165, hw166]
              have h2 : z164.2 = w166.2 := by rw [hw166]
              have hk : (xt G s157.1).2.1 a = 0 := by rw [eu156]; exact xt_k _ hc hk
              have hc : a < (xt G s157.1).1 := by rw [eu156]; exact xt_l _ hc
              have hk2 : (xt G s157.1).2.1 b2 = 9 := by rw [eu156]; exact xt_k _ hc2 hk2
              have hc2 : b2 < (xt G s157.1).1 := by rw [eu156]; exact xt_l _ hc2
              have hk3 : (xt G s157.1).2.1 b3 = 3 := by rw [eu156]; exact xt_k _ hc3 hk3
              have hc3 : b3 < (xt G s157.1).1 := by rw [eu156]; exact xt_l _ hc3
              have hk4 : (xt G s157.1).2.1 b4 = 13 := by rw [eu156]; exact xt_k _ hc4 hk4
              have hc4 : b4 < (xt G s157.1).1 := by rw [eu156]; exact xt_l _ hc4
              have hk8 : (xt G s157.1).2.1 b8 = 13 := by rw [eu156]; exact xt_k _ hc8 hk8
              have hc8 : b8 < (xt G s157.1).1 := by rw [eu156]; exact xt_l _ hc8
              refine lv_iload hx hb dX0_writeMotion_214 (lv_at hl 0 rfl) ?_
              refine lv_aload_n hx hb dX0_writeMotion_216 rfl (lv_at hl 2 rfl) ?_
              refine va_get (D := D) (ci := 0) (v := va_re ad162 (s157.2.2.2 a 3)) (C := RX0) (T := TX0) (N := 21) hx hb hts (mus hf_X0) hown hK hP a (wld_o ct ad162 (xt G s157.1) s157.2.2 hc hk (by decide)) rfl 3 (by decide) (hts (.fieldLink RX0 36 "VideoSuite$Coder" "work" "LVideoSuite$Work;") (mu mw_817)) (fun _ h9 => h9) rfl dX0_writeMotion_217 ?_
              obtain ⟨b167, ho167, hc167, hk167, hF⟩ := dr_some hF
              refine W_st (st' := [.ref (ad162 b167), .int s157.2.1]) (by rw [va_some ho167]) ?_
              refine va_get (D := D) (ci := 9) (v := .int (s157.2.2.1 b167 14)) (C := RX9) (T := TX9) (N := 20) hx hb hts (mus hf_X9) hown hK hP b167 (wld_o ct ad162 (xt G s157.1) s157.2.2 hc167 hk167 (by decide)) rfl 14 (by decide) (hts (.fieldLink RX0 406 "VideoSuite$Work" "parts" "I") (mu mw_471)) (fun _ h9 => h9) rfl dX0_writeMotion_220 ?_
              obtain ⟨x168, ex168, hF⟩ := ltt_some hF
              refine lv_topi (fun zx168 ezx168 => ?_)
              obtain rfl : x168 = zx168 := ex168.trans ezx168.symm
              refine lv_icmp_ge (tgt := 311) hx hb dX0_writeMotion_223 (by decide) (fun c169 => ?_) (fun c169 => ?_)
              · rw [if_pos c169] at hF
                obtain rfl := Option.some.inj hF
                have e1 : L165 = s157.1 := by rw [hT]; exact List.append_nil _
                have e2 : z164.2 = .inr ((s157.2.1, s157.2.2)) := h2
                rw [e2] at hwz164
                obtain ⟨hw1, hw2⟩ := hwz164
                have e8 : L159 = s157.1 := by rw [eq156, hw2, ← eL165, e1]
                rw [e8] at K156
                try rw [← hw1] at K156
                exact K156 _ hag _ _ _ hP hD hS (lv_sub hl [1, 2] rfl)
              · rw [if_neg c169] at hF
                refine lv_aload_n hx hb dX0_writeMotion_226 rfl (lv_at hl 2 rfl) ?_
                refine va_get (D := D) (ci := 0) (v := va_re ad162 (s157.2.2.2 a 3)) (C := RX0) (T := TX0) (N := 21) hx hb hts (mus hf_X0) hown hK hP a (wld_o ct ad162 (xt G s157.1) s157.2.2 hc hk (by decide)) rfl 3 (by decide) (hts (.fieldLink RX0 36 "VideoSuite$Coder" "work" "LVideoSuite$Work;") (mu mw_817)) (fun _ h9 => h9) rfl dX0_writeMotion_227 ?_
                refine W_st (st' := [.ref (ad162 b167)]) (by rw [va_some ho167]) ?_
                refine va_get (D := D) (ci := 9) (v := va_re ad162 (s157.2.2.2 b167 13)) (C := RX9) (T := TX9) (N := 20) hx hb hts (mus hf_X9) hown hK hP b167 (wld_o ct ad162 (xt G s157.1) s157.2.2 hc167 hk167 (by decide)) rfl 13 (by decide) (hts (.fieldLink RX0 403 "VideoSuite$Work" "part" "[I") (mu mw_468)) (fun _ h9 => h9) rfl dX0_writeMotion_230 ?_
                refine lv_iconst (v := (5 : Int32)) hx hb dX0_writeMotion_233 (by decide) ?_
                refine lv_iload hx hb dX0_writeMotion_234 (lv_at hl 0 rfl) ?_
                refine lv_imul hx hb dX0_writeMotion_236 ?_
                obtain ⟨x170, ex170, hF⟩ := ltt_some hF
                refine lv_topi (fun zx170 ezx170 => ?_)
                obtain rfl : x170 = zx170 := ex170.trans ezx170.symm
                refine lv_iconst (v := (3 : Int32)) hx hb dX0_writeMotion_237 (by decide) ?_
                refine lv_iadd hx hb dX0_writeMotion_238 ?_
                obtain ⟨x171, ex171, hF⟩ := ltt_some hF
                refine lv_topi (fun zx171 ezx171 => ?_)
                obtain rfl : x171 = zx171 := ex171.trans ezx171.symm
                obtain ⟨b172, ho172, hc172, hk172, hF⟩ := dr_some hF
                refine W_st (st' := [.int x171, .ref (ad162 b172)]) (by rw [va_some ho172]) ?_
                obtain ⟨hvc, hF⟩ := chk_some hF
                refine va_iald hx hb hK hP b172 1 (wld_i ct ad162 (xt G s157.1) s157.2.2 hc172 hk172) rfl hvc dX0_writeMotion_239 ?_
                obtain ⟨x173, ex173, hF⟩ := ltt_some hF
                refine lv_topi (fun zx173 ezx173 => ?_)
                obtain rfl : x173 = zx173 := ex173.trans ezx173.symm
                refine lv_iload hx hb dX0_writeMotion_240 (lv_at hl 1 rfl) ?_
                refine lv_ishr hx hb dX0_writeMotion_242 ?_
                obtain ⟨x174, ex174, hF⟩ := ltt_some hF
                refine lv_topi (fun zx174 ezx174 => ?_)
                obtain rfl : x174 = zx174 := ex174.trans ezx174.symm
                refine lv_iconst (v := (1 : Int32)) hx hb dX0_writeMotion_243 (by decide) ?_
                refine lv_iand hx hb dX0_writeMotion_244 ?_
                obtain ⟨x175, ex175, hF⟩ := ltt_some hF
                refine lv_topi (fun zx175 ezx175 => ?_)
                obtain rfl : x175 = zx175 := ex175.trans ezx175.symm
                refine lv_iconst (v := (1 : Int32)) hx hb dX0_writeMotion_245 (by decide) ?_
                obtain ⟨y176, hy176, hF⟩ := bnd_some hF
                obtain ⟨w177, hF, ew177⟩ := app_some hF
                obtain ⟨L178, eL178, hF⟩ := ltt_some hF
                have hT178 : L165 = (s157.1 ++ y176.1) ++ w177.1 := by rw [hT, ew177]; simp only [List.append_assoc]
                have hbl178 : L178.length ≤ y.1.length ∧ wt L178 ≤ wt y.1 := by rw [eL178]; exact room_d hT178 hbl
                have J176 : ∀ (ad179 : Nat → Nat), agr G.1 ad ad179 → ∀ (H : Heap) (locs : List Loc) (ls : Array Slot), va_P D classes (wld ct ad179 (xt G L178) y176.2) H → va_D A (wld ct ad179 (xt G L178) y176.2) → va_S A s.heap H locs → lv_has ls 8 [(5, .int s157.2.1), (4, .int s146.2.1), (0, .ref (ad179 a))] → W p l e (headSpec wuX0_writeMotion ({ frames := 6, cells := y.1.length, slots := wt y.1, locals := 198 })).room s m ([.ref (ad a), .int p0] : List Value).toArray below meth c H locs (L178 : NN).length (wt L178) (MQ below (va_Qv (fun (u : Nat → Nat) => agr G.1 ad u) (fun u t => kE D ct u (xt G y.1) A y.2 t) A) ([.ref (ad a), .int p0] : List Value).toArray s y.1.length (wt y.1) A) (F0 m 305 ls []) := by
                  intro ad179 hag H locs ls hP hD hS hl
                  have hT : L165 = L178 ++ w177.1 := by rw [hT178, eL178]
                  have h2 : z164.2 = w177.2 := by rw [h2, ew177]
                  have hk : (xt G L178).2.1 a = 0 := by rw [eL178]; exact xt_k _ hc hk
                  have hc : a < (xt G L178).1 := by rw [eL178]; exact xt_l _ hc
                  have hk2 : (xt G L178).2.1 b2 = 9 := by rw [eL178]; exact xt_k _ hc2 hk2
                  have hc2 : b2 < (xt G L178).1 := by rw [eL178]; exact xt_l _ hc2
                  have hk3 : (xt G L178).2.1 b3 = 3 := by rw [eL178]; exact xt_k _ hc3 hk3
                  have hc3 : b3 < (xt G L178).1 := by rw [eL178]; exact xt_l _ hc3
                  have hk4 : (xt G L178).2.1 b4 = 13 := by rw [eL178]; exact xt_k _ hc4 hk4
                  have hc4 : b4 < (xt G L178).1 := by rw [eL178]; exact xt_l _ hc4
                  have hk8 : (xt G L178).2.1 b8 = 13 := by rw [eL178]; exact xt_k _ hc8 hk8
                  have hc8 : b8 < (xt G L178).1 := by rw [eL178]; exact xt_l _ hc8
                  have hk167 : (xt G L178).2.1 b167 = 9 := by rw [eL178]; exact xt_k _ hc167 hk167
                  have hc167 : b167 < (xt G L178).1 := by rw [eL178]; exact xt_l _ hc167
                  have hk172 : (xt G L178).2.1 b172 = 13 := by rw [eL178]; exact xt_k _ hc172 hk172
                  have hc172 : b172 < (xt G L178).1 := by rw [eL178]; exact xt_l _ hc172
                  obtain ⟨x180, ex180, hF⟩ := ltt_some hF
                  refine lv_iinc (v := x180) (lv' := [(5, .int x180), (4, .int s146.2.1), (0, .ref (ad179 a))]) hx hb dX0_writeMotion_305 hl (k := 0) rfl (by rw [ex180]; rfl) (by decide) rfl (fun ls hl => ?_)
                  refine lv_goto (tgt := 214) hx hb dX0_writeMotion_308 (by decide) ?_
                  obtain rfl := Option.some.inj hF
                  have e1 : L165 = L178 := by rw [hT]; exact List.append_nil _
                  have e2 : z164.2 = .inl (L178, (x180, y176.2)) := h2
                  rw [e2] at hwz164
                  obtain ⟨r2, er2, hwz164⟩ := hwz164
                  exact hwz164 ⟨u156 ++ z164.1, by show L178 = _; rw [← e1, eL165, eu156]; simp only [List.append_assoc]⟩ (by show L159 = L178 ++ r2; rw [eq156, er2, ← e1, eL165]; simp only [List.append_assoc]) _ hag _ _ _ hP hD hS (lv_sub hl [0, 1, 2] rfl)
                clear hF
                obtain ⟨w181, hw181⟩ : ∃ z, z = y176 := ⟨_, rfl⟩
                have hF := hy176
                rw [← hw181] at hF
                clear hy176
                have hT : L178 = s157.1 ++ w181.1 := by rw [eL178, hw181]
                have h2 : y176.2 = w181.2 := by rw [hw181]
                have hbl := hbl178
                refine lv_icmp_ne (tgt := 305) hx hb dX0_writeMotion_246 (by decide) (fun c182 => ?_) (fun c182 => ?_)
                · rw [if_neg c182] at hF
                  obtain rfl := Option.some.inj hF
                  have e1 : L178 = s157.1 := by rw [hT]; exact List.append_nil _
                  have e2 : y176.2 = s157.2.2 := h2
                  rw [e1] at J176
                  try rw [e2] at J176
                  exact J176 _ hag _ _ _ hP hD hS (lv_sub hl [0, 1, 2] rfl)
                · rw [if_pos c182] at hF
                  refine lv_aload_n hx hb dX0_writeMotion_249 rfl (lv_at hl 2 rfl) ?_
                  refine va_get (D := D) (ci := 0) (v := va_re ad162 (s157.2.2.2 a 2)) (C := RX0) (T := TX0) (N := 21) hx hb hts (mus hf_X0) hown hK hP a (wld_o ct ad162 (xt G s157.1) s157.2.2 hc hk (by decide)) rfl 2 (by decide) (hts (.fieldLink RX0 29 "VideoSuite$Coder" "writer" "LVideoSuite$Writer;") (mu mw_815)) (fun _ h9 => h9) rfl dX0_writeMotion_250 ?_
                  refine lv_bipush (v := (7 : Int32)) hx hb dX0_writeMotion_253 (by decide) ?_
                  refine lv_aload_n hx hb dX0_writeMotion_255 rfl (lv_at hl 2 rfl) ?_
                  refine va_get (D := D) (ci := 0) (v := va_re ad162 (s157.2.2.2 a 3)) (C := RX0) (T := TX0) (N := 21) hx hb hts (mus hf_X0) hown hK hP a (wld_o ct ad162 (xt G s157.1) s157.2.2 hc hk (by decide)) rfl 3 (by decide) (hts (.fieldLink RX0 36 "VideoSuite$Coder" "work" "LVideoSuite$Work;") (mu mw_817)) (fun _ h9 => h9) rfl dX0_writeMotion_256 ?_
                  refine W_st (st' := [.ref (ad162 b167), .int (7 : Int32), va_re ad162 (s157.2.2.2 a 2)]) (by rw [va_some ho167]) ?_
                  refine va_get (D := D) (ci := 9) (v := va_re ad162 (s157.2.2.2 b167 17)) (C := RX9) (T := TX9) (N := 20) hx hb hts (mus hf_X9) hown hK hP b167 (wld_o ct ad162 (xt G s157.1) s157.2.2 hc167 hk167 (by decide)) rfl 17 (by decide) (hts (.fieldLink RX0 429 "VideoSuite$Work" "difference" "[I") (mu mw_479)) (fun _ h9 => h9) rfl dX0_writeMotion_259 ?_
                  refine lv_iconst (v := (2 : Int32)) hx hb dX0_writeMotion_262 (by decide) ?_
                  refine lv_bipush (v := (16 : Int32)) hx hb dX0_writeMotion_263 (by decide) ?_
                  refine lv_iload hx hb dX0_writeMotion_265 (lv_at hl 1 rfl) ?_
                  refine lv_imul hx hb dX0_writeMotion_267 ?_
                  obtain ⟨x183, ex183, hF⟩ := ltt_some hF
                  refine lv_topi (fun zx183 ezx183 => ?_)
                  obtain rfl : x183 = zx183 := ex183.trans ezx183.symm
                  refine lv_iload hx hb dX0_writeMotion_268 (lv_at hl 0 rfl) ?_
                  refine lv_iadd hx hb dX0_writeMotion_270 ?_
                  obtain ⟨x184, ex184, hF⟩ := ltt_some hF
                  refine lv_topi (fun zx184 ezx184 => ?_)
                  obtain rfl : x184 = zx184 := ex184.trans ezx184.symm
                  refine lv_imul hx hb dX0_writeMotion_271 ?_
                  obtain ⟨x185, ex185, hF⟩ := ltt_some hF
                  refine lv_topi (fun zx185 ezx185 => ?_)
                  obtain rfl : x185 = zx185 := ex185.trans ezx185.symm
                  obtain ⟨b186, ho186, hc186, hk186, hF⟩ := dr_some hF
                  refine W_st (st' := [.int x185, .ref (ad162 b186), .int (7 : Int32), va_re ad162 (s157.2.2.2 a 2)]) (by rw [va_some ho186]) ?_
                  obtain ⟨hvc, hF⟩ := chk_some hF
                  refine va_iald hx hb hK hP b186 1 (wld_i ct ad162 (xt G s157.1) s157.2.2 hc186 hk186) rfl hvc dX0_writeMotion_272 ?_
                  obtain ⟨x187, ex187, hF⟩ := ltt_some hF
                  refine lv_topi (fun zx187 ezx187 => ?_)
                  obtain rfl : x187 = zx187 := ex187.trans ezx187.symm
                  obtain ⟨b188, ho188, hc188, hk188, hF⟩ := dr_some hF
                  refine W_st (st' := [.int x187, .int (7 : Int32), .ref (ad162 b188)]) (by rw [va_some ho188]) ?_
                  obtain ⟨y189, hy189, hF⟩ := bnd_some hF
                  obtain ⟨w190, hF, ew190⟩ := app_some hF
                  obtain ⟨L191, eL191, hF⟩ := ltt_some hF
                  have hT191 : L178 = (s157.1 ++ y189.1) ++ w190.1 := by rw [hT, ew190]; simp only [List.append_assoc]
                  have hf9 := wA_in hD hA9 hS
                  refine va_callv (va_runV (As := [.int (7 : Int32), .int x187]) (rest := []) ⟨hx, hb, hml, hown, hts⟩ (kX10_se l D ct ad162 Z (xt G s157.1) s157.2.2 _ b188 ((7 : Int32)) x187 y189 hc188 hk188 hy189) (cwV 2 hts gX0_writeMotion_X10_se rfl rfl rfl (by decide +kernel) ⟨Nat.le_of_ble_eq_true rfl, Nat.le_of_ble_eq_true rfl⟩) ⟨fun a U g mk q => by obtain ⟨q0, q1, qP, qK, qD, qZ, qN⟩ := q; exact ⟨q0, q1, qP, va_K.moved (u := U) (U := U.calling g mk a) (Vm.Alike.refl U.vm) qK, qD, sF.moved (u := U) (U := U.calling g mk a) (Vm.Alike.refl U.vm) qZ, nF.same rfl qN⟩, va_recv hK hP (ci := 10) (q0 := b188) rfl (wld_o ct ad162 (xt G s157.1) s157.2.2 hc188 hk188 (by decide)), fun U hU hW => ⟨rfl, by rw [hU], by rw [hU]; exact hP, va_K.moved hW.alike hK, hD.weaken (fun _ _ _ _ => trivial), by rw [hU]; exact ((hZ.kept hS.2.1).narrow hf9).moved hW.alike, hN.warm hW⟩⟩ rfl rfl hl.1 rfl (lv_room (Nat.le_of_ble_eq_true rfl)) dX0_writeMotion_273 (room_s hT191 hbl)) hS (fun q _ h => hf9 q h) hf9 (fun ad192 t H locs ht hvm hw hB hz1 hk1 hS => ?_)
                  have hn193 := hw
                  obtain ⟨hP, hK9, hD9⟩ := hB
                  rw [ht] at hP
                  have hD := hD9.weaken (fun _ q _ h => hf9 q.1 h)
                  rw [xt_xt, ← eL191] at hP hD
                  refine W_cs (k := L191.length) (n := wt L191) (by rw [eL191]; exact (len_s s157.1 y189.1).symm) (by rw [eL191]; exact (wt_app s157.1 y189.1).symm) ?_
                  have hT : L178 = L191 ++ w190.1 := by rw [hT191, eL191]
                  have h2 : y176.2 = w190.2 := by rw [h2, ew190]
                  have hl := lv_sub (l' := [(5, .int s157.2.1), (4, .int s146.2.1), (0, .ref (ad162 a))]) hl [0, 1, 2] rfl
                  have e9 : ([(5, .int s157.2.1), (4, .int s146.2.1), (0, .ref (ad162 a))] : List (Nat × Value)) = [(5, .int s157.2.1), (4, .int s146.2.1), (0, .ref (ad192 a))] := (by first | rfl | simp only [hn193 a hc])
                  rw [e9] at hl
                  clear e9
                  have hk : (xt G L191).2.1 a = 0 := by rw [eL191]; exact xt_k _ hc hk
                  have hc : a < (xt G L191).1 := by rw [eL191]; exact xt_l _ hc
                  have hk2 : (xt G L191).2.1 b2 = 9 := by rw [eL191]; exact xt_k _ hc2 hk2
                  have hc2 : b2 < (xt G L191).1 := by rw [eL191]; exact xt_l _ hc2
                  have hk3 : (xt G L191).2.1 b3 = 3 := by rw [eL191]; exact xt_k _ hc3 hk3
                  have hc3 : b3 < (xt G L191).1 := by rw [eL191]; exact xt_l _ hc3
                  have hk4 : (xt G L191).2.1 b4 = 13 := by rw [eL191]; exact xt_k _ hc4 hk4
                  have hc4 : b4 < (xt G L191).1 := by rw [eL191]; exact xt_l _ hc4
                  have hk8 : (xt G L191).2.1 b8 = 13 := by rw [eL191]; exact xt_k _ hc8 hk8
                  have hc8 : b8 < (xt G L191).1 := by rw [eL191]; exact xt_l _ hc8
                  have hk167 : (xt G L191).2.1 b167 = 9 := by rw [eL191]; exact xt_k _ hc167 hk167
                  have hc167 : b167 < (xt G L191).1 := by rw [eL191]; exact xt_l _ hc167
                  have hk172 : (xt G L191).2.1 b172 = 13 := by rw [eL191]; exact xt_k _ hc172 hk172
                  have hc172 : b172 < (xt G L191).1 := by rw [eL191]; exact xt_l _ hc172
                  have hk186 : (xt G L191).2.1 b186 = 13 := by rw [eL191]; exact xt_k _ hc186 hk186
                  have hc186 : b186 < (xt G L191).1 := by rw [eL191]; exact xt_l _ hc186
                  have hk188 : (xt G L191).2.1 b188 = 10 := by rw [eL191]; exact xt_k _ hc188 hk188
                  have hc188 : b188 < (xt G L191).1 := by rw [eL191]; exact xt_l _ hc188
                  have hag := agr_t (xt_ge _ _) hag hn193
                  refine lv_aload_n hx hb dX0_writeMotion_276 rfl (lv_at hl 2 rfl) ?_
                  refine va_get (D := D) (ci := 0) (v := va_re ad192 (y189.2.2 a 2)) (C := RX0) (T := TX0) (N := 21) hx hb hts (mus hf_X0) hown hK hP a (wld_o ct ad192 (xt G L191) y189.2 hc hk (by decide)) rfl 2 (by decide) (hts (.fieldLink RX0 29 "VideoSuite$Coder" "writer" "LVideoSuite$Writer;") (mu mw_815)) (fun _ h9 => h9) rfl dX0_writeMotion_277 ?_
                  refine lv_bipush (v := (8 : Int32)) hx hb dX0_writeMotion_280 (by decide) ?_
                  refine lv_aload_n hx hb dX0_writeMotion_282 rfl (lv_at hl 2 rfl) ?_
                  refine va_get (D := D) (ci := 0) (v := va_re ad192 (y189.2.2 a 3)) (C := RX0) (T := TX0) (N := 21) hx hb hts (mus hf_X0) hown hK hP a (wld_o ct ad192 (xt G L191) y189.2 hc hk (by decide)) rfl 3 (by decide) (hts (.fieldLink RX0 36 "VideoSuite$Coder" "work" "LVideoSuite$Work;") (mu mw_817)) (fun _ h9 => h9) rfl dX0_writeMotion_283 ?_
                  obtain ⟨b194, ho194, hc194, hk194, hF⟩ := dr_some hF
                  refine W_st (st' := [.ref (ad192 b194), .int (8 : Int32), va_re ad192 (y189.2.2 a 2)]) (by rw [va_some ho194]) ?_
                  refine va_get (D := D) (ci := 9) (v := va_re ad192 (y189.2.2 b194 17)) (C := RX9) (T := TX9) (N := 20) hx hb hts (mus hf_X9) hown hK hP b194 (wld_o ct ad192 (xt G L191) y189.2 hc194 hk194 (by decide)) rfl 17 (by decide) (hts (.fieldLink RX0 429 "VideoSuite$Work" "difference" "[I") (mu mw_479)) (fun _ h9 => h9) rfl dX0_writeMotion_286 ?_
                  refine lv_iconst (v := (2 : Int32)) hx hb dX0_writeMotion_289 (by decide) ?_
                  refine lv_bipush (v := (16 : Int32)) hx hb dX0_writeMotion_290 (by decide) ?_
                  refine lv_iload hx hb dX0_writeMotion_292 (lv_at hl 1 rfl) ?_
                  refine lv_imul hx hb dX0_writeMotion_294 ?_
                  obtain ⟨x195, ex195, hF⟩ := ltt_some hF
                  refine lv_topi (fun zx195 ezx195 => ?_)
                  obtain rfl : x195 = zx195 := ex195.trans ezx195.symm
                  refine lv_iload hx hb dX0_writeMotion_295 (lv_at hl 0 rfl) ?_
                  refine lv_iadd hx hb dX0_writeMotion_297 ?_
                  obtain ⟨x196, ex196, hF⟩ := ltt_some hF
                  refine lv_topi (fun zx196 ezx196 => ?_)
                  obtain rfl : x196 = zx196 := ex196.trans ezx196.symm
                  refine lv_imul hx hb dX0_writeMotion_298 ?_
                  obtain ⟨x197, ex197, hF⟩ := ltt_some hF
                  refine lv_topi (fun zx197 ezx197 => ?_)
                  obtain rfl : x197 = zx197 := ex197.trans ezx197.symm
                  refine lv_iconst (v := (1 : Int32)) hx hb dX0_writeMotion_299 (by decide) ?_
                  refine lv_iadd hx hb dX0_writeMotion_300 ?_
                  obtain ⟨x198, ex198, hF⟩ := ltt_some hF
                  refine lv_topi (fun zx198 ezx198 => ?_)
                  obtain rfl : x198 = zx198 := ex198.trans ezx198.symm
                  obtain ⟨b199, ho199, hc199, hk199, hF⟩ := dr_some hF
                  refine W_st (st' := [.int x198, .ref (ad192 b199), .int (8 : Int32), va_re ad192 (y189.2.2 a 2)]) (by rw [va_some ho199]) ?_
                  obtain ⟨hvc, hF⟩ := chk_some hF
                  refine va_iald hx hb hK hP b199 1 (wld_i ct ad192 (xt G L191) y189.2 hc199 hk199) rfl hvc dX0_writeMotion_301 ?_
                  obtain ⟨x200, ex200, hF⟩ := ltt_some hF
                  refine lv_topi (fun zx200 ezx200 => ?_)
                  obtain rfl : x200 = zx200 := ex200.trans ezx200.symm
                  obtain ⟨b201, ho201, hc201, hk201, hF⟩ := dr_some hF
                  refine W_st (st' := [.int x200, .int (8 : Int32), .ref (ad192 b201)]) (by rw [va_some ho201]) ?_
                  obtain ⟨y202, hy202, hF⟩ := bnd_some hF
                  obtain ⟨w203, hF, ew203⟩ := app_some hF
                  obtain ⟨L204, eL204, hF⟩ := ltt_some hF
                  have hT204 : L178 = (L191 ++ y202.1) ++ w203.1 := by rw [hT, ew203]; simp only [List.append_assoc]
                  have hf9 := wA_in hD hA9 hS
                  refine va_callv (va_runV (As := [.int (8 : Int32), .int x200]) (rest := []) ⟨hx, hb, hml, hown, hts⟩ (kX10_se l D ct ad192 Z (xt G L191) y189.2 _ b201 ((8 : Int32)) x200 y202 hc201 hk201 hy202) (cwV 2 hts gX0_writeMotion_X10_se rfl rfl rfl (by decide +kernel) ⟨Nat.le_of_ble_eq_true rfl, Nat.le_of_ble_eq_true rfl⟩) ⟨fun a U g mk q => by obtain ⟨q0, q1, qP, qK, qD, qZ, qN⟩ := q; exact ⟨q0, q1, qP, va_K.moved (u := U) (U := U.calling g mk a) (Vm.Alike.refl U.vm) qK, qD, sF.moved (u := U) (U := U.calling g mk a) (Vm.Alike.refl U.vm) qZ, nF.same rfl qN⟩, va_recv hK hP (ci := 10) (q0 := b201) rfl (wld_o ct ad192 (xt G L191) y189.2 hc201 hk201 (by decide)), fun U hU hW => ⟨rfl, by rw [hU], by rw [hU]; exact hP, va_K.moved hW.alike hK, hD.weaken (fun _ _ _ _ => trivial), by rw [hU]; exact ((hZ.kept hS.2.1).narrow hf9).moved hW.alike, hN.warm hW⟩⟩ rfl rfl hl.1 rfl (lv_room (Nat.le_of_ble_eq_true rfl)) dX0_writeMotion_302 (room_s hT204 hbl)) hS (fun q _ h => hf9 q h) hf9 (fun ad205 t H locs ht hvm hw hB hz1 hk1 hS => ?_)
                  have hn206 := hw
                  obtain ⟨hP, hK9, hD9⟩ := hB
                  rw [ht] at hP
                  have hD := hD9.weaken (fun _ q _ h => hf9 q.1 h)
                  rw [xt_xt, ← eL204] at hP hD
                  refine W_cs (k := L204.length) (n := wt L204) (by rw [eL204]; exact (len_s L191 y202.1).symm) (by rw [eL204]; exact (wt_app L191 y202.1).symm) ?_
                  have hT : L178 = L204 ++ w203.1 := by rw [hT204, eL204]
                  have h2 : y176.2 = w203.2 := by rw [h2, ew203]
                  have hl := lv_sub (l' := [(5, .int s157.2.1), (4, .int s146.2.1), (0, .ref (ad192 a))]) hl [0, 1, 2] rfl
                  have e9 : ([(5, .int s157.2.1), (4, .int s146.2.1), (0, .ref (ad192 a))] : List (Nat × Value)) = [(5, .int s157.2.1), (4, .int s146.2.1), (0, .ref (ad205 a))] := (by first | rfl | simp only [hn206 a hc])
                  rw [e9] at hl
                  clear e9
                  have hk : (xt G L204).2.1 a = 0 := by rw [eL204]; exact xt_k _ hc hk
                  have hc : a < (xt G L204).1 := by rw [eL204]; exact xt_l _ hc
                  have hk2 : (xt G L204).2.1 b2 = 9 := by rw [eL204]; exact xt_k _ hc2 hk2
                  have hc2 : b2 < (xt G L204).1 := by rw [eL204]; exact xt_l _ hc2
                  have hk3 : (xt G L204).2.1 b3 = 3 := by rw [eL204]; exact xt_k _ hc3 hk3
                  have hc3 : b3 < (xt G L204).1 := by rw [eL204]; exact xt_l _ hc3
                  have hk4 : (xt G L204).2.1 b4 = 13 := by rw [eL204]; exact xt_k _ hc4 hk4
                  have hc4 : b4 < (xt G L204).1 := by rw [eL204]; exact xt_l _ hc4
                  have hk8 : (xt G L204).2.1 b8 = 13 := by rw [eL204]; exact xt_k _ hc8 hk8
                  have hc8 : b8 < (xt G L204).1 := by rw [eL204]; exact xt_l _ hc8
                  have hk167 : (xt G L204).2.1 b167 = 9 := by rw [eL204]; exact xt_k _ hc167 hk167
                  have hc167 : b167 < (xt G L204).1 := by rw [eL204]; exact xt_l _ hc167
                  have hk172 : (xt G L204).2.1 b172 = 13 := by rw [eL204]; exact xt_k _ hc172 hk172
                  have hc172 : b172 < (xt G L204).1 := by rw [eL204]; exact xt_l _ hc172
                  have hk186 : (xt G L204).2.1 b186 = 13 := by rw [eL204]; exact xt_k _ hc186 hk186
                  have hc186 : b186 < (xt G L204).1 := by rw [eL204]; exact xt_l _ hc186
                  have hk188 : (xt G L204).2.1 b188 = 10 := by rw [eL204]; exact xt_k _ hc188 hk188
                  have hc188 : b188 < (xt G L204).1 := by rw [eL204]; exact xt_l _ hc188
                  have hk194 : (xt G L204).2.1 b194 = 9 := by rw [eL204]; exact xt_k _ hc194 hk194
                  have hc194 : b194 < (xt G L204).1 := by rw [eL204]; exact xt_l _ hc194
                  have hk199 : (xt G L204).2.1 b199 = 13 := by rw [eL204]; exact xt_k _ hc199 hk199
                  have hc199 : b199 < (xt G L204).1 := by rw [eL204]; exact xt_l _ hc199
                  have hk201 : (xt G L204).2.1 b201 = 10 := by rw [eL204]; exact xt_k _ hc201 hk201
                  have hc201 : b201 < (xt G L204).1 := by rw [eL204]; exact xt_l _ hc201
                  have hag := agr_t (xt_ge _ _) hag hn206
                  obtain rfl := Option.some.inj hF
                  have e1 : L178 = L204 := by rw [hT]; exact List.append_nil _
                  have e2 : y176.2 = y202.2 := h2
                  rw [e1] at J176
                  try rw [e2] at J176
                  exact J176 _ hag _ _ _ hP hD hS (lv_sub hl [0, 1, 2] rfl)
          clear hF
          refine itrA_rule (fun (s141 : NN × Int32 × DD) (r208 : NN) => (∃ t, s141.1 = [] ++ t) → L143 = s141.1 ++ r208 → ∀ (ad207 : Nat → Nat), agr G.1 ad ad207 → ∀ (H : Heap) (locs : List Loc) (ls : Array Slot), va_P D classes (wld ct ad207 (xt G s141.1) s141.2.2) H → va_D A (wld ct ad207 (xt G s141.1) s141.2.2) → va_S A s.heap H locs → lv_has ls 8 [(4, .int s141.2.1), (0, .ref (ad207 a)), (1, .int p0)] → W p l e (headSpec wuX0_writeMotion ({ frames := 6, cells := y.1.length, slots := wt y.1, locals := 198 })).room s m ([.ref (ad a), .int p0] : List Value).toArray below meth c H locs (s141.1 : NN).length (wt s141.1) (MQ below (va_Qv (fun (u : Nat → Nat) => agr G.1 ad u) (fun u t => kE D ct u (xt G y.1) A y.2 t) A) ([.ref (ad a), .int p0] : List Value).toArray s y.1.length (wt y.1) A) (F0 m 72 ls [])) ?_ _ _ _ hy140 ⟨[], (List.append_nil _).symm⟩ eL143 _ hag _ _ _ hP hD hS (lv_sub hl [0, 3, 4] rfl)
          rintro s141 r208 ⟨z209, hF, ⟨t140, et140⟩, hwz209⟩ ⟨u140, eu140⟩ eq140 ad207 hag H locs ls hP hD hS hl
          try dsimp only at hF
          obtain ⟨L210, eL210⟩ : ∃ x, x = s141.1 ++ z209.1 := ⟨_, rfl⟩
          obtain ⟨w211, hw211⟩ : ∃ x, x = z209 := ⟨_, rfl⟩
          rw [← hw211] at hF
          have hbl : L210.length ≤ y.1.length ∧ wt L210 ≤ wt y.1 := room_d (show L143 = L210 ++ t140 by rw [eq140, et140, eL210]; simp only [List.append_assoc]) hbl143
          have hT : L210 = s141.1 ++ w211.1 := by rw [eL210, hw211]
          have h2 : z209.2 = w211.2 := by rw [hw211]
          have hk : (xt G s141.1).2.1 a = 0 := by rw [eu140]; exact xt_k _ hc hk
          have hc : a < (xt G s141.1).1 := by rw [eu140]; exact xt_l _ hc
          have hk2 : (xt G s141.1).2.1 b2 = 9 := by rw [eu140]; exact xt_k _ hc2 hk2
          have hc2 : b2 < (xt G s141.1).1 := by rw [eu140]; exact xt_l _ hc2
          have hk3 : (xt G s141.1).2.1 b3 = 3 := by rw [eu140]; exact xt_k _ hc3 hk3
          have hc3 : b3 < (xt G s141.1).1 := by rw [eu140]; exact xt_l _ hc3
          have hk4 : (xt G s141.1).2.1 b4 = 13 := by rw [eu140]; exact xt_k _ hc4 hk4
          have hc4 : b4 < (xt G s141.1).1 := by rw [eu140]; exact xt_l _ hc4
          have hk8 : (xt G s141.1).2.1 b8 = 13 := by rw [eu140]; exact xt_k _ hc8 hk8
          have hc8 : b8 < (xt G s141.1).1 := by rw [eu140]; exact xt_l _ hc8
          refine lv_iload hx hb dX0_writeMotion_72 (lv_at hl 0 rfl) ?_
          refine lv_iconst (v := (2 : Int32)) hx hb dX0_writeMotion_74 (by decide) ?_
          refine lv_icmp_ge (tgt := 202) hx hb dX0_writeMotion_75 (by decide) (fun c212 => ?_) (fun c212 => ?_)
          · rw [if_pos c212] at hF
            obtain rfl := Option.some.inj hF
            have e1 : L210 = s141.1 := by rw [hT]; exact List.append_nil _
            have e2 : z209.2 = .inr ((s141.2.1, s141.2.2)) := h2
            rw [e2] at hwz209
            obtain ⟨hw1, hw2⟩ := hwz209
            have e8 : L143 = s141.1 := by rw [eq140, hw2, ← eL210, e1]
            rw [e8] at K140
            try rw [← hw1] at K140
            exact K140 _ hag _ _ _ hP hD hS (lv_sub hl [1] rfl)
          · rw [if_neg c212] at hF
            refine lv_aload_n hx hb dX0_writeMotion_78 rfl (lv_at hl 1 rfl) ?_
            refine va_get (D := D) (ci := 0) (v := va_re ad207 (s141.2.2.2 a 3)) (C := RX0) (T := TX0) (N := 21) hx hb hts (mus hf_X0) hown hK hP a (wld_o ct ad207 (xt G s141.1) s141.2.2 hc hk (by decide)) rfl 3 (by decide) (hts (.fieldLink RX0 36 "VideoSuite$Coder" "work" "LVideoSuite$Work;") (mu mw_817)) (fun _ h9 => h9) rfl dX0_writeMotion_79 ?_
            obtain ⟨b213, ho213, hc213, hk213, hF⟩ := dr_some hF
            refine W_st (st' := [.ref (ad207 b213)]) (by rw [va_some ho213]) ?_
            refine va_get (D := D) (ci := 9) (v := va_re ad207 (s141.2.2.2 b213 1)) (C := RX9) (T := TX9) (N := 20) hx hb hts (mus hf_X9) hown hK hP b213 (wld_o ct ad207 (xt G s141.1) s141.2.2 hc213 hk213 (by decide)) rfl 1 (by decide) (hts (.fieldLink RX0 81 "VideoSuite$Work" "head" "LVideoSuite$Header;") (mu mw_425)) (fun _ h9 => h9) rfl dX0_writeMotion_82 ?_
            obtain ⟨b214, ho214, hc214, hk214, hF⟩ := dr_some hF
            refine W_st (st' := [.ref (ad207 b214)]) (by rw [va_some ho214]) ?_
            refine va_get (D := D) (ci := 3) (v := va_re ad207 (s141.2.2.2 b214 0)) (C := RX3) (T := TX3) (N := 4) hx hb hts (mus hf_X3) hown hK hP b214 (wld_o ct ad207 (xt G s141.1) s141.2.2 hc214 hk214 (by decide)) rfl 0 (by decide) (hts (.fieldLink RX0 252 "VideoSuite$Header" "v" "[I") (mu mw_620)) (fun _ h9 => h9) rfl dX0_writeMotion_85 ?_
            refine lv_bipush (v := (9 : Int32)) hx hb dX0_writeMotion_88 (by decide) ?_
            refine lv_iload hx hb dX0_writeMotion_90 (lv_at hl 0 rfl) ?_
            refine lv_iadd hx hb dX0_writeMotion_92 ?_
            obtain ⟨x215, ex215, hF⟩ := ltt_some hF
            refine lv_topi (fun zx215 ezx215 => ?_)
            obtain rfl : x215 = zx215 := ex215.trans ezx215.symm
            obtain ⟨b216, ho216, hc216, hk216, hF⟩ := dr_some hF
            refine W_st (st' := [.int x215, .ref (ad207 b216)]) (by rw [va_some ho216]) ?_
            obtain ⟨hvc, hF⟩ := chk_some hF
            refine va_iald hx hb hK hP b216 1 (wld_i ct ad207 (xt G s141.1) s141.2.2 hc216 hk216) rfl hvc dX0_writeMotion_93 ?_
            obtain ⟨x217, ex217, hF⟩ := ltt_some hF
            refine lv_topi (fun zx217 ezx217 => ?_)
            obtain rfl : x217 = zx217 := ex217.trans ezx217.symm
            refine lv_istore (lv' := [(5, .int x217), (4, .int s141.2.1), (0, .ref (ad207 a)), (1, .int p0)]) hx hb dX0_writeMotion_94 hl (by decide) rfl (fun ls hl => ?_)
            refine lv_iconst (v := (0 : Int32)) hx hb dX0_writeMotion_96 (by decide) ?_
            refine lv_istore (lv' := [(6, .int (0 : Int32)), (5, .int x217), (4, .int s141.2.1), (0, .ref (ad207 a)), (1, .int p0)]) hx hb dX0_writeMotion_97 hl (by decide) rfl (fun ls hl => ?_)
            obtain ⟨y218, hy218, hF⟩ := bnd_some hF
            obtain ⟨w220, hF, ew220⟩ := app_some hF
            obtain ⟨L221, eL221, hF⟩ := ltt_some hF
            have hT221 : L210 = (s141.1 ++ y218.1) ++ w220.1 := by rw [hT, ew220]; simp only [List.append_assoc]
            have hbl221 : L221.length ≤ y.1.length ∧ wt L221 ≤ wt y.1 := by rw [eL221]; exact room_d hT221 hbl
            have K218 : ∀ (ad222 : Nat → Nat), agr G.1 ad ad222 → ∀ (H : Heap) (locs : List Loc) (ls : Array Slot), va_P D classes (wld ct ad222 (xt G L221) y218.2.2) H → va_D A (wld ct ad222 (xt G L221) y218.2.2) → va_S A s.heap H locs → lv_has ls 8 [(4, .int s141.2.1), (0, .ref (ad222 a)), (1, .int p0)] → W p l e (headSpec wuX0_writeMotion ({ frames := 6, cells := y.1.length, slots := wt y.1, locals := 198 })).room s m ([.ref (ad a), .int p0] : List Value).toArray below meth c H locs (L221 : NN).length (wt L221) (MQ below (va_Qv (fun (u : Nat → Nat) => agr G.1 ad u) (fun u t => kE D ct u (xt G y.1) A y.2 t) A) ([.ref (ad a), .int p0] : List Value).toArray s y.1.length (wt y.1) A) (F0 m 196 ls []) := by
              intro ad222 hag H locs ls hP hD hS hl
              have hT : L210 = L221 ++ w220.1 := by rw [hT221, eL221]
              have h2 : z209.2 = w220.2 := by rw [h2, ew220]
              have hk : (xt G L221).2.1 a = 0 := by rw [eL221]; exact xt_k _ hc hk
              have hc : a < (xt G L221).1 := by rw [eL221]; exact xt_l _ hc
              have hk2 : (xt G L221).2.1 b2 = 9 := by rw [eL221]; exact xt_k _ hc2 hk2
              have hc2 : b2 < (xt G L221).1 := by rw [eL221]; exact xt_l _ hc2
              have hk3 : (xt G L221).2.1 b3 = 3 := by rw [eL221]; exact xt_k _ hc3 hk3
              have hc3 : b3 < (xt G L221).1 := by rw [eL221]; exact xt_l _ hc3
              have hk4 : (xt G L221).2.1 b4 = 13 := by rw [eL221]; exact xt_k _ hc4 hk4
              have hc4 : b4 < (xt G L221).1 := by rw [eL221]; exact xt_l _ hc4
              have hk8 : (xt G L221).2.1 b8 = 13 := by rw [eL221]; exact xt_k _ hc8 hk8
              have hc8 : b8 < (xt G L221).1 := by rw [eL221]; exact xt_l _ hc8
              have hk213 : (xt G L221).2.1 b213 = 9 := by rw [eL221]; exact xt_k _ hc213 hk213
              have hc213 : b213 < (xt G L221).1 := by rw [eL221]; exact xt_l _ hc213
              have hk214 : (xt G L221).2.1 b214 = 3 := by rw [eL221]; exact xt_k _ hc214 hk214
              have hc214 : b214 < (xt G L221).1 := by rw [eL221]; exact xt_l _ hc214
              have hk216 : (xt G L221).2.1 b216 = 13 := by rw [eL221]; exact xt_k _ hc216 hk216
              have hc216 : b216 < (xt G L221).1 := by rw [eL221]; exact xt_l _ hc216
              obtain ⟨x223, ex223, hF⟩ := ltt_some hF
              refine lv_iinc (v := x223) (lv' := [(4, .int x223), (0, .ref (ad222 a)), (1, .int p0)]) hx hb dX0_writeMotion_196 hl (k := 0) rfl (by rw [ex223]; rfl) (by decide) rfl (fun ls hl => ?_)
              refine lv_goto (tgt := 72) hx hb dX0_writeMotion_199 (by decide) ?_
              obtain rfl := Option.some.inj hF
              have e1 : L210 = L221 := by rw [hT]; exact List.append_nil _
              have e2 : z209.2 = .inl (L221, (x223, y218.2.2)) := h2
              rw [e2] at hwz209
              obtain ⟨r2, er2, hwz209⟩ := hwz209
              exact hwz209 ⟨u140 ++ z209.1, by show L221 = _; rw [← e1, eL210, eu140]; simp only [List.append_assoc]⟩ (by show L143 = L221 ++ r2; rw [eq140, er2, ← e1, eL210]; simp only [List.append_assoc]) _ hag _ _ _ hP hD hS (lv_sub hl [0, 1, 2] rfl)
            clear hF
            refine itrA_rule (fun (s219 : NN × Int32 × DD) (r225 : NN) => (∃ t, s219.1 = s141.1 ++ t) → L221 = s219.1 ++ r225 → ∀ (ad224 : Nat → Nat), agr G.1 ad ad224 → ∀ (H : Heap) (locs : List Loc) (ls : Array Slot), va_P D classes (wld ct ad224 (xt G s219.1) s219.2.2) H → va_D A (wld ct ad224 (xt G s219.1) s219.2.2) → va_S A s.heap H locs → lv_has ls 8 [(6, .int s219.2.1), (5, .int x217), (4, .int s141.2.1), (0, .ref (ad224 a)), (1, .int p0)] → W p l e (headSpec wuX0_writeMotion ({ frames := 6, cells := y.1.length, slots := wt y.1, locals := 198 })).room s m ([.ref (ad a), .int p0] : List Value).toArray below meth c H locs (s219.1 : NN).length (wt s219.1) (MQ below (va_Qv (fun (u : Nat → Nat) => agr G.1 ad u) (fun u t => kE D ct u (xt G y.1) A y.2 t) A) ([.ref (ad a), .int p0] : List Value).toArray s y.1.length (wt y.1) A) (F0 m 99 ls [])) ?_ _ _ _ hy218 ⟨[], (List.append_nil _).symm⟩ eL221 _ hag _ _ _ hP hD hS (lv_sub hl [0, 1, 2, 3, 4] rfl)
            rintro s219 r225 ⟨z226, hF, ⟨t218, et218⟩, hwz226⟩ ⟨u218, eu218⟩ eq218 ad224 hag H locs ls hP hD hS hl
            try dsimp only at hF
            obtain ⟨L227, eL227⟩ : ∃ x, x = s219.1 ++ z226.1 := ⟨_, rfl⟩
            obtain ⟨w228, hw228⟩ : ∃ x, x = z226 := ⟨_, rfl⟩
            rw [← hw228] at hF
            have hbl : L227.length ≤ y.1.length ∧ wt L227 ≤ wt y.1 := room_d (show L221 = L227 ++ t218 by rw [eq218, et218, eL227]; simp only [List.append_assoc]) hbl221
            have hT : L227 = s219.1 ++ w228.1 := by rw [eL227, hw228]
            have h2 : z226.2 = w228.2 := by rw [hw228]
            have hk : (xt G s219.1).2.1 a = 0 := by rw [eu218]; exact xt_k _ hc hk
            have hc : a < (xt G s219.1).1 := by rw [eu218]; exact xt_l _ hc
            have hk2 : (xt G s219.1).2.1 b2 = 9 := by rw [eu218]; exact xt_k _ hc2 hk2
            have hc2 : b2 < (xt G s219.1).1 := by rw [eu218]; exact xt_l _ hc2
            have hk3 : (xt G s219.1).2.1 b3 = 3 := by rw [eu218]; exact xt_k _ hc3 hk3
            have hc3 : b3 < (xt G s219.1).1 := by rw [eu218]; exact xt_l _ hc3
            have hk4 : (xt G s219.1).2.1 b4 = 13 := by rw [eu218]; exact xt_k _ hc4 hk4
            have hc4 : b4 < (xt G s219.1).1 := by rw [eu218]; exact xt_l _ hc4
            have hk8 : (xt G s219.1).2.1 b8 = 13 := by rw [eu218]; exact xt_k _ hc8 hk8
            have hc8 : b8 < (xt G s219.1).1 := by rw [eu218]; exact xt_l _ hc8
            have hk213 : (xt G s219.1).2.1 b213 = 9 := by rw [eu218]; exact xt_k _ hc213 hk213
            have hc213 : b213 < (xt G s219.1).1 := by rw [eu218]; exact xt_l _ hc213
            have hk214 : (xt G s219.1).2.1 b214 = 3 := by rw [eu218]; exact xt_k _ hc214 hk214
            have hc214 : b214 < (xt G s219.1).1 := by rw [eu218]; exact xt_l _ hc214
            have hk216 : (xt G s219.1).2.1 b216 = 13 := by rw [eu218]; exact xt_k _ hc216 hk216
            have hc216 : b216 < (xt G s219.1).1 := by rw [eu218]; exact xt_l _ hc216
            refine lv_iload hx hb dX0_writeMotion_99 (lv_at hl 0 rfl) ?_
            refine lv_aload_n hx hb dX0_writeMotion_101 rfl (lv_at hl 3 rfl) ?_
            refine va_get (D := D) (ci := 0) (v := va_re ad224 (s219.2.2.2 a 3)) (C := RX0) (T := TX0) (N := 21) hx hb hts (mus hf_X0) hown hK hP a (wld_o ct ad224 (xt G s219.1) s219.2.2 hc hk (by decide)) rfl 3 (by decide) (hts (.fieldLink RX0 36 "VideoSuite$Coder" "work" "LVideoSuite$Work;") (mu mw_817)) (fun _ h9 => h9) rfl dX0_writeMotion_102 ?_
            obtain ⟨b229, ho229, hc229, hk229, hF⟩ := dr_some hF
            refine W_st (st' := [.ref (ad224 b229), .int s219.2.1]) (by rw [va_some ho229]) ?_
            refine va_get (D := D) (ci := 9) (v := .int (s219.2.2.1 b229 16)) (C := RX9) (T := TX9) (N := 20) hx hb hts (mus hf_X9) hown hK hP b229 (wld_o ct ad224 (xt G s219.1) s219.2.2 hc229 hk229 (by decide)) rfl 16 (by decide) (hts (.fieldLink RX0 387 "VideoSuite$Work" "groups" "I") (mu mw_477)) (fun _ h9 => h9) rfl dX0_writeMotion_105 ?_
            obtain ⟨x230, ex230, hF⟩ := ltt_some hF
            refine lv_topi (fun zx230 ezx230 => ?_)
            obtain rfl : x230 = zx230 := ex230.trans ezx230.symm
            refine lv_icmp_ge (tgt := 196) hx hb dX0_writeMotion_108 (by decide) (fun c231 => ?_) (fun c231 => ?_)
            · rw [if_pos c231] at hF
              obtain rfl := Option.some.inj hF
              have e1 : L227 = s219.1 := by rw [hT]; exact List.append_nil _
              have e2 : z226.2 = .inr ((s219.2.1, s219.2.2)) := h2
              rw [e2] at hwz226
              obtain ⟨hw1, hw2⟩ := hwz226
              have e8 : L221 = s219.1 := by rw [eq218, hw2, ← eL227, e1]
              rw [e8] at K218
              try rw [← hw1] at K218
              exact K218 _ hag _ _ _ hP hD hS (lv_sub hl [2, 3, 4] rfl)
            · rw [if_neg c231] at hF
              refine lv_iload hx hb dX0_writeMotion_111 (lv_at hl 1 rfl) ?_
              refine lv_iconst (v := (1 : Int32)) hx hb dX0_writeMotion_113 (by decide) ?_
              refine lv_icmp_le (tgt := 196) hx hb dX0_writeMotion_114 (by decide) (fun c232 => ?_) (fun c232 => ?_)
              · rw [if_pos c232] at hF
                obtain rfl := Option.some.inj hF
                have e1 : L227 = s219.1 := by rw [hT]; exact List.append_nil _
                have e2 : z226.2 = .inr ((s219.2.1, s219.2.2)) := h2
                rw [e2] at hwz226
                obtain ⟨hw1, hw2⟩ := hwz226
                have e8 : L221 = s219.1 := by rw [eq218, hw2, ← eL227, e1]
                rw [e8] at K218
                try rw [← hw1] at K218
                exact K218 _ hag _ _ _ hP hD hS (lv_sub hl [2, 3, 4] rfl)
              · rw [if_neg c232] at hF
                refine lv_aload_n hx hb dX0_writeMotion_117 rfl (lv_at hl 3 rfl) ?_
                refine va_get (D := D) (ci := 0) (v := va_re ad224 (s219.2.2.2 a 3)) (C := RX0) (T := TX0) (N := 21) hx hb hts (mus hf_X0) hown hK hP a (wld_o ct ad224 (xt G s219.1) s219.2.2 hc hk (by decide)) rfl 3 (by decide) (hts (.fieldLink RX0 36 "VideoSuite$Coder" "work" "LVideoSuite$Work;") (mu mw_817)) (fun _ h9 => h9) rfl dX0_writeMotion_118 ?_
                refine W_st (st' := [.ref (ad224 b229)]) (by rw [va_some ho229]) ?_
                refine va_get (D := D) (ci := 9) (v := va_re ad224 (s219.2.2.2 b229 15)) (C := RX9) (T := TX9) (N := 20) hx hb hts (mus hf_X9) hown hK hP b229 (wld_o ct ad224 (xt G s219.1) s219.2.2 hc229 hk229 (by decide)) rfl 15 (by decide) (hts (.fieldLink RX0 390 "VideoSuite$Work" "group" "[I") (mu mw_474)) (fun _ h9 => h9) rfl dX0_writeMotion_121 ?_
                refine lv_iconst (v := (4 : Int32)) hx hb dX0_writeMotion_124 (by decide) ?_
                refine lv_iload hx hb dX0_writeMotion_125 (lv_at hl 0 rfl) ?_
                refine lv_imul hx hb dX0_writeMotion_127 ?_
                obtain ⟨x233, ex233, hF⟩ := ltt_some hF
                refine lv_topi (fun zx233 ezx233 => ?_)
                obtain rfl : x233 = zx233 := ex233.trans ezx233.symm
                refine lv_iconst (v := (3 : Int32)) hx hb dX0_writeMotion_128 (by decide) ?_
                refine lv_iadd hx hb dX0_writeMotion_129 ?_
                obtain ⟨x234, ex234, hF⟩ := ltt_some hF
                refine lv_topi (fun zx234 ezx234 => ?_)
                obtain rfl : x234 = zx234 := ex234.trans ezx234.symm
                obtain ⟨b235, ho235, hc235, hk235, hF⟩ := dr_some hF
                refine W_st (st' := [.int x234, .ref (ad224 b235)]) (by rw [va_some ho235]) ?_
                obtain ⟨hvc, hF⟩ := chk_some hF
                refine va_iald hx hb hK hP b235 1 (wld_i ct ad224 (xt G s219.1) s219.2.2 hc235 hk235) rfl hvc dX0_writeMotion_130 ?_
                obtain ⟨x236, ex236, hF⟩ := ltt_some hF
                refine lv_topi (fun zx236 ezx236 => ?_)
                obtain rfl : x236 = zx236 := ex236.trans ezx236.symm
                refine lv_iload hx hb dX0_writeMotion_131 (lv_at hl 2 rfl) ?_
                refine lv_ishr hx hb dX0_writeMotion_133 ?_
                obtain ⟨x237, ex237, hF⟩ := ltt_some hF
                refine lv_topi (fun zx237 ezx237 => ?_)
                obtain rfl : x237 = zx237 := ex237.trans ezx237.symm
                refine lv_iconst (v := (1 : Int32)) hx hb dX0_writeMotion_134 (by decide) ?_
                refine lv_iand hx hb dX0_writeMotion_135 ?_
                obtain ⟨x238, ex238, hF⟩ := ltt_some hF
                refine lv_topi (fun zx238 ezx238 => ?_)
                obtain rfl : x238 = zx238 := ex238.trans ezx238.symm
                refine lv_iconst (v := (1 : Int32)) hx hb dX0_writeMotion_136 (by decide) ?_
                obtain ⟨y239, hy239, hF⟩ := bnd_some hF
                obtain ⟨w240, hF, ew240⟩ := app_some hF
                obtain ⟨L241, eL241, hF⟩ := ltt_some hF
                have hT241 : L227 = (s219.1 ++ y239.1) ++ w240.1 := by rw [hT, ew240]; simp only [List.append_assoc]
                have hbl241 : L241.length ≤ y.1.length ∧ wt L241 ≤ wt y.1 := by rw [eL241]; exact room_d hT241 hbl
                have J239 : ∀ (ad242 : Nat → Nat), agr G.1 ad ad242 → ∀ (H : Heap) (locs : List Loc) (ls : Array Slot), va_P D classes (wld ct ad242 (xt G L241) y239.2) H → va_D A (wld ct ad242 (xt G L241) y239.2) → va_S A s.heap H locs → lv_has ls 8 [(6, .int s219.2.1), (5, .int x217), (4, .int s141.2.1), (0, .ref (ad242 a)), (1, .int p0)] → W p l e (headSpec wuX0_writeMotion ({ frames := 6, cells := y.1.length, slots := wt y.1, locals := 198 })).room s m ([.ref (ad a), .int p0] : List Value).toArray below meth c H locs (L241 : NN).length (wt L241) (MQ below (va_Qv (fun (u : Nat → Nat) => agr G.1 ad u) (fun u t => kE D ct u (xt G y.1) A y.2 t) A) ([.ref (ad a), .int p0] : List Value).toArray s y.1.length (wt y.1) A) (F0 m 190 ls []) := by
                  intro ad242 hag H locs ls hP hD hS hl
                  have hT : L227 = L241 ++ w240.1 := by rw [hT241, eL241]
                  have h2 : z226.2 = w240.2 := by rw [h2, ew240]
                  have hk : (xt G L241).2.1 a = 0 := by rw [eL241]; exact xt_k _ hc hk
                  have hc : a < (xt G L241).1 := by rw [eL241]; exact xt_l _ hc
                  have hk2 : (xt G L241).2.1 b2 = 9 := by rw [eL241]; exact xt_k _ hc2 hk2
                  have hc2 : b2 < (xt G L241).1 := by rw [eL241]; exact xt_l _ hc2
                  have hk3 : (xt G L241).2.1 b3 = 3 := by rw [eL241]; exact xt_k _ hc3 hk3
                  have hc3 : b3 < (xt G L241).1 := by rw [eL241]; exact xt_l _ hc3
                  have hk4 : (xt G L241).2.1 b4 = 13 := by rw [eL241]; exact xt_k _ hc4 hk4
                  have hc4 : b4 < (xt G L241).1 := by rw [eL241]; exact xt_l _ hc4
                  have hk8 : (xt G L241).2.1 b8 = 13 := by rw [eL241]; exact xt_k _ hc8 hk8
                  have hc8 : b8 < (xt G L241).1 := by rw [eL241]; exact xt_l _ hc8
                  have hk213 : (xt G L241).2.1 b213 = 9 := by rw [eL241]; exact xt_k _ hc213 hk213
                  have hc213 : b213 < (xt G L241).1 := by rw [eL241]; exact xt_l _ hc213
                  have hk214 : (xt G L241).2.1 b214 = 3 := by rw [eL241]; exact xt_k _ hc214 hk214
                  have hc214 : b214 < (xt G L241).1 := by rw [eL241]; exact xt_l _ hc214
                  have hk216 : (xt G L241).2.1 b216 = 13 := by rw [eL241]; exact xt_k _ hc216 hk216
                  have hc216 : b216 < (xt G L241).1 := by rw [eL241]; exact xt_l _ hc216
                  have hk229 : (xt G L241).2.1 b229 = 9 := by rw [eL241]; exact xt_k _ hc229 hk229
                  have hc229 : b229 < (xt G L241).1 := by rw [eL241]; exact xt_l _ hc229
                  have hk235 : (xt G L241).2.1 b235 = 13 := by rw [eL241]; exact xt_k _ hc235 hk235
                  have hc235 : b235 < (xt G L241).1 := by rw [eL241]; exact xt_l _ hc235
                  obtain ⟨x243, ex243, hF⟩ := ltt_some hF
                  refine lv_iinc (v := x243) (lv' := [(6, .int x243), (5, .int x217), (4, .int s141.2.1), (0, .ref (ad242 a)), (1, .int p0)]) hx hb dX0_writeMotion_190 hl (k := 0) rfl (by rw [ex243]; rfl) (by decide) rfl (fun ls hl => ?_)
                  refine lv_goto (tgt := 99) hx hb dX0_writeMotion_193 (by decide) ?_
                  obtain rfl := Option.some.inj hF
                  have e1 : L227 = L241 := by rw [hT]; exact List.append_nil _
                  have e2 : z226.2 = .inl (L241, (x243, y239.2)) := h2
                  rw [e2] at hwz226
                  obtain ⟨r2, er2, hwz226⟩ := hwz226
                  exact hwz226 ⟨u218 ++ z226.1, by show L241 = _; rw [← e1, eL227, eu218]; simp only [List.append_assoc]⟩ (by show L221 = L241 ++ r2; rw [eq218, er2, ← e1, eL227]; simp only [List.append_assoc]) _ hag _ _ _ hP hD hS (lv_sub hl [0, 1, 2, 3, 4] rfl)
                clear hF
                obtain ⟨w244, hw244⟩ : ∃ z, z = y239 := ⟨_, rfl⟩
                have hF := hy239
                rw [← hw244] at hF
                clear hy239
                have hT : L241 = s219.1 ++ w244.1 := by rw [eL241, hw244]
                have h2 : y239.2 = w244.2 := by rw [hw244]
                have hbl := hbl241
                refine lv_icmp_ne (tgt := 190) hx hb dX0_writeMotion_137 (by decide) (fun c245 => ?_) (fun c245 => ?_)
                · rw [if_neg c245] at hF
                  obtain rfl := Option.some.inj hF
                  have e1 : L241 = s219.1 := by rw [hT]; exact List.append_nil _
                  have e2 : y239.2 = s219.2.2 := h2
                  rw [e1] at J239
                  try rw [e2] at J239
                  exact J239 _ hag _ _ _ hP hD hS (lv_sub hl [0, 1, 2, 3, 4] rfl)
                · rw [if_pos c245] at hF
                  refine lv_bipush (v := (16 : Int32)) hx hb dX0_writeMotion_140 (by decide) ?_
                  refine lv_iload_n hx hb dX0_writeMotion_142 rfl (lv_at hl 4 rfl) ?_
                  refine lv_imul hx hb dX0_writeMotion_143 ?_
                  obtain ⟨x246, ex246, hF⟩ := ltt_some hF
                  refine lv_topi (fun zx246 ezx246 => ?_)
                  obtain rfl : x246 = zx246 := ex246.trans ezx246.symm
                  refine lv_aload_n hx hb dX0_writeMotion_144 rfl (lv_at hl 3 rfl) ?_
                  refine va_get (D := D) (ci := 0) (v := va_re ad224 (s219.2.2.2 a 3)) (C := RX0) (T := TX0) (N := 21) hx hb hts (mus hf_X0) hown hK hP a (wld_o ct ad224 (xt G s219.1) s219.2.2 hc hk (by decide)) rfl 3 (by decide) (hts (.fieldLink RX0 36 "VideoSuite$Coder" "work" "LVideoSuite$Work;") (mu mw_817)) (fun _ h9 => h9) rfl dX0_writeMotion_145 ?_
                  refine W_st (st' := [.ref (ad224 b229), .int x246]) (by rw [va_some ho229]) ?_
                  refine va_get (D := D) (ci := 9) (v := va_re ad224 (s219.2.2.2 b229 15)) (C := RX9) (T := TX9) (N := 20) hx hb hts (mus hf_X9) hown hK hP b229 (wld_o ct ad224 (xt G s219.1) s219.2.2 hc229 hk229 (by decide)) rfl 15 (by decide) (hts (.fieldLink RX0 390 "VideoSuite$Work" "group" "[I") (mu mw_474)) (fun _ h9 => h9) rfl dX0_writeMotion_148 ?_
                  refine lv_iconst (v := (4 : Int32)) hx hb dX0_writeMotion_151 (by decide) ?_
                  refine lv_iload hx hb dX0_writeMotion_152 (lv_at hl 0 rfl) ?_
                  refine lv_imul hx hb dX0_writeMotion_154 ?_
                  obtain ⟨x247, ex247, hF⟩ := ltt_some hF
                  refine lv_topi (fun zx247 ezx247 => ?_)
                  obtain rfl : x247 = zx247 := ex247.trans ezx247.symm
                  refine W_st (st' := [.int x247, .ref (ad224 b235), .int x246]) (by rw [va_some ho235]) ?_
                  obtain ⟨hvc, hF⟩ := chk_some hF
                  refine va_iald hx hb hK hP b235 1 (wld_i ct ad224 (xt G s219.1) s219.2.2 hc235 hk235) rfl hvc dX0_writeMotion_155 ?_
                  obtain ⟨x248, ex248, hF⟩ := ltt_some hF
                  refine lv_topi (fun zx248 ezx248 => ?_)
                  obtain rfl : x248 = zx248 := ex248.trans ezx248.symm
                  refine lv_iadd hx hb dX0_writeMotion_156 ?_
                  obtain ⟨x249, ex249, hF⟩ := ltt_some hF
                  refine lv_topi (fun zx249 ezx249 => ?_)
                  obtain rfl : x249 = zx249 := ex249.trans ezx249.symm
                  refine lv_istore (lv' := [(7, .int x249), (6, .int s219.2.1), (5, .int x217), (4, .int s141.2.1), (0, .ref (ad224 a)), (1, .int p0)]) hx hb dX0_writeMotion_157 hl (by decide) rfl (fun ls hl => ?_)
                  refine lv_aload_n hx hb dX0_writeMotion_159 rfl (lv_at hl 4 rfl) ?_
                  refine va_get (D := D) (ci := 0) (v := va_re ad224 (s219.2.2.2 a 2)) (C := RX0) (T := TX0) (N := 21) hx hb hts (mus hf_X0) hown hK hP a (wld_o ct ad224 (xt G s219.1) s219.2.2 hc hk (by decide)) rfl 2 (by decide) (hts (.fieldLink RX0 29 "VideoSuite$Coder" "writer" "LVideoSuite$Writer;") (mu mw_815)) (fun _ h9 => h9) rfl dX0_writeMotion_160 ?_
                  refine lv_bipush (v := (6 : Int32)) hx hb dX0_writeMotion_163 (by decide) ?_
                  refine lv_iload hx hb dX0_writeMotion_165 (lv_at hl 2 rfl) ?_
                  refine lv_iconst (v := (1 : Int32)) hx hb dX0_writeMotion_167 (by decide) ?_
                  refine lv_isub hx hb dX0_writeMotion_168 ?_
                  obtain ⟨x250, ex250, hF⟩ := ltt_some hF
                  refine lv_topi (fun zx250 ezx250 => ?_)
                  obtain rfl : x250 = zx250 := ex250.trans ezx250.symm
                  refine lv_aload_n hx hb dX0_writeMotion_169 rfl (lv_at hl 4 rfl) ?_
                  refine va_get (D := D) (ci := 0) (v := va_re ad224 (s219.2.2.2 a 3)) (C := RX0) (T := TX0) (N := 21) hx hb hts (mus hf_X0) hown hK hP a (wld_o ct ad224 (xt G s219.1) s219.2.2 hc hk (by decide)) rfl 3 (by decide) (hts (.fieldLink RX0 36 "VideoSuite$Coder" "work" "LVideoSuite$Work;") (mu mw_817)) (fun _ h9 => h9) rfl dX0_writeMotion_170 ?_
                  refine W_st (st' := [.ref (ad224 b229), .int x250, .int (6 : Int32), va_re ad224 (s219.2.2.2 a 2)]) (by rw [va_some ho229]) ?_
                  refine va_get (D := D) (ci := 9) (v := va_re ad224 (s219.2.2.2 b229 0)) (C := RX9) (T := TX9) (N := 20) hx hb hts (mus hf_X9) hown hK hP b229 (wld_o ct ad224 (xt G s219.1) s219.2.2 hc229 hk229 (by decide)) rfl 0 (by decide) (hts (.fieldLink RX0 266 "VideoSuite$Work" "pic" "LVideoSuite$Picture;") (mu mw_424)) (fun _ h9 => h9) rfl dX0_writeMotion_173 ?_
                  obtain ⟨b251, ho251, hc251, hk251, hF⟩ := dr_some hF
                  refine W_st (st' := [.ref (ad224 b251), .int x250, .int (6 : Int32), va_re ad224 (s219.2.2.2 a 2)]) (by rw [va_some ho251]) ?_
                  refine va_get (D := D) (ci := 4) (v := va_re ad224 (s219.2.2.2 b251 5)) (C := RX4) (T := TX4) (N := 18) hx hb hts (mus hf_X4) hown hK hP b251 (wld_o ct ad224 (xt G s219.1) s219.2.2 hc251 hk251 (by decide)) rfl 5 (by decide) (hts (.fieldLink RX0 409 "VideoSuite$Picture" "reference" "[I") (mu mw_1441)) (fun _ h9 => h9) rfl dX0_writeMotion_176 ?_
                  refine lv_iload hx hb dX0_writeMotion_179 (lv_at hl 3 rfl) ?_
                  refine lv_iload hx hb dX0_writeMotion_181 (lv_at hl 0 rfl) ?_
                  obtain ⟨y252, hy252, hF⟩ := bnd_some hF
                  have hf9 := wA_in hD hA9 hS
                  refine va_calli (va_runS (As := [.int s141.2.1, .int x249]) (rest := [va_re ad224 (s219.2.2.2 b251 5), .int x250, .int (6 : Int32), va_re ad224 (s219.2.2.2 a 2)]) ⟨hx, hb, hml, hown, hts⟩ (kX4_at l D ct ad224 Z (xt G s219.1) s219.2.2 H.size s141.2.1 x249 y252 hy252) (va_cwS 2 hts gX0_writeMotion_X4_at rfl rfl rfl (by decide +kernel) ⟨Nat.le_of_ble_eq_true rfl, Nat.le_of_ble_eq_true rfl⟩) ⟨fun a U g mk q => by obtain ⟨q0, q1, qP, qK, qD, qZ, qN⟩ := q; exact ⟨q0, q1, qP, va_K.moved (u := U) (U := U.calling g mk a) (Vm.Alike.refl U.vm) qK, qD, sF.moved (u := U) (U := U.calling g mk a) (Vm.Alike.refl U.vm) qZ, nF.same rfl qN⟩, fun U hU hW => ⟨rfl, by rw [hU], by rw [hU]; exact hP, va_K.moved hW.alike hK, hD.weaken (fun _ _ _ _ => trivial), by rw [hU]; exact ((hZ.kept hS.2.1).narrow hf9).moved hW.alike, hN.warm hW⟩⟩ rfl rfl hl.1 rfl (lv_room (by simp only [List.map, va_re_cat]; exact Nat.le_of_ble_eq_true rfl)) dX0_writeMotion_183 (room_d hT hbl)) hS (fun q _ h => hf9 q h) hf9 (fun r u t H locs ht hvm hw hB hz1 hk1 hS => ?_)
                  obtain ⟨hP, hK9, hD9⟩ := hB
                  rw [ht] at hP
                  try dsimp only at hw
                  subst hw
                  refine W_cs (k := (s219.1 : NN).length) (n := wt s219.1) rfl rfl ?_
                  have hD := hD9.weaken (fun _ q _ h => hf9 q.1 h)
                  obtain ⟨b253, ho253, hc253, hk253, hF⟩ := dr_some hF
                  refine W_st (st' := [.int y252.2, .ref (ad224 b253), .int x250, .int (6 : Int32), va_re ad224 (s219.2.2.2 a 2)]) (by rw [va_some ho253]) ?_
                  obtain ⟨hvc, hF⟩ := chk_some hF
                  refine va_iald hx hb hK hP b253 1 (wld_i ct ad224 (xt G s219.1) y252.1 hc253 hk253) rfl hvc dX0_writeMotion_186 ?_
                  obtain ⟨x254, ex254, hF⟩ := ltt_some hF
                  refine lv_topi (fun zx254 ezx254 => ?_)
                  obtain rfl : x254 = zx254 := ex254.trans ezx254.symm
                  obtain ⟨b255, ho255, hc255, hk255, hF⟩ := dr_some hF
                  refine W_st (st' := [.int x254, .int x250, .int (6 : Int32), .ref (ad224 b255)]) (by rw [va_some ho255]) ?_
                  obtain ⟨y256, hy256, hF⟩ := bnd_some hF
                  obtain ⟨w257, hF, ew257⟩ := app_some hF
                  obtain ⟨L258, eL258, hF⟩ := ltt_some hF
                  have hT258 : L241 = (s219.1 ++ y256.1) ++ w257.1 := by rw [hT, ew257]; simp only [List.append_assoc]
                  have hf9 := wA_in hD hA9 hS
                  refine va_callv (va_runV (As := [.int (6 : Int32), .int x250, .int x254]) (rest := []) ⟨hx, hb, hml, hown, hts⟩ (kX10_te l D ct ad224 Z (xt G s219.1) y252.1 _ b255 ((6 : Int32)) x250 x254 y256 hc255 hk255 hy256) (cwV 3 hts gX0_writeMotion_X10_te rfl rfl rfl (by decide +kernel) ⟨Nat.le_of_ble_eq_true rfl, Nat.le_of_ble_eq_true rfl⟩) ⟨fun a U g mk q => by obtain ⟨q0, q1, qP, qK, qD, qZ, qN⟩ := q; exact ⟨q0, q1, qP, va_K.moved (u := U) (U := U.calling g mk a) (Vm.Alike.refl U.vm) qK, qD, sF.moved (u := U) (U := U.calling g mk a) (Vm.Alike.refl U.vm) qZ, nF.same rfl qN⟩, va_recv hK hP (ci := 10) (q0 := b255) rfl (wld_o ct ad224 (xt G s219.1) y252.1 hc255 hk255 (by decide)), fun U hU hW => ⟨rfl, by rw [hU], by rw [hU]; exact hP, va_K.moved hW.alike hK, hD.weaken (fun _ _ _ _ => trivial), by rw [hU]; exact ((hZ.kept hS.2.1).narrow hf9).moved hW.alike, hN.warm hW⟩⟩ rfl rfl hl.1 rfl (lv_room (Nat.le_of_ble_eq_true rfl)) dX0_writeMotion_187 (room_s hT258 hbl)) hS (fun q _ h => hf9 q h) hf9 (fun ad259 t H locs ht hvm hw hB hz1 hk1 hS => ?_)
                  have hn260 := hw
                  obtain ⟨hP, hK9, hD9⟩ := hB
                  rw [ht] at hP
                  have hD := hD9.weaken (fun _ q _ h => hf9 q.1 h)
                  rw [xt_xt, ← eL258] at hP hD
                  refine W_cs (k := L258.length) (n := wt L258) (by rw [eL258]; exact (len_s s219.1 y256.1).symm) (by rw [eL258]; exact (wt_app s219.1 y256.1).symm) ?_
                  have hT : L241 = L258 ++ w257.1 := by rw [hT258, eL258]
                  have h2 : y239.2 = w257.2 := by rw [h2, ew257]
                  have hl := lv_sub (l' := [(6, .int s219.2.1), (5, .int x217), (4, .int s141.2.1), (0, .ref (ad224 a)), (1, .int p0)]) hl [1, 2, 3, 4, 5] rfl
                  have e9 : ([(6, .int s219.2.1), (5, .int x217), (4, .int s141.2.1), (0, .ref (ad224 a)), (1, .int p0)] : List (Nat × Value)) = [(6, .int s219.2.1), (5, .int x217), (4, .int s141.2.1), (0, .ref (ad259 a)), (1, .int p0)] := (by first | rfl | simp only [hn260 a hc])
                  rw [e9] at hl
                  clear e9
                  have hk : (xt G L258).2.1 a = 0 := by rw [eL258]; exact xt_k _ hc hk
                  have hc : a < (xt G L258).1 := by rw [eL258]; exact xt_l _ hc
                  have hk2 : (xt G L258).2.1 b2 = 9 := by rw [eL258]; exact xt_k _ hc2 hk2
                  have hc2 : b2 < (xt G L258).1 := by rw [eL258]; exact xt_l _ hc2
                  have hk3 : (xt G L258).2.1 b3 = 3 := by rw [eL258]; exact xt_k _ hc3 hk3
                  have hc3 : b3 < (xt G L258).1 := by rw [eL258]; exact xt_l _ hc3
                  have hk4 : (xt G L258).2.1 b4 = 13 := by rw [eL258]; exact xt_k _ hc4 hk4
                  have hc4 : b4 < (xt G L258).1 := by rw [eL258]; exact xt_l _ hc4
                  have hk8 : (xt G L258).2.1 b8 = 13 := by rw [eL258]; exact xt_k _ hc8 hk8
                  have hc8 : b8 < (xt G L258).1 := by rw [eL258]; exact xt_l _ hc8
                  have hk213 : (xt G L258).2.1 b213 = 9 := by rw [eL258]; exact xt_k _ hc213 hk213
                  have hc213 : b213 < (xt G L258).1 := by rw [eL258]; exact xt_l _ hc213
                  have hk214 : (xt G L258).2.1 b214 = 3 := by rw [eL258]; exact xt_k _ hc214 hk214
                  have hc214 : b214 < (xt G L258).1 := by rw [eL258]; exact xt_l _ hc214
                  have hk216 : (xt G L258).2.1 b216 = 13 := by rw [eL258]; exact xt_k _ hc216 hk216
                  have hc216 : b216 < (xt G L258).1 := by rw [eL258]; exact xt_l _ hc216
                  have hk229 : (xt G L258).2.1 b229 = 9 := by rw [eL258]; exact xt_k _ hc229 hk229
                  have hc229 : b229 < (xt G L258).1 := by rw [eL258]; exact xt_l _ hc229
                  have hk235 : (xt G L258).2.1 b235 = 13 := by rw [eL258]; exact xt_k _ hc235 hk235
                  have hc235 : b235 < (xt G L258).1 := by rw [eL258]; exact xt_l _ hc235
                  have hk251 : (xt G L258).2.1 b251 = 4 := by rw [eL258]; exact xt_k _ hc251 hk251
                  have hc251 : b251 < (xt G L258).1 := by rw [eL258]; exact xt_l _ hc251
                  have hk253 : (xt G L258).2.1 b253 = 13 := by rw [eL258]; exact xt_k _ hc253 hk253
                  have hc253 : b253 < (xt G L258).1 := by rw [eL258]; exact xt_l _ hc253
                  have hk255 : (xt G L258).2.1 b255 = 10 := by rw [eL258]; exact xt_k _ hc255 hk255
                  have hc255 : b255 < (xt G L258).1 := by rw [eL258]; exact xt_l _ hc255
                  have hag := agr_t (xt_ge _ _) hag hn260
                  obtain rfl := Option.some.inj hF
                  have e1 : L241 = L258 := by rw [hT]; exact List.append_nil _
                  have e2 : y239.2 = y256.2 := h2
                  rw [e1] at J239
                  try rw [e2] at J239
                  exact J239 _ hag _ _ _ hP hD hS (lv_sub hl [0, 1, 2, 3, 4] rfl)
        · rw [if_pos c138] at hF
          obtain rfl := Option.some.inj hF
          have e1 : y.1 = [] := by rw [hT]; exact List.append_nil _
          have e2 : y.2 = M := h2
          refine W.widen (k := y.1.length) (n := wt y.1) (Nat.le_of_eq (by rw [e1])) (Nat.le_of_eq (by rw [e1])) ?_
          exact W.vret hx hb hr (fun t ht hW => ⟨⟨ad, rfl, hag, (by unfold kE; rw [e1, e2]; exact ⟨by rw [ht]; exact hP, va_K.moved hW.alike hK, hD⟩)⟩, hS.F ht⟩) hS.2.2 dX0_writeMotion_59
