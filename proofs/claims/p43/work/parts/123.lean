theorem ggX10_rawSamples_X10_fill : GoodIn wsX10_rawSamples wsX10_fill := goodIn_r _ [45, 20, 14, 15, 16, 5, 17, 18, 13, 19, 21, 22, 23, 24, 25, 26, 27, 28, 29, 30, 31, 32, 33, 34, 35, 36, 37, 38, 39, 40, 41, 57, 58, 59, 60, 61, 62, 63, 64, 65, 66, 67, 68, 69, 70, 71, 72, 73, 74, 75, 76] (by decide +kernel) (by decide +kernel)
set_option maxRecDepth 20000 in
theorem gX10_rawSamples_X10_fill : GoodIn wsX10_rawSamples (wsV RX10 54 RX10 yX10_fill wsX10_fill) := goodIn_app (goodIn_of _ (by decide +kernel)) ggX10_rawSamples_X10_fill
set_option maxRecDepth 20000 in
theorem ggX10_rawSamples_X10_beginArith : GoodIn wsX10_rawSamples wsX10_beginArith := goodIn_r _ [56, 8, 7, 13, 18, 1, 57, 58, 59, 60, 61, 62, 63, 64, 65, 66, 67, 68, 69, 70, 71, 72, 73, 74, 75, 76] (by decide +kernel) (by decide +kernel)
set_option maxRecDepth 20000 in
theorem gX10_rawSamples_X10_beginArith : GoodIn wsX10_rawSamples (wsV RX10 90 RX10 yX10_beginArith wsX10_beginArith) := goodIn_app (goodIn_of _ (by decide +kernel)) ggX10_rawSamples_X10_beginArith
theorem ggX10_rawSamples_X10_code : GoodIn wsX10_rawSamples wsX10_code := goodIn_r _ [49, 1, 50, 51, 7, 8, 52, 14, 15, 16, 5, 17, 18, 13, 19, 20, 21, 22, 23, 24, 25, 26, 27, 28, 29, 30, 31, 32, 33, 34, 35, 36, 37, 38, 39, 40, 41, 9, 10, 11, 12, 57, 58, 59, 60, 61, 62, 63, 64, 65, 66, 67, 68, 69, 70, 71, 72, 73, 74, 75, 76] (by decide +kernel) (by decide +kernel)
set_option maxRecDepth 20000 in
theorem gX10_rawSamples_X10_code : GoodIn wsX10_rawSamples (wsV RX10 97 RX10 yX10_code wsX10_code) := goodIn_app (goodIn_of _ (by decide +kernel)) ggX10_rawSamples_X10_code
set_option maxRecDepth 20000 in
theorem ggX10_rawSamples_X10_last : GoodIn wsX10_rawSamples wsX10_last := goodIn_r _ [6, 7, 8, 1, 9, 10, 11, 5, 12, 13, 14, 15, 16, 17, 18, 19, 20, 21, 22, 23, 24, 25, 26, 27, 28, 29, 30, 31, 32, 33, 34, 35, 36, 37, 38, 39, 40, 41, 57, 58, 59, 60, 61, 62, 63, 64, 65, 66, 67, 68, 69, 70, 71, 72, 73, 74, 75, 76] (by decide +kernel) (by decide +kernel)
set_option maxRecDepth 20000 in
theorem gX10_rawSamples_X10_last : GoodIn wsX10_rawSamples (wsV RX10 93 RX10 yX10_last wsX10_last) := goodIn_app (goodIn_of _ (by decide +kernel)) ggX10_rawSamples_X10_last
set_option maxRecDepth 20000 in
theorem dX10_rawSamples_0 : decode cX10_rawSamples 0 = .ok (.aload_n 0, 1) := by decide +kernel
theorem dX10_rawSamples_1 : decode cX10_rawSamples 1 = .ok (.getfield 30, 3) := by decide +kernel
theorem dX10_rawSamples_4 : decode cX10_rawSamples 4 = .ok (.istore_n 2, 1) := by decide +kernel
theorem dX10_rawSamples_5 : decode cX10_rawSamples 5 = .ok (.iload_n 2, 1) := by decide +kernel
theorem dX10_rawSamples_6 : decode cX10_rawSamples 6 = .ok (.ifCond .eq 8, 3) := by decide +kernel
theorem dX10_rawSamples_9 : decode cX10_rawSamples 9 = .ok (.aload_n 0, 1) := by decide +kernel
theorem dX10_rawSamples_10 : decode cX10_rawSamples 10 = .ok (.iconst 1, 1) := by decide +kernel
theorem dX10_rawSamples_11 : decode cX10_rawSamples 11 = .ok (.invokevirtual 93, 3) := by decide +kernel
theorem dX10_rawSamples_14 : decode cX10_rawSamples 14 = .ok (.aload_n 0, 1) := by decide +kernel
theorem dX10_rawSamples_15 : decode cX10_rawSamples 15 = .ok (.iconst 0, 1) := by decide +kernel
theorem dX10_rawSamples_16 : decode cX10_rawSamples 16 = .ok (.invokevirtual 54, 3) := by decide +kernel
theorem dX10_rawSamples_19 : decode cX10_rawSamples 19 = .ok (.iconst 0, 1) := by decide +kernel
theorem dX10_rawSamples_20 : decode cX10_rawSamples 20 = .ok (.istore_n 3, 1) := by decide +kernel
theorem dX10_rawSamples_21 : decode cX10_rawSamples 21 = .ok (.iload_n 3, 1) := by decide +kernel
theorem dX10_rawSamples_22 : decode cX10_rawSamples 22 = .ok (.sipush 384, 3) := by decide +kernel
theorem dX10_rawSamples_25 : decode cX10_rawSamples 25 = .ok (.if_icmp .ge 26, 3) := by decide +kernel
theorem dX10_rawSamples_28 : decode cX10_rawSamples 28 = .ok (.iload_n 3, 1) := by decide +kernel
theorem dX10_rawSamples_29 : decode cX10_rawSamples 29 = .ok (.aload_n 1, 1) := by decide +kernel
theorem dX10_rawSamples_30 : decode cX10_rawSamples 30 = .ok (.arraylength, 1) := by decide +kernel
theorem dX10_rawSamples_31 : decode cX10_rawSamples 31 = .ok (.if_icmp .ge 20, 3) := by decide +kernel
theorem dX10_rawSamples_34 : decode cX10_rawSamples 34 = .ok (.aload_n 0, 1) := by decide +kernel
theorem dX10_rawSamples_35 : decode cX10_rawSamples 35 = .ok (.iconst 0, 1) := by decide +kernel
theorem dX10_rawSamples_36 : decode cX10_rawSamples 36 = .ok (.aload_n 1, 1) := by decide +kernel
theorem dX10_rawSamples_37 : decode cX10_rawSamples 37 = .ok (.iload_n 3, 1) := by decide +kernel
theorem dX10_rawSamples_38 : decode cX10_rawSamples 38 = .ok (.iaload, 1) := by decide +kernel
theorem dX10_rawSamples_39 : decode cX10_rawSamples 39 = .ok (.i2l, 1) := by decide +kernel
theorem dX10_rawSamples_40 : decode cX10_rawSamples 40 = .ok (.bipush 8, 2) := by decide +kernel
theorem dX10_rawSamples_42 : decode cX10_rawSamples 42 = .ok (.invokevirtual 97, 3) := by decide +kernel
theorem dX10_rawSamples_45 : decode cX10_rawSamples 45 = .ok (.iinc 3 1, 3) := by decide +kernel
theorem dX10_rawSamples_48 : decode cX10_rawSamples 48 = .ok (.goto (-27), 3) := by decide +kernel
theorem dX10_rawSamples_51 : decode cX10_rawSamples 51 = .ok (.iload_n 2, 1) := by decide +kernel
theorem dX10_rawSamples_52 : decode cX10_rawSamples 52 = .ok (.ifCond .eq 7, 3) := by decide +kernel
theorem dX10_rawSamples_55 : decode cX10_rawSamples 55 = .ok (.aload_n 0, 1) := by decide +kernel
theorem dX10_rawSamples_56 : decode cX10_rawSamples 56 = .ok (.invokevirtual 90, 3) := by decide +kernel
theorem dX10_rawSamples_59 : decode cX10_rawSamples 59 = .ok (.return_, 1) := by decide +kernel
noncomputable def FX10_rawSamples (G : GG) (M : DD) (a : Nat) (p0 : Option Nat) : Option (NN × DD) :=
  ltt (M.1 a 8) fun x1 =>
  bnd (if x1 = ((0 : Int32)) then (some ([], M)) else
  (chk (okd (xt G []) p0 = true) <|
  bnd (FX10_last (xt G []) M a ((1 : Int32))) fun y40 =>
  app y40.1 <|
  ltt ([] ++ y40.1) fun L43 =>
  some ([], y40.2))) fun (y2 : NN × DD) =>
  app y2.1 <|
  ltt ([] ++ y2.1) fun L4 =>
  chk (okd (xt G L4) p0 = true) <|
  bnd (FX10_fill (xt G L4) y2.2 a ((0 : Int32))) fun y6 =>
  app y6.1 <|
  ltt (L4 ++ y6.1) fun L9 =>
  bnd (itrA (fun (s13 : NN × Int32 × DD) => ((if ((384 : Int32)) ≤ s13.2.1 then (some ([], .inr ((s13.2.1, s13.2.2)))) else
  (dr (xt G s13.1) 13 p0 fun b26 =>
  ltt (Int32.ofNat ((xt G s13.1).2.2 b26)) fun x27 =>
  if x27 ≤ s13.2.1 then (some ([], .inr ((s13.2.1, s13.2.2)))) else
  (chk (¬ (s13.2.1 < 0 ∨ (xt G s13.1).2.2 b26 ≤ s13.2.1.toNatClampNeg)) <|
  ltt (s13.2.2.1 b26 s13.2.1.toNatClampNeg) fun x29 =>
  ltt (x29.toInt64) fun x30 =>
  chk (okd (xt G s13.1) p0 = true) <|
  bnd (FX10_code (xt G s13.1) s13.2.2 a ((0 : Int32)) x30 ((8 : Int32))) fun y31 =>
  app y31.1 <|
  ltt (s13.1 ++ y31.1) fun L34 =>
  ltt (s13.2.1 + (1 : Int32)) fun x37 =>
  some ([], .inl (L34, (x37, y31.2)))))) : Option (NN × ((NN × Int32 × DD) ⊕ (Int32 × DD))))) 1000000 (L9, ((0 : Int32), y6.2))) fun (y12 : NN × Int32 × DD) =>
  app y12.1 <|
  ltt (L9 ++ y12.1) fun L15 =>
  bnd (if x1 = ((0 : Int32)) then (some (y12.2.2)) else
  (bnd (FX10_beginArith (xt G L15) y12.2.2 a) fun y19 =>
  some (y19))) fun (y17 : DD) =>
  some ([], y17)
set_option maxHeartbeats 4000000 in
set_option maxRecDepth 100000 in
theorem kX10_rawSamples (l : Launch) (D : va_G) (ct : CT) (ad : Nat → Nat) (Z : Nat → Nat) (G : GG) (M : DD) (sz : Nat) (a : Nat) (p0 : Option Nat) (y : NN × DD) (hc : a < G.1) (hk : G.2.1 a = 10) (hF : FX10_rawSamples G M a p0 = some y) : Met l yX10_rawSamples wsX10_rawSamples ({ frames := 5, cells := y.1.length, slots := wt y.1, locals := 175 }) (va_Pc [.ref (ad a), va_re ad p0] (kB D ct ad Z G M sz)) (va_Qv (fun (u : Nat → Nat) => agr G.1 ad u) (fun u t => kE D ct u (xt G y.1) (wA ad G sz) y.2 t) (wA ad G sz)) y.1.length (wt y.1) (wA ad G sz) := by
  refine Met.ofW (cc := cX10_rawSamples) (maxL := 4) (ret := none) (by decide) rfl ?_
  intro p e s m args below meth c s₁ B hml hv
  obtain ⟨rfl, hsz, hP, hK, hD0, hZ, hN⟩ := hv
  have hx := B.exec
  have hb := B.bytes
  have hr := B.returns
  have hts := atoms_spec (ws := wsX10_rawSamples) B.pre
  have hown : s.vm.findClass RX10 = some m.cls := findClass_of_methodNamed B.named
  have hlocks := B.notSynchronized
  subst hsz
  have hD := wD_self (sz := s.heap.size) hD0
  have hA9 : ∀ q, s.heap.size ≤ q → wA ad G s.heap.size q := fun q h => Or.inr h
  generalize hAe : wA ad G s.heap.size = A at hD hA9 hZ ⊢
  have hS : va_S A s.heap s.heap [] := va_S.rf
  have hl := lv_entry ([.ref (ad a), va_re ad p0]) (n := 4) (by cases p0 <;> exact Nat.le_of_ble_eq_true rfl)
  rw [lg_entry_eq]
  generalize (lg_sl ([.ref (ad a), va_re ad p0]) ++ List.replicate (4 - (lg_sl ([.ref (ad a), va_re ad p0])).length) Slot.unset).toArray = ls at hl ⊢
  have hl : lv_has ls 4 [(0, .ref (ad a)), (1, va_re ad p0)] := by have e9 : lv_args 0 [.ref (ad a), va_re ad p0] = [(0, .ref (ad a)), (1, va_re ad p0)] := (by cases p0 <;> rfl); rw [e9] at hl; exact hl
  unfold FX10_rawSamples at hF
  rw [← wld_0 ct ad G M] at hP hD
  have hk := xt_k0 hc hk
  have hc := xt_l0 hc
  have hag := agr_rf G.1 ad
  obtain ⟨w0, hw0⟩ : ∃ z, z = y := ⟨_, rfl⟩
  rw [← hw0] at hF
  have hT : y.1 = [] ++ w0.1 := by rw [hw0]; rfl
  have h2 : y.2 = w0.2 := by rw [hw0]
  have hbl : y.1.length ≤ y.1.length ∧ wt y.1 ≤ wt y.1 := ⟨Nat.le_refl _, Nat.le_refl _⟩
  refine lv_aload_n hx hb dX10_rawSamples_0 rfl (lv_at hl 0 rfl) ?_
  refine va_get (D := D) (ci := 10) (v := .int (M.1 a 8)) (C := RX10) (T := TX10) (N := 20) hx hb hts (by decide +kernel) hown hK hP a (wld_o ct ad (xt G []) M hc hk (by decide)) rfl 8 (by decide) (hts (.fieldLink RX10 30 "VideoSuite$Writer" "arith" "Z") (by decide +kernel)) (fun _ h9 => h9) rfl dX10_rawSamples_1 ?_
  obtain ⟨x1, ex1, hF⟩ := ltt_some hF
  refine lv_topi (fun zx1 ezx1 => ?_)
  obtain rfl : x1 = zx1 := ex1.trans ezx1.symm
  refine lv_istore_n (lv' := [(2, .int x1), (0, .ref (ad a)), (1, va_re ad p0)]) hx hb dX10_rawSamples_4 rfl hl (by decide) (by generalize p0 = o9; cases o9 <;> rfl) (fun ls hl => ?_)
  refine lv_iload_n hx hb dX10_rawSamples_5 rfl (lv_at hl 0 rfl) ?_
  obtain ⟨y2, hy2, hF⟩ := bnd_some hF
  obtain ⟨w3, hF, ew3⟩ := app_some hF
  obtain ⟨L4, eL4, hF⟩ := ltt_some hF
  have hT4 : y.1 = ([] ++ y2.1) ++ w3.1 := by rw [hT, ew3]; simp only [List.append_assoc]
  have hbl4 : L4.length ≤ y.1.length ∧ wt L4 ≤ wt y.1 := by rw [eL4]; exact room_d hT4 hbl
  have J2 : ∀ (ad5 : Nat → Nat), agr G.1 ad ad5 → ∀ (H : Heap) (locs : List Loc) (ls : Array Slot), va_P D classes (wld ct ad5 (xt G L4) y2.2) H → va_D A (wld ct ad5 (xt G L4) y2.2) → va_S A s.heap H locs → lv_has ls 4 [(2, .int x1), (0, .ref (ad5 a)), (1, va_re ad5 p0)] → W p l e (headSpec wsX10_rawSamples ({ frames := 5, cells := y.1.length, slots := wt y.1, locals := 175 })).room s m ([.ref (ad a), va_re ad p0] : List Value).toArray below meth c H locs (L4 : NN).length (wt L4) (MQ below (va_Qv (fun (u : Nat → Nat) => agr G.1 ad u) (fun u t => kE D ct u (xt G y.1) A y.2 t) A) ([.ref (ad a), va_re ad p0] : List Value).toArray s y.1.length (wt y.1) A) (F0 m 14 ls []) := by
    intro ad5 hag H locs ls hP hD hS hl
    have hT : y.1 = L4 ++ w3.1 := by rw [hT4, eL4]
    have h2 : y.2 = w3.2 := by rw [h2, ew3]
    have hk : (xt G L4).2.1 a = 10 := by rw [eL4]; exact xt_k _ hc hk
    have hc : a < (xt G L4).1 := by rw [eL4]; exact xt_l _ hc
    refine lv_aload_n hx hb dX10_rawSamples_14 rfl (lv_at hl 1 rfl) ?_
    refine lv_iconst (v := (0 : Int32)) hx hb dX10_rawSamples_15 (by decide) ?_
    obtain ⟨hq7, hF⟩ := chk_some hF
    obtain ⟨y6, hy6, hF⟩ := bnd_some hF
    obtain ⟨w8, hF, ew8⟩ := app_some hF
    obtain ⟨L9, eL9, hF⟩ := ltt_some hF
    have hT9 : y.1 = (L4 ++ y6.1) ++ w8.1 := by rw [hT, ew8]; simp only [List.append_assoc]
    have hf9 := wA_in hD hA9 hS
    refine va_callv (va_runV (As := [.int (0 : Int32)]) (rest := []) ⟨hx, hb, hml, hown, hts⟩ (kX10_fill l D ct ad5 Z (xt G L4) y2.2 _ a ((0 : Int32)) y6 hc hk hy6) (cwV 1 hts gX10_rawSamples_X10_fill rfl rfl rfl (by decide +kernel) ⟨Nat.le_of_ble_eq_true rfl, Nat.le_of_ble_eq_true rfl⟩) ⟨fun a U g mk q => by obtain ⟨q0, q1, qP, qK, qD, qZ, qN⟩ := q; exact ⟨q0, q1, qP, va_K.moved (u := U) (U := U.calling g mk a) (Vm.Alike.refl U.vm) qK, qD, sF.moved (u := U) (U := U.calling g mk a) (Vm.Alike.refl U.vm) qZ, nF.same rfl qN⟩, va_recv hK hP (ci := 10) (q0 := a) rfl (wld_o ct ad5 (xt G L4) y2.2 hc hk (by decide)), fun U hU hW => ⟨rfl, by rw [hU], by rw [hU]; exact hP, va_K.moved hW.alike hK, hD.weaken (fun _ _ _ _ => trivial), by rw [hU]; exact ((hZ.kept hS.2.1).narrow hf9).moved hW.alike, hN.warm hW⟩⟩ rfl rfl hl.1 rfl (lv_room (Nat.le_of_ble_eq_true rfl)) dX10_rawSamples_16 (room_s hT9 hbl)) hS (fun q _ h => hf9 q h) hf9 (fun ad10 t H locs ht hvm hw hB hz1 hk1 hS => ?_)
    have hn11 := hw
    obtain ⟨hP, hK9, hD9⟩ := hB
    rw [ht] at hP
    have hD := hD9.weaken (fun _ q _ h => hf9 q.1 h)
    rw [xt_xt, ← eL9] at hP hD
    refine W_cs (k := L9.length) (n := wt L9) (by rw [eL9]; exact (len_s L4 y6.1).symm) (by rw [eL9]; exact (wt_app L4 y6.1).symm) ?_
    have hT : y.1 = L9 ++ w8.1 := by rw [hT9, eL9]
    have h2 : y.2 = w8.2 := by rw [h2, ew8]
    have hl := lv_sub (l' := [(2, .int x1), (0, .ref (ad5 a)), (1, va_re ad5 p0)]) hl [0, 1, 2] rfl
    have e9 : ([(2, .int x1), (0, .ref (ad5 a)), (1, va_re ad5 p0)] : List (Nat × Value)) = [(2, .int x1), (0, .ref (ad10 a)), (1, va_re ad10 p0)] := (by first | rfl | simp only [hn11 a hc, agr_re hn11 hq7])
    rw [e9] at hl
    clear e9
    have hk : (xt G L9).2.1 a = 10 := by rw [eL9]; exact xt_k _ hc hk
    have hc : a < (xt G L9).1 := by rw [eL9]; exact xt_l _ hc
    have hag := agr_t (xt_ge _ _) hag hn11
    refine lv_iconst (v := (0 : Int32)) hx hb dX10_rawSamples_19 (by decide) ?_
    refine lv_istore_n (lv' := [(3, .int (0 : Int32)), (2, .int x1), (0, .ref (ad10 a)), (1, va_re ad10 p0)]) hx hb dX10_rawSamples_20 rfl hl (by decide) rfl (fun ls hl => ?_)
    obtain ⟨y12, hy12, hF⟩ := bnd_some hF
    obtain ⟨w14, hF, ew14⟩ := app_some hF
    obtain ⟨L15, eL15, hF⟩ := ltt_some hF
    have hT15 : y.1 = (L9 ++ y12.1) ++ w14.1 := by rw [hT, ew14]; simp only [List.append_assoc]
    have hbl15 : L15.length ≤ y.1.length ∧ wt L15 ≤ wt y.1 := by rw [eL15]; exact room_d hT15 hbl
    have K12 : ∀ (ad16 : Nat → Nat), agr G.1 ad ad16 → ∀ (H : Heap) (locs : List Loc) (ls : Array Slot), va_P D classes (wld ct ad16 (xt G L15) y12.2.2) H → va_D A (wld ct ad16 (xt G L15) y12.2.2) → va_S A s.heap H locs → lv_has ls 4 [(2, .int x1), (0, .ref (ad16 a))] → W p l e (headSpec wsX10_rawSamples ({ frames := 5, cells := y.1.length, slots := wt y.1, locals := 175 })).room s m ([.ref (ad a), va_re ad p0] : List Value).toArray below meth c H locs (L15 : NN).length (wt L15) (MQ below (va_Qv (fun (u : Nat → Nat) => agr G.1 ad u) (fun u t => kE D ct u (xt G y.1) A y.2 t) A) ([.ref (ad a), va_re ad p0] : List Value).toArray s y.1.length (wt y.1) A) (F0 m 51 ls []) := by
      intro ad16 hag H locs ls hP hD hS hl
      have hT : y.1 = L15 ++ w14.1 := by rw [hT15, eL15]
      have h2 : y.2 = w14.2 := by rw [h2, ew14]
      have hk : (xt G L15).2.1 a = 10 := by rw [eL15]; exact xt_k _ hc hk
      have hc : a < (xt G L15).1 := by rw [eL15]; exact xt_l _ hc
      refine lv_iload_n hx hb dX10_rawSamples_51 rfl (lv_at hl 0 rfl) ?_
      obtain ⟨y17, hy17, hF⟩ := bnd_some hF
      have J17 : ∀ (H : Heap) (locs : List Loc) (ls : Array Slot), va_P D classes (wld ct ad16 (xt G L15) y17) H → va_D A (wld ct ad16 (xt G L15) y17) → va_S A s.heap H locs → lv_has ls 4 [(2, .int x1), (0, .ref (ad16 a))] → W p l e (headSpec wsX10_rawSamples ({ frames := 5, cells := y.1.length, slots := wt y.1, locals := 175 })).room s m ([.ref (ad a), va_re ad p0] : List Value).toArray below meth c H locs (L15 : NN).length (wt L15) (MQ below (va_Qv (fun (u : Nat → Nat) => agr G.1 ad u) (fun u t => kE D ct u (xt G y.1) A y.2 t) A) ([.ref (ad a), va_re ad p0] : List Value).toArray s y.1.length (wt y.1) A) (F0 m 59 ls []) := by
        intro H locs ls hP hD hS hl
        obtain rfl := Option.some.inj hF
        have e1 : y.1 = L15 := by rw [hT]; exact List.append_nil _
        have e2 : y.2 = y17 := h2
        refine W.widen (k := y.1.length) (n := wt y.1) (Nat.le_of_eq (by rw [e1])) (Nat.le_of_eq (by rw [e1])) ?_
        exact W.vret hx hb hr (fun t ht hW => ⟨⟨ad16, rfl, hag, (by unfold kE; rw [e1, e2]; exact ⟨by rw [ht]; exact hP, va_K.moved hW.alike hK, hD⟩)⟩, hS.F ht⟩) hS.2.2 dX10_rawSamples_59
      clear hF
      have hF := hy17
      clear hy17
      refine lv_if_eq (tgt := 59) hx hb dX10_rawSamples_52 (by decide) (fun c18 => ?_) (fun c18 => ?_)
      · rw [if_pos c18] at hF
        obtain rfl := Option.some.inj hF
        exact J17 _ _ _ hP hD hS (lv_sub hl [0, 1] rfl)
      · rw [if_neg c18] at hF
        refine lv_aload_n hx hb dX10_rawSamples_55 rfl (lv_at hl 1 rfl) ?_
        obtain ⟨y19, hy19, hF⟩ := bnd_some hF
        have hf9 := wA_in hD hA9 hS
        refine va_callv (va_runV (As := []) (rest := []) ⟨hx, hb, hml, hown, hts⟩ (kX10_beginArith l D ct ad16 Z (xt G L15) y12.2.2 H.size a y19 hc hk hy19) (cwV 0 hts gX10_rawSamples_X10_beginArith rfl rfl rfl (by decide +kernel) ⟨Nat.le_of_ble_eq_true rfl, Nat.le_of_ble_eq_true rfl⟩) ⟨fun a U g mk q => by obtain ⟨q0, q1, qP, qK, qD, qZ, qN⟩ := q; exact ⟨q0, q1, qP, va_K.moved (u := U) (U := U.calling g mk a) (Vm.Alike.refl U.vm) qK, qD, sF.moved (u := U) (U := U.calling g mk a) (Vm.Alike.refl U.vm) qZ, nF.same rfl qN⟩, va_recv hK hP (ci := 10) (q0 := a) rfl (wld_o ct ad16 (xt G L15) y12.2.2 hc hk (by decide)), fun U hU hW => ⟨rfl, by rw [hU], by rw [hU]; exact hP, va_K.moved hW.alike hK, hD.weaken (fun _ _ _ _ => trivial), by rw [hU]; exact ((hZ.kept hS.2.1).narrow hf9).moved hW.alike, hN.warm hW⟩⟩ rfl rfl hl.1 rfl (lv_room (Nat.le_of_ble_eq_true rfl)) dX10_rawSamples_56 (room_d hT hbl)) hS (fun q _ h => hf9 q h) hf9 (fun u t H locs ht hvm hw hB hz1 hk1 hS => ?_)
        obtain ⟨hP, hK9, hD9⟩ := hB
        rw [ht] at hP
        refine W_cs (k := (L15 : NN).length) (n := wt L15) rfl rfl ?_
        have hD := hD9.weaken (fun _ q _ h => hf9 q.1 h)
        obtain rfl := Option.some.inj hF
        exact J17 _ _ _ hP hD hS (lv_sub hl [0, 1] rfl)
    clear hF
    refine itrA_rule (fun (s13 : NN × Int32 × DD) (r21 : NN) => (∃ t, s13.1 = L9 ++ t) → L15 = s13.1 ++ r21 → ∀ (ad20 : Nat → Nat), agr G.1 ad ad20 → ∀ (H : Heap) (locs : List Loc) (ls : Array Slot), va_P D classes (wld ct ad20 (xt G s13.1) s13.2.2) H → va_D A (wld ct ad20 (xt G s13.1) s13.2.2) → va_S A s.heap H locs → lv_has ls 4 [(3, .int s13.2.1), (2, .int x1), (0, .ref (ad20 a)), (1, va_re ad20 p0)] → W p l e (headSpec wsX10_rawSamples ({ frames := 5, cells := y.1.length, slots := wt y.1, locals := 175 })).room s m ([.ref (ad a), va_re ad p0] : List Value).toArray below meth c H locs (s13.1 : NN).length (wt s13.1) (MQ below (va_Qv (fun (u : Nat → Nat) => agr G.1 ad u) (fun u t => kE D ct u (xt G y.1) A y.2 t) A) ([.ref (ad a), va_re ad p0] : List Value).toArray s y.1.length (wt y.1) A) (F0 m 21 ls [])) ?_ _ _ _ hy12 ⟨[], (List.append_nil _).symm⟩ eL15 _ hag _ _ _ hP hD hS (lv_sub hl [0, 1, 2, 3] rfl)
    rintro s13 r21 ⟨z22, hF, ⟨t12, et12⟩, hwz22⟩ ⟨u12, eu12⟩ eq12 ad20 hag H locs ls hP hD hS hl
    try dsimp only at hF
    obtain ⟨L23, eL23⟩ : ∃ x, x = s13.1 ++ z22.1 := ⟨_, rfl⟩
    obtain ⟨w24, hw24⟩ : ∃ x, x = z22 := ⟨_, rfl⟩
    rw [← hw24] at hF
    have hbl : L23.length ≤ y.1.length ∧ wt L23 ≤ wt y.1 := room_d (show L15 = L23 ++ t12 by rw [eq12, et12, eL23]; simp only [List.append_assoc]) hbl15
    have hT : L23 = s13.1 ++ w24.1 := by rw [eL23, hw24]
    have h2 : z22.2 = w24.2 := by rw [hw24]
    have hk : (xt G s13.1).2.1 a = 10 := by rw [eu12]; exact xt_k _ hc hk
    have hc : a < (xt G s13.1).1 := by rw [eu12]; exact xt_l _ hc
    refine lv_iload_n hx hb dX10_rawSamples_21 rfl (lv_at hl 0 rfl) ?_
    refine lv_sipush (v := (384 : Int32)) hx hb dX10_rawSamples_22 (by decide) ?_
    refine lv_icmp_ge (tgt := 51) hx hb dX10_rawSamples_25 (by decide) (fun c25 => ?_) (fun c25 => ?_)
    · rw [if_pos c25] at hF
      obtain rfl := Option.some.inj hF
      have e1 : L23 = s13.1 := by rw [hT]; exact List.append_nil _
      have e2 : z22.2 = .inr ((s13.2.1, s13.2.2)) := h2
      rw [e2] at hwz22
      obtain ⟨hw1, hw2⟩ := hwz22
      have e8 : L15 = s13.1 := by rw [eq12, hw2, ← eL23, e1]
      rw [e8] at K12
      try rw [← hw1] at K12
      exact K12 _ hag _ _ _ hP hD hS (lv_sub hl [1, 2] rfl)
    · rw [if_neg c25] at hF
      refine lv_iload_n hx hb dX10_rawSamples_28 rfl (lv_at hl 0 rfl) ?_
      refine lv_aloadq_n hx hb dX10_rawSamples_29 rfl (lv_at hl 3 rfl) ?_
      obtain ⟨b26, ho26, hc26, hk26, hF⟩ := dr_some hF
      refine W_st (st' := [.ref (ad20 b26), .int s13.2.1]) (by rw [va_some ho26]) ?_
      refine va_alen (v := Int32.ofNat ((xt G s13.1).2.2 b26)) hx hb hK hP b26 1 (wld_i ct ad20 (xt G s13.1) s13.2.2 hc26 hk26) rfl rfl dX10_rawSamples_30 ?_
      obtain ⟨x27, ex27, hF⟩ := ltt_some hF
      refine lv_topi (fun zx27 ezx27 => ?_)
      obtain rfl : x27 = zx27 := ex27.trans ezx27.symm
      refine lv_icmp_ge (tgt := 51) hx hb dX10_rawSamples_31 (by decide) (fun c28 => ?_) (fun c28 => ?_)
      · rw [if_pos c28] at hF
        obtain rfl := Option.some.inj hF
        have e1 : L23 = s13.1 := by rw [hT]; exact List.append_nil _
        have e2 : z22.2 = .inr ((s13.2.1, s13.2.2)) := h2
        rw [e2] at hwz22
        obtain ⟨hw1, hw2⟩ := hwz22
        have e8 : L15 = s13.1 := by rw [eq12, hw2, ← eL23, e1]
        rw [e8] at K12
        try rw [← hw1] at K12
        exact K12 _ hag _ _ _ hP hD hS (lv_sub hl [1, 2] rfl)
      · rw [if_neg c28] at hF
        refine lv_aload_n hx hb dX10_rawSamples_34 rfl (lv_at hl 2 rfl) ?_
        refine lv_iconst (v := (0 : Int32)) hx hb dX10_rawSamples_35 (by decide) ?_
        refine lv_aloadq_n hx hb dX10_rawSamples_36 rfl (lv_at hl 3 rfl) ?_
        refine lv_iload_n hx hb dX10_rawSamples_37 rfl (lv_at hl 0 rfl) ?_
        refine W_st (st' := [.int s13.2.1, .ref (ad20 b26), .int (0 : Int32), .ref (ad20 a)]) (by rw [va_some ho26]) ?_
        obtain ⟨hvc, hF⟩ := chk_some hF
        refine va_iald hx hb hK hP b26 1 (wld_i ct ad20 (xt G s13.1) s13.2.2 hc26 hk26) rfl hvc dX10_rawSamples_38 ?_
        obtain ⟨x29, ex29, hF⟩ := ltt_some hF
        refine lv_topi (fun zx29 ezx29 => ?_)
        obtain rfl : x29 = zx29 := ex29.trans ezx29.symm
        refine lv_i2l (v := x29.toInt64) hx hb dX10_rawSamples_39 rfl ?_
        obtain ⟨x30, ex30, hF⟩ := ltt_some hF
        refine lv_topl (fun zx30 ezx30 => ?_)
        obtain rfl : x30 = zx30 := ex30.trans ezx30.symm
        refine lv_bipush (v := (8 : Int32)) hx hb dX10_rawSamples_40 (by decide) ?_
        obtain ⟨hq32, hF⟩ := chk_some hF
        obtain ⟨y31, hy31, hF⟩ := bnd_some hF
        obtain ⟨w33, hF, ew33⟩ := app_some hF
        obtain ⟨L34, eL34, hF⟩ := ltt_some hF
        have hT34 : L23 = (s13.1 ++ y31.1) ++ w33.1 := by rw [hT, ew33]; simp only [List.append_assoc]
        have hf9 := wA_in hD hA9 hS
        refine va_callv (va_runV (As := [.int (0 : Int32), .long x30, .int (8 : Int32)]) (rest := []) ⟨hx, hb, hml, hown, hts⟩ (kX10_code l D ct ad20 Z (xt G s13.1) s13.2.2 _ a ((0 : Int32)) x30 ((8 : Int32)) y31 hc hk hy31) (cwV 3 hts gX10_rawSamples_X10_code rfl rfl rfl (by decide +kernel) ⟨Nat.le_of_ble_eq_true rfl, Nat.le_of_ble_eq_true rfl⟩) ⟨fun a U g mk q => by obtain ⟨q0, q1, qP, qK, qD, qZ, qN⟩ := q; exact ⟨q0, q1, qP, va_K.moved (u := U) (U := U.calling g mk a) (Vm.Alike.refl U.vm) qK, qD, sF.moved (u := U) (U := U.calling g mk a) (Vm.Alike.refl U.vm) qZ, nF.same rfl qN⟩, va_recv hK hP (ci := 10) (q0 := a) rfl (wld_o ct ad20 (xt G s13.1) s13.2.2 hc hk (by decide)), fun U hU hW => ⟨rfl, by rw [hU], by rw [hU]; exact hP, va_K.moved hW.alike hK, hD.weaken (fun _ _ _ _ => trivial), by rw [hU]; exact ((hZ.kept hS.2.1).narrow hf9).moved hW.alike, hN.warm hW⟩⟩ rfl rfl hl.1 rfl (lv_room (Nat.le_of_ble_eq_true rfl)) dX10_rawSamples_42 (room_s hT34 hbl)) hS (fun q _ h => hf9 q h) hf9 (fun ad35 t H locs ht hvm hw hB hz1 hk1 hS => ?_)
        have hn36 := hw
        obtain ⟨hP, hK9, hD9⟩ := hB
        rw [ht] at hP
        have hD := hD9.weaken (fun _ q _ h => hf9 q.1 h)
        rw [xt_xt, ← eL34] at hP hD
        refine W_cs (k := L34.length) (n := wt L34) (by rw [eL34]; exact (len_s s13.1 y31.1).symm) (by rw [eL34]; exact (wt_app s13.1 y31.1).symm) ?_
        have hT : L23 = L34 ++ w33.1 := by rw [hT34, eL34]
        have h2 : z22.2 = w33.2 := by rw [h2, ew33]
        have hl := lv_sub (l' := [(3, .int s13.2.1), (2, .int x1), (0, .ref (ad20 a)), (1, va_re ad20 p0)]) hl [0, 1, 2, 3] rfl
        have e9 : ([(3, .int s13.2.1), (2, .int x1), (0, .ref (ad20 a)), (1, va_re ad20 p0)] : List (Nat × Value)) = [(3, .int s13.2.1), (2, .int x1), (0, .ref (ad35 a)), (1, va_re ad35 p0)] := (by first | rfl | simp only [hn36 a hc, agr_re hn36 hq32])
        rw [e9] at hl
        clear e9
        have hk : (xt G L34).2.1 a = 10 := by rw [eL34]; exact xt_k _ hc hk
        have hc : a < (xt G L34).1 := by rw [eL34]; exact xt_l _ hc
        have hk26 : (xt G L34).2.1 b26 = 13 := by rw [eL34]; exact xt_k _ hc26 hk26
        have hc26 : b26 < (xt G L34).1 := by rw [eL34]; exact xt_l _ hc26
        have hag := agr_t (xt_ge _ _) hag hn36
        obtain ⟨x37, ex37, hF⟩ := ltt_some hF
        refine lv_iinc (v := x37) (lv' := [(3, .int x37), (2, .int x1), (0, .ref (ad35 a)), (1, va_re ad35 p0)]) hx hb dX10_rawSamples_45 hl (k := 0) rfl (by rw [ex37]; rfl) (by decide) rfl (fun ls hl => ?_)
        refine lv_goto (tgt := 21) hx hb dX10_rawSamples_48 (by decide) ?_
        obtain rfl := Option.some.inj hF
        have e1 : L23 = L34 := by rw [hT]; exact List.append_nil _
        have e2 : z22.2 = .inl (L34, (x37, y31.2)) := h2
        rw [e2] at hwz22
        obtain ⟨r2, er2, hwz22⟩ := hwz22
        exact hwz22 ⟨u12 ++ z22.1, by show L34 = _; rw [← e1, eL23, eu12]; simp only [List.append_assoc]⟩ (by show L15 = L34 ++ r2; rw [eq12, er2, ← e1, eL23]; simp only [List.append_assoc]) _ hag _ _ _ hP hD hS (lv_sub hl [0, 1, 2, 3] rfl)
  clear hF
  obtain ⟨w38, hw38⟩ : ∃ z, z = y2 := ⟨_, rfl⟩
  have hF := hy2
  rw [← hw38] at hF
  clear hy2
  have hT : L4 = [] ++ w38.1 := by rw [eL4, hw38]
  have h2 : y2.2 = w38.2 := by rw [hw38]
  have hbl := hbl4
  refine lv_if_eq (tgt := 14) hx hb dX10_rawSamples_6 (by decide) (fun c39 => ?_) (fun c39 => ?_)
  · rw [if_pos c39] at hF
    obtain rfl := Option.some.inj hF
    have e1 : L4 = [] := by rw [hT]; exact List.append_nil _
    have e2 : y2.2 = M := h2
    rw [e1] at J2
    try rw [e2] at J2
    exact J2 _ hag _ _ _ hP hD hS (lv_sub hl [0, 1, 2] rfl)
  · rw [if_neg c39] at hF
    refine lv_aload_n hx hb dX10_rawSamples_9 rfl (lv_at hl 1 rfl) ?_
    refine lv_iconst (v := (1 : Int32)) hx hb dX10_rawSamples_10 (by decide) ?_
    obtain ⟨hq41, hF⟩ := chk_some hF
    obtain ⟨y40, hy40, hF⟩ := bnd_some hF
    obtain ⟨w42, hF, ew42⟩ := app_some hF
    obtain ⟨L43, eL43, hF⟩ := ltt_some hF
    have hT43 : L4 = ([] ++ y40.1) ++ w42.1 := by rw [hT, ew42]; simp only [List.append_assoc]
    have hf9 := wA_in hD hA9 hS
    refine va_callv (va_runV (As := [.int (1 : Int32)]) (rest := []) ⟨hx, hb, hml, hown, hts⟩ (kX10_last l D ct ad Z (xt G []) M _ a ((1 : Int32)) y40 hc hk hy40) (cwV 1 hts gX10_rawSamples_X10_last rfl rfl rfl (by decide +kernel) ⟨Nat.le_of_ble_eq_true rfl, Nat.le_of_ble_eq_true rfl⟩) ⟨fun a U g mk q => by obtain ⟨q0, q1, qP, qK, qD, qZ, qN⟩ := q; exact ⟨q0, q1, qP, va_K.moved (u := U) (U := U.calling g mk a) (Vm.Alike.refl U.vm) qK, qD, sF.moved (u := U) (U := U.calling g mk a) (Vm.Alike.refl U.vm) qZ, nF.same rfl qN⟩, va_recv hK hP (ci := 10) (q0 := a) rfl (wld_o ct ad (xt G []) M hc hk (by decide)), fun U hU hW => ⟨rfl, by rw [hU], by rw [hU]; exact hP, va_K.moved hW.alike hK, hD.weaken (fun _ _ _ _ => trivial), by rw [hU]; exact ((hZ.kept hS.2.1).narrow hf9).moved hW.alike, hN.warm hW⟩⟩ rfl rfl hl.1 rfl (lv_room (Nat.le_of_ble_eq_true rfl)) dX10_rawSamples_11 (room_s hT43 hbl)) hS (fun q _ h => hf9 q h) hf9 (fun ad44 t H locs ht hvm hw hB hz1 hk1 hS => ?_)
    have hn45 := hw
    obtain ⟨hP, hK9, hD9⟩ := hB
    rw [ht] at hP
    have hD := hD9.weaken (fun _ q _ h => hf9 q.1 h)
    rw [xt_xt, ← eL43] at hP hD
    refine W_cs (k := L43.length) (n := wt L43) (by rw [eL43]; exact (len_s [] y40.1).symm) (by rw [eL43]; exact (wt_app [] y40.1).symm) ?_
    have hT : L4 = L43 ++ w42.1 := by rw [hT43, eL43]
    have h2 : y2.2 = w42.2 := by rw [h2, ew42]
    have hl := lv_sub (l' := [(2, .int x1), (0, .ref (ad a)), (1, va_re ad p0)]) hl [0, 1, 2] rfl
    have e9 : ([(2, .int x1), (0, .ref (ad a)), (1, va_re ad p0)] : List (Nat × Value)) = [(2, .int x1), (0, .ref (ad44 a)), (1, va_re ad44 p0)] := (by first | rfl | simp only [hn45 a hc, agr_re hn45 hq41])
    rw [e9] at hl
    clear e9
    have hk : (xt G L43).2.1 a = 10 := by rw [eL43]; exact xt_k _ hc hk
    have hc : a < (xt G L43).1 := by rw [eL43]; exact xt_l _ hc
    have hag := agr_t (xt_ge _ _) hag hn45
    obtain rfl := Option.some.inj hF
    have e1 : L4 = L43 := by rw [hT]; exact List.append_nil _
    have e2 : y2.2 = y40.2 := h2
    rw [e1] at J2
    try rw [e2] at J2
    exact J2 _ hag _ _ _ hP hD hS (lv_sub hl [0, 1, 2] rfl)
theorem ggX10_se_X10_indexOfSe : GoodIn wsX10_se wsX10_indexOfSe := goodIn_r _ [4] (by decide +kernel) (by decide +kernel)
set_option maxRecDepth 20000 in
theorem gX10_se_X10_indexOfSe : GoodIn wsX10_se (va_wsS RX10 105 yX10_indexOfSe wsX10_indexOfSe) := goodIn_app (goodIn_of _ (by decide +kernel)) ggX10_se_X10_indexOfSe
set_option maxRecDepth 20000 in
theorem ggX10_se_X10_bitsOfUe : GoodIn wsX10_se wsX10_bitsOfUe := goodIn_r _ [7] (by decide +kernel) (by decide +kernel)
set_option maxRecDepth 20000 in
theorem gX10_se_X10_bitsOfUe : GoodIn wsX10_se (va_wsS RX10 101 yX10_bitsOfUe wsX10_bitsOfUe) := goodIn_app (goodIn_of _ (by decide +kernel)) ggX10_se_X10_bitsOfUe
set_option maxRecDepth 20000 in
theorem ggX10_se_X10_code : GoodIn wsX10_se wsX10_code := goodIn_r _ [11, 12, 13, 14, 15, 16, 17, 18, 19, 20, 3, 21, 22, 23, 24, 25, 26, 27, 28, 29, 30, 31, 32, 33, 34, 35, 36, 37, 38, 39, 40, 41, 42, 43, 44, 45, 46, 47, 48, 49, 50, 51, 52, 53, 54, 55, 56, 57, 58, 59, 60, 61, 62, 63, 64, 65, 66, 67, 68, 69, 70] (by decide +kernel) (by decide +kernel)
set_option maxRecDepth 20000 in
theorem gX10_se_X10_code : GoodIn wsX10_se (wsV RX10 97 RX10 yX10_code wsX10_code) := goodIn_app (goodIn_of _ (by decide +kernel)) ggX10_se_X10_code
theorem dX10_se_0 : decode cX10_se 0 = .ok (.iload_n 2, 1) := by decide +kernel
theorem dX10_se_1 : decode cX10_se 1 = .ok (.invokestatic 105, 3) := by decide +kernel
theorem dX10_se_4 : decode cX10_se 4 = .ok (.istore_n 3, 1) := by decide +kernel
theorem dX10_se_5 : decode cX10_se 5 = .ok (.aload_n 0, 1) := by decide +kernel
theorem dX10_se_6 : decode cX10_se 6 = .ok (.iload_n 1, 1) := by decide +kernel
theorem dX10_se_7 : decode cX10_se 7 = .ok (.iload_n 3, 1) := by decide +kernel
theorem dX10_se_8 : decode cX10_se 8 = .ok (.i2l, 1) := by decide +kernel
theorem dX10_se_9 : decode cX10_se 9 = .ok (.lconst 1, 1) := by decide +kernel
theorem dX10_se_10 : decode cX10_se 10 = .ok (.ladd, 1) := by decide +kernel
theorem dX10_se_11 : decode cX10_se 11 = .ok (.iload_n 3, 1) := by decide +kernel
theorem dX10_se_12 : decode cX10_se 12 = .ok (.invokestatic 101, 3) := by decide +kernel
theorem dX10_se_15 : decode cX10_se 15 = .ok (.invokevirtual 97, 3) := by decide +kernel
theorem dX10_se_18 : decode cX10_se 18 = .ok (.return_, 1) := by decide +kernel
noncomputable def FX10_se (G : GG) (M : DD) (a : Nat) (p0 : Int32) (p1 : Int32) : Option (NN × DD) :=
  bnd (FX10_indexOfSe (xt G []) M p1) fun y1 =>
  ltt (y1.2.toInt64) fun x2 =>
  ltt (x2 + ((1 : Int64))) fun x3 =>
  bnd (FX10_bitsOfUe (xt G []) y1.1 y1.2) fun y4 =>
  bnd (FX10_code (xt G []) y4.1 a p0 x3 y4.2) fun y5 =>
  app y5.1 <|
  ltt ([] ++ y5.1) fun L7 =>
  some ([], y5.2)
set_option maxHeartbeats 4000000 in
set_option maxRecDepth 100000 in
theorem kX10_se (l : Launch) (D : va_G) (ct : CT) (ad : Nat → Nat) (Z : Nat → Nat) (G : GG) (M : DD) (sz : Nat) (a : Nat) (p0 : Int32) (p1 : Int32) (y : NN × DD) (hc : a < G.1) (hk : G.2.1 a = 10) (hF : FX10_se G M a p0 p1 = some y) : Met l yX10_se wsX10_se ({ frames := 5, cells := y.1.length, slots := wt y.1, locals := 175 }) (va_Pc [.ref (ad a), .int p0, .int p1] (kB D ct ad Z G M sz)) (va_Qv (fun (u : Nat → Nat) => agr G.1 ad u) (fun u t => kE D ct u (xt G y.1) (wA ad G sz) y.2 t) (wA ad G sz)) y.1.length (wt y.1) (wA ad G sz) := by
  refine Met.ofW (cc := cX10_se) (maxL := 4) (ret := none) (by decide) rfl ?_
  intro p e s m args below meth c s₁ B hml hv
  obtain ⟨rfl, hsz, hP, hK, hD0, hZ, hN⟩ := hv
  have hx := B.exec
  have hb := B.bytes
  have hr := B.returns
  have hts := atoms_spec (ws := wsX10_se) B.pre
  have hown : s.vm.findClass RX10 = some m.cls := findClass_of_methodNamed B.named
  have hlocks := B.notSynchronized
  subst hsz
  have hD := wD_self (sz := s.heap.size) hD0
  have hA9 : ∀ q, s.heap.size ≤ q → wA ad G s.heap.size q := fun q h => Or.inr h
  generalize hAe : wA ad G s.heap.size = A at hD hA9 hZ ⊢
  have hS : va_S A s.heap s.heap [] := va_S.rf
  have hl := lv_entry ([.ref (ad a), .int p0, .int p1]) (n := 4) (Nat.le_of_ble_eq_true rfl)
  rw [lg_entry_eq]
  generalize (lg_sl ([.ref (ad a), .int p0, .int p1]) ++ List.replicate (4 - (lg_sl ([.ref (ad a), .int p0, .int p1])).length) Slot.unset).toArray = ls at hl ⊢
  have hl : lv_has ls 4 [(0, .ref (ad a)), (1, .int p0), (2, .int p1)] := hl
  unfold FX10_se at hF
  rw [← wld_0 ct ad G M] at hP hD
  have hk := xt_k0 hc hk
  have hc := xt_l0 hc
  have hag := agr_rf G.1 ad
  obtain ⟨w0, hw0⟩ : ∃ z, z = y := ⟨_, rfl⟩
  rw [← hw0] at hF
  have hT : y.1 = [] ++ w0.1 := by rw [hw0]; rfl
  have h2 : y.2 = w0.2 := by rw [hw0]
  have hbl : y.1.length ≤ y.1.length ∧ wt y.1 ≤ wt y.1 := ⟨Nat.le_refl _, Nat.le_refl _⟩
  refine lv_iload_n hx hb dX10_se_0 rfl (lv_at hl 2 rfl) ?_
  obtain ⟨y1, hy1, hF⟩ := bnd_some hF
  have hf9 := wA_in hD hA9 hS
  refine va_calli (va_runS (As := [.int p1]) (rest := []) ⟨hx, hb, hml, hown, hts⟩ (kX10_indexOfSe l D ct ad Z (xt G []) M s.heap.size p1 y1 hy1) (va_cwS 1 hts gX10_se_X10_indexOfSe rfl rfl rfl (by decide +kernel) ⟨Nat.le_of_ble_eq_true rfl, Nat.le_of_ble_eq_true rfl⟩) ⟨fun a U g mk q => by obtain ⟨q0, q1, qP, qK, qD, qZ, qN⟩ := q; exact ⟨q0, q1, qP, va_K.moved (u := U) (U := U.calling g mk a) (Vm.Alike.refl U.vm) qK, qD, sF.moved (u := U) (U := U.calling g mk a) (Vm.Alike.refl U.vm) qZ, nF.same rfl qN⟩, fun U hU hW => ⟨rfl, by rw [hU], by rw [hU]; exact hP, va_K.moved hW.alike hK, hD.weaken (fun _ _ _ _ => trivial), by rw [hU]; exact ((hZ.kept hS.2.1).narrow hf9).moved hW.alike, hN.warm hW⟩⟩ rfl rfl hl.1 rfl (lv_room (Nat.le_of_ble_eq_true rfl)) dX10_se_1 (room_d hT hbl)) hS (fun q _ h => hf9 q h) hf9 (fun r u t H locs ht hvm hw hB hz1 hk1 hS => ?_)
  obtain ⟨hP, hK9, hD9⟩ := hB
  rw [ht] at hP
  try dsimp only at hw
  subst hw
  refine W_cs (k := ([] : NN).length) (n := wt []) rfl rfl ?_
  have hD := hD9.weaken (fun _ q _ h => hf9 q.1 h)
  refine lv_istore_n (lv' := [(3, .int y1.2), (0, .ref (ad a)), (1, .int p0), (2, .int p1)]) hx hb dX10_se_4 rfl hl (by decide) rfl (fun ls hl => ?_)
  refine lv_aload_n hx hb dX10_se_5 rfl (lv_at hl 1 rfl) ?_
  refine lv_iload_n hx hb dX10_se_6 rfl (lv_at hl 2 rfl) ?_
  refine lv_iload_n hx hb dX10_se_7 rfl (lv_at hl 0 rfl) ?_
  refine lv_i2l (v := y1.2.toInt64) hx hb dX10_se_8 rfl ?_
  obtain ⟨x2, ex2, hF⟩ := ltt_some hF
  refine lv_topl (fun zx2 ezx2 => ?_)
  obtain rfl : x2 = zx2 := ex2.trans ezx2.symm
  refine lv_lconst (v := (1 : Int64)) hx hb dX10_se_9 rfl ?_
  refine lv_ladd hx hb dX10_se_10 ?_
  obtain ⟨x3, ex3, hF⟩ := ltt_some hF
  refine lv_topl (fun zx3 ezx3 => ?_)
  obtain rfl : x3 = zx3 := ex3.trans ezx3.symm
  refine lv_iload_n hx hb dX10_se_11 rfl (lv_at hl 0 rfl) ?_
  obtain ⟨y4, hy4, hF⟩ := bnd_some hF
  have hf9 := wA_in hD hA9 hS
  refine va_calli (va_runS (As := [.int y1.2]) (rest := [.long x3, .int p0, .ref (ad a)]) ⟨hx, hb, hml, hown, hts⟩ (kX10_bitsOfUe l D ct ad Z (xt G []) y1.1 H.size y1.2 y4 hy4) (va_cwS 1 hts gX10_se_X10_bitsOfUe rfl rfl rfl (by decide +kernel) ⟨Nat.le_of_ble_eq_true rfl, Nat.le_of_ble_eq_true rfl⟩) ⟨fun a U g mk q => by obtain ⟨q0, q1, qP, qK, qD, qZ, qN⟩ := q; exact ⟨q0, q1, qP, va_K.moved (u := U) (U := U.calling g mk a) (Vm.Alike.refl U.vm) qK, qD, sF.moved (u := U) (U := U.calling g mk a) (Vm.Alike.refl U.vm) qZ, nF.same rfl qN⟩, fun U hU hW => ⟨rfl, by rw [hU], by rw [hU]; exact hP, va_K.moved hW.alike hK, hD.weaken (fun _ _ _ _ => trivial), by rw [hU]; exact ((hZ.kept hS.2.1).narrow hf9).moved hW.alike, hN.warm hW⟩⟩ rfl rfl hl.1 rfl (lv_room (Nat.le_of_ble_eq_true rfl)) dX10_se_12 (room_d hT hbl)) hS (fun q _ h => hf9 q h) hf9 (fun r u t H locs ht hvm hw hB hz1 hk1 hS => ?_)
  obtain ⟨hP, hK9, hD9⟩ := hB
  rw [ht] at hP
  try dsimp only at hw
  subst hw
  refine W_cs (k := ([] : NN).length) (n := wt []) rfl rfl ?_
  have hD := hD9.weaken (fun _ q _ h => hf9 q.1 h)
  obtain ⟨y5, hy5, hF⟩ := bnd_some hF
  obtain ⟨w6, hF, ew6⟩ := app_some hF
  obtain ⟨L7, eL7, hF⟩ := ltt_some hF
  have hT7 : y.1 = ([] ++ y5.1) ++ w6.1 := by rw [hT, ew6]; simp only [List.append_assoc]
  have hf9 := wA_in hD hA9 hS
  refine va_callv (va_runV (As := [.int p0, .long x3, .int y4.2]) (rest := []) ⟨hx, hb, hml, hown, hts⟩ (kX10_code l D ct ad Z (xt G []) y4.1 _ a p0 x3 y4.2 y5 hc hk hy5) (cwV 3 hts gX10_se_X10_code rfl rfl rfl (by decide +kernel) ⟨Nat.le_of_ble_eq_true rfl, Nat.le_of_ble_eq_true rfl⟩) ⟨fun a U g mk q => by obtain ⟨q0, q1, qP, qK, qD, qZ, qN⟩ := q; exact ⟨q0, q1, qP, va_K.moved (u := U) (U := U.calling g mk a) (Vm.Alike.refl U.vm) qK, qD, sF.moved (u := U) (U := U.calling g mk a) (Vm.Alike.refl U.vm) qZ, nF.same rfl qN⟩, va_recv hK hP (ci := 10) (q0 := a) rfl (wld_o ct ad (xt G []) y4.1 hc hk (by decide)), fun U hU hW => ⟨rfl, by rw [hU], by rw [hU]; exact hP, va_K.moved hW.alike hK, hD.weaken (fun _ _ _ _ => trivial), by rw [hU]; exact ((hZ.kept hS.2.1).narrow hf9).moved hW.alike, hN.warm hW⟩⟩ rfl rfl hl.1 rfl (lv_room (Nat.le_of_ble_eq_true rfl)) dX10_se_15 (room_s hT7 hbl)) hS (fun q _ h => hf9 q h) hf9 (fun ad8 t H locs ht hvm hw hB hz1 hk1 hS => ?_)
  have hn9 := hw
  obtain ⟨hP, hK9, hD9⟩ := hB
  rw [ht] at hP
  have hD := hD9.weaken (fun _ q _ h => hf9 q.1 h)
  rw [xt_xt, ← eL7] at hP hD
  refine W_cs (k := L7.length) (n := wt L7) (by rw [eL7]; exact (len_s [] y5.1).symm) (by rw [eL7]; exact (wt_app [] y5.1).symm) ?_
  have hT : y.1 = L7 ++ w6.1 := by rw [hT7, eL7]
  have h2 : y.2 = w6.2 := by rw [h2, ew6]
  have hl := lv_sub (l' := []) hl [] rfl
  have hk : (xt G L7).2.1 a = 10 := by rw [eL7]; exact xt_k _ hc hk
  have hc : a < (xt G L7).1 := by rw [eL7]; exact xt_l _ hc
  have hag := agr_t (xt_ge _ _) hag hn9
  obtain rfl := Option.some.inj hF
  have e1 : y.1 = L7 := by rw [hT]; exact List.append_nil _
  have e2 : y.2 = y5.2 := h2
  refine W.widen (k := y.1.length) (n := wt y.1) (Nat.le_of_eq (by rw [e1])) (Nat.le_of_eq (by rw [e1])) ?_
  exact W.vret hx hb hr (fun t ht hW => ⟨⟨ad8, rfl, hag, (by unfold kE; rw [e1, e2]; exact ⟨by rw [ht]; exact hP, va_K.moved hW.alike hK, hD⟩)⟩, hS.F ht⟩) hS.2.2 dX10_se_18
theorem ggX10_te_X10_bitsOfUe : GoodIn wsX10_te wsX10_bitsOfUe := goodIn_r _ [47] (by decide +kernel) (by decide +kernel)
set_option maxRecDepth 20000 in
theorem gX10_te_X10_bitsOfUe : GoodIn wsX10_te (va_wsS RX10 101 yX10_bitsOfUe wsX10_bitsOfUe) := goodIn_app (goodIn_of _ (by decide +kernel)) ggX10_te_X10_bitsOfUe
theorem ggX10_te_X10_code : GoodIn wsX10_te wsX10_code := goodIn_r _ [5, 6, 7, 8, 9, 10, 11, 12, 13, 14, 4, 15, 16, 17, 18, 19, 20, 21, 22, 23, 24, 25, 26, 27, 28, 29, 30, 31, 32, 33, 34, 35, 36, 37, 38, 39, 40, 41, 42, 43, 44, 48, 49, 50, 51, 52, 53, 54, 55, 56, 57, 58, 59, 60, 61, 62, 63, 64, 65, 66, 67] (by decide +kernel) (by decide +kernel)
set_option maxRecDepth 20000 in
theorem gX10_te_X10_code : GoodIn wsX10_te (wsV RX10 97 RX10 yX10_code wsX10_code) := goodIn_app (goodIn_of _ (by decide +kernel)) ggX10_te_X10_code
set_option maxRecDepth 20000 in
theorem dX10_te_0 : decode cX10_te 0 = .ok (.iload_n 2, 1) := by decide +kernel
theorem dX10_te_1 : decode cX10_te 1 = .ok (.iconst 1, 1) := by decide +kernel
theorem dX10_te_2 : decode cX10_te 2 = .ok (.if_icmp .ne 16, 3) := by decide +kernel
theorem dX10_te_5 : decode cX10_te 5 = .ok (.aload_n 0, 1) := by decide +kernel
theorem dX10_te_6 : decode cX10_te 6 = .ok (.iload_n 1, 1) := by decide +kernel
theorem dX10_te_7 : decode cX10_te 7 = .ok (.iconst 1, 1) := by decide +kernel
theorem dX10_te_8 : decode cX10_te 8 = .ok (.iload_n 3, 1) := by decide +kernel
theorem dX10_te_9 : decode cX10_te 9 = .ok (.isub, 1) := by decide +kernel
theorem dX10_te_10 : decode cX10_te 10 = .ok (.i2l, 1) := by decide +kernel
theorem dX10_te_11 : decode cX10_te 11 = .ok (.iconst 1, 1) := by decide +kernel
theorem dX10_te_12 : decode cX10_te 12 = .ok (.invokevirtual 97, 3) := by decide +kernel
theorem dX10_te_15 : decode cX10_te 15 = .ok (.goto 16, 3) := by decide +kernel
theorem dX10_te_18 : decode cX10_te 18 = .ok (.aload_n 0, 1) := by decide +kernel
theorem dX10_te_19 : decode cX10_te 19 = .ok (.iload_n 1, 1) := by decide +kernel
theorem dX10_te_20 : decode cX10_te 20 = .ok (.iload_n 3, 1) := by decide +kernel
theorem dX10_te_21 : decode cX10_te 21 = .ok (.i2l, 1) := by decide +kernel
theorem dX10_te_22 : decode cX10_te 22 = .ok (.lconst 1, 1) := by decide +kernel
theorem dX10_te_23 : decode cX10_te 23 = .ok (.ladd, 1) := by decide +kernel
theorem dX10_te_24 : decode cX10_te 24 = .ok (.iload_n 3, 1) := by decide +kernel
theorem dX10_te_25 : decode cX10_te 25 = .ok (.invokestatic 101, 3) := by decide +kernel
theorem dX10_te_28 : decode cX10_te 28 = .ok (.invokevirtual 97, 3) := by decide +kernel
theorem dX10_te_31 : decode cX10_te 31 = .ok (.return_, 1) := by decide +kernel
noncomputable def FX10_te (G : GG) (M : DD) (a : Nat) (p0 : Int32) (p1 : Int32) (p2 : Int32) : Option (NN × DD) :=
  bnd (if p1 = ((1 : Int32)) then (ltt ((((1 : Int32)) - p2)) fun x15 =>
  ltt (x15.toInt64) fun x16 =>
  bnd (FX10_code (xt G []) M a p0 x16 ((1 : Int32))) fun y17 =>
  app y17.1 <|
  ltt ([] ++ y17.1) fun L19 =>
  some ([], y17.2)) else
  (ltt (p2.toInt64) fun x7 =>
  ltt (x7 + ((1 : Int64))) fun x8 =>
  bnd (FX10_bitsOfUe (xt G []) M p2) fun y9 =>
  bnd (FX10_code (xt G []) y9.1 a p0 x8 y9.2) fun y10 =>
  app y10.1 <|
  ltt ([] ++ y10.1) fun L12 =>
  some ([], y10.2))) fun (y1 : NN × DD) =>
  app y1.1 <|
  ltt ([] ++ y1.1) fun L3 =>
  some ([], y1.2)
set_option maxHeartbeats 4000000 in
set_option maxRecDepth 100000 in
theorem kX10_te (l : Launch) (D : va_G) (ct : CT) (ad : Nat → Nat) (Z : Nat → Nat) (G : GG) (M : DD) (sz : Nat) (a : Nat) (p0 : Int32) (p1 : Int32) (p2 : Int32) (y : NN × DD) (hc : a < G.1) (hk : G.2.1 a = 10) (hF : FX10_te G M a p0 p1 p2 = some y) : Met l yX10_te wsX10_te ({ frames := 5, cells := y.1.length, slots := wt y.1, locals := 175 }) (va_Pc [.ref (ad a), .int p0, .int p1, .int p2] (kB D ct ad Z G M sz)) (va_Qv (fun (u : Nat → Nat) => agr G.1 ad u) (fun u t => kE D ct u (xt G y.1) (wA ad G sz) y.2 t) (wA ad G sz)) y.1.length (wt y.1) (wA ad G sz) := by
  refine Met.ofW (cc := cX10_te) (maxL := 4) (ret := none) (by decide) rfl ?_
  intro p e s m args below meth c s₁ B hml hv
  obtain ⟨rfl, hsz, hP, hK, hD0, hZ, hN⟩ := hv
  have hx := B.exec
  have hb := B.bytes
  have hr := B.returns
  have hts := atoms_spec (ws := wsX10_te) B.pre
  have hown : s.vm.findClass RX10 = some m.cls := findClass_of_methodNamed B.named
  have hlocks := B.notSynchronized
  subst hsz
  have hD := wD_self (sz := s.heap.size) hD0
  have hA9 : ∀ q, s.heap.size ≤ q → wA ad G s.heap.size q := fun q h => Or.inr h
  generalize hAe : wA ad G s.heap.size = A at hD hA9 hZ ⊢
  have hS : va_S A s.heap s.heap [] := va_S.rf
  have hl := lv_entry ([.ref (ad a), .int p0, .int p1, .int p2]) (n := 4) (Nat.le_of_ble_eq_true rfl)
  rw [lg_entry_eq]
  generalize (lg_sl ([.ref (ad a), .int p0, .int p1, .int p2]) ++ List.replicate (4 - (lg_sl ([.ref (ad a), .int p0, .int p1, .int p2])).length) Slot.unset).toArray = ls at hl ⊢
  have hl : lv_has ls 4 [(0, .ref (ad a)), (1, .int p0), (2, .int p1), (3, .int p2)] := hl
  unfold FX10_te at hF
  rw [← wld_0 ct ad G M] at hP hD
  have hk := xt_k0 hc hk
  have hc := xt_l0 hc
  have hag := agr_rf G.1 ad
  obtain ⟨w0, hw0⟩ : ∃ z, z = y := ⟨_, rfl⟩
  rw [← hw0] at hF
  have hT : y.1 = [] ++ w0.1 := by rw [hw0]; rfl
  have h2 : y.2 = w0.2 := by rw [hw0]
  have hbl : y.1.length ≤ y.1.length ∧ wt y.1 ≤ wt y.1 := ⟨Nat.le_refl _, Nat.le_refl _⟩
  refine lv_iload_n hx hb dX10_te_0 rfl (lv_at hl 2 rfl) ?_
  refine lv_iconst (v := (1 : Int32)) hx hb dX10_te_1 (by decide) ?_
  obtain ⟨y1, hy1, hF⟩ := bnd_some hF
  obtain ⟨w2, hF, ew2⟩ := app_some hF
  obtain ⟨L3, eL3, hF⟩ := ltt_some hF
  have hT3 : y.1 = ([] ++ y1.1) ++ w2.1 := by rw [hT, ew2]; simp only [List.append_assoc]
  have hbl3 : L3.length ≤ y.1.length ∧ wt L3 ≤ wt y.1 := by rw [eL3]; exact room_d hT3 hbl
  have J1 : ∀ (ad4 : Nat → Nat), agr G.1 ad ad4 → ∀ (H : Heap) (locs : List Loc) (ls : Array Slot), va_P D classes (wld ct ad4 (xt G L3) y1.2) H → va_D A (wld ct ad4 (xt G L3) y1.2) → va_S A s.heap H locs → lv_has ls 4 [] → W p l e (headSpec wsX10_te ({ frames := 5, cells := y.1.length, slots := wt y.1, locals := 175 })).room s m ([.ref (ad a), .int p0, .int p1, .int p2] : List Value).toArray below meth c H locs (L3 : NN).length (wt L3) (MQ below (va_Qv (fun (u : Nat → Nat) => agr G.1 ad u) (fun u t => kE D ct u (xt G y.1) A y.2 t) A) ([.ref (ad a), .int p0, .int p1, .int p2] : List Value).toArray s y.1.length (wt y.1) A) (F0 m 31 ls []) := by
    intro ad4 hag H locs ls hP hD hS hl
    have hT : y.1 = L3 ++ w2.1 := by rw [hT3, eL3]
    have h2 : y.2 = w2.2 := by rw [h2, ew2]
    have hk : (xt G L3).2.1 a = 10 := by rw [eL3]; exact xt_k _ hc hk
    have hc : a < (xt G L3).1 := by rw [eL3]; exact xt_l _ hc
    obtain rfl := Option.some.inj hF
    have e1 : y.1 = L3 := by rw [hT]; exact List.append_nil _
    have e2 : y.2 = y1.2 := h2
    refine W.widen (k := y.1.length) (n := wt y.1) (Nat.le_of_eq (by rw [e1])) (Nat.le_of_eq (by rw [e1])) ?_
    exact W.vret hx hb hr (fun t ht hW => ⟨⟨ad4, rfl, hag, (by unfold kE; rw [e1, e2]; exact ⟨by rw [ht]; exact hP, va_K.moved hW.alike hK, hD⟩)⟩, hS.F ht⟩) hS.2.2 dX10_te_31
  clear hF
  obtain ⟨w5, hw5⟩ : ∃ z, z = y1 := ⟨_, rfl⟩
  have hF := hy1
  rw [← hw5] at hF
  clear hy1
  have hT : L3 = [] ++ w5.1 := by rw [eL3, hw5]
  have h2 : y1.2 = w5.2 := by rw [hw5]
  have hbl := hbl3
  refine lv_icmp_ne (tgt := 18) hx hb dX10_te_2 (by decide) (fun c6 => ?_) (fun c6 => ?_)
  · rw [if_neg c6] at hF
    refine lv_aload_n hx hb dX10_te_18 rfl (lv_at hl 0 rfl) ?_
    refine lv_iload_n hx hb dX10_te_19 rfl (lv_at hl 1 rfl) ?_
    refine lv_iload_n hx hb dX10_te_20 rfl (lv_at hl 3 rfl) ?_
    refine lv_i2l (v := p2.toInt64) hx hb dX10_te_21 rfl ?_
    obtain ⟨x7, ex7, hF⟩ := ltt_some hF
    refine lv_topl (fun zx7 ezx7 => ?_)
    obtain rfl : x7 = zx7 := ex7.trans ezx7.symm
    refine lv_lconst (v := (1 : Int64)) hx hb dX10_te_22 rfl ?_
    refine lv_ladd hx hb dX10_te_23 ?_
    obtain ⟨x8, ex8, hF⟩ := ltt_some hF
    refine lv_topl (fun zx8 ezx8 => ?_)
    obtain rfl : x8 = zx8 := ex8.trans ezx8.symm
    refine lv_iload_n hx hb dX10_te_24 rfl (lv_at hl 3 rfl) ?_
    obtain ⟨y9, hy9, hF⟩ := bnd_some hF
    have hf9 := wA_in hD hA9 hS
    refine va_calli (va_runS (As := [.int p2]) (rest := [.long x8, .int p0, .ref (ad a)]) ⟨hx, hb, hml, hown, hts⟩ (kX10_bitsOfUe l D ct ad Z (xt G []) M s.heap.size p2 y9 hy9) (va_cwS 1 hts gX10_te_X10_bitsOfUe rfl rfl rfl (by decide +kernel) ⟨Nat.le_of_ble_eq_true rfl, Nat.le_of_ble_eq_true rfl⟩) ⟨fun a U g mk q => by obtain ⟨q0, q1, qP, qK, qD, qZ, qN⟩ := q; exact ⟨q0, q1, qP, va_K.moved (u := U) (U := U.calling g mk a) (Vm.Alike.refl U.vm) qK, qD, sF.moved (u := U) (U := U.calling g mk a) (Vm.Alike.refl U.vm) qZ, nF.same rfl qN⟩, fun U hU hW => ⟨rfl, by rw [hU], by rw [hU]; exact hP, va_K.moved hW.alike hK, hD.weaken (fun _ _ _ _ => trivial), by rw [hU]; exact ((hZ.kept hS.2.1).narrow hf9).moved hW.alike, hN.warm hW⟩⟩ rfl rfl hl.1 rfl (lv_room (Nat.le_of_ble_eq_true rfl)) dX10_te_25 (room_d hT hbl)) hS (fun q _ h => hf9 q h) hf9 (fun r u t H locs ht hvm hw hB hz1 hk1 hS => ?_)
    obtain ⟨hP, hK9, hD9⟩ := hB
    rw [ht] at hP
    try dsimp only at hw
    subst hw
    refine W_cs (k := ([] : NN).length) (n := wt []) rfl rfl ?_
    have hD := hD9.weaken (fun _ q _ h => hf9 q.1 h)
    obtain ⟨y10, hy10, hF⟩ := bnd_some hF
    obtain ⟨w11, hF, ew11⟩ := app_some hF
    obtain ⟨L12, eL12, hF⟩ := ltt_some hF
    have hT12 : L3 = ([] ++ y10.1) ++ w11.1 := by rw [hT, ew11]; simp only [List.append_assoc]
    have hf9 := wA_in hD hA9 hS
    refine va_callv (va_runV (As := [.int p0, .long x8, .int y9.2]) (rest := []) ⟨hx, hb, hml, hown, hts⟩ (kX10_code l D ct ad Z (xt G []) y9.1 _ a p0 x8 y9.2 y10 hc hk hy10) (cwV 3 hts gX10_te_X10_code rfl rfl rfl (by decide +kernel) ⟨Nat.le_of_ble_eq_true rfl, Nat.le_of_ble_eq_true rfl⟩) ⟨fun a U g mk q => by obtain ⟨q0, q1, qP, qK, qD, qZ, qN⟩ := q; exact ⟨q0, q1, qP, va_K.moved (u := U) (U := U.calling g mk a) (Vm.Alike.refl U.vm) qK, qD, sF.moved (u := U) (U := U.calling g mk a) (Vm.Alike.refl U.vm) qZ, nF.same rfl qN⟩, va_recv hK hP (ci := 10) (q0 := a) rfl (wld_o ct ad (xt G []) y9.1 hc hk (by decide)), fun U hU hW => ⟨rfl, by rw [hU], by rw [hU]; exact hP, va_K.moved hW.alike hK, hD.weaken (fun _ _ _ _ => trivial), by rw [hU]; exact ((hZ.kept hS.2.1).narrow hf9).moved hW.alike, hN.warm hW⟩⟩ rfl rfl hl.1 rfl (lv_room (Nat.le_of_ble_eq_true rfl)) dX10_te_28 (room_s hT12 hbl)) hS (fun q _ h => hf9 q h) hf9 (fun ad13 t H locs ht hvm hw hB hz1 hk1 hS => ?_)
    have hn14 := hw
    obtain ⟨hP, hK9, hD9⟩ := hB
    rw [ht] at hP
    have hD := hD9.weaken (fun _ q _ h => hf9 q.1 h)
    rw [xt_xt, ← eL12] at hP hD
    refine W_cs (k := L12.length) (n := wt L12) (by rw [eL12]; exact (len_s [] y10.1).symm) (by rw [eL12]; exact (wt_app [] y10.1).symm) ?_
    have hT : L3 = L12 ++ w11.1 := by rw [hT12, eL12]
    have h2 : y1.2 = w11.2 := by rw [h2, ew11]
    have hl := lv_sub (l' := []) hl [] rfl
    have hk : (xt G L12).2.1 a = 10 := by rw [eL12]; exact xt_k _ hc hk
    have hc : a < (xt G L12).1 := by rw [eL12]; exact xt_l _ hc
    have hag := agr_t (xt_ge _ _) hag hn14
    obtain rfl := Option.some.inj hF
    have e1 : L3 = L12 := by rw [hT]; exact List.append_nil _
    have e2 : y1.2 = y10.2 := h2
    rw [e1] at J1
    try rw [e2] at J1
    exact J1 _ hag _ _ _ hP hD hS (lv_sub hl [] rfl)
  · rw [if_pos c6] at hF
    refine lv_aload_n hx hb dX10_te_5 rfl (lv_at hl 0 rfl) ?_
    refine lv_iload_n hx hb dX10_te_6 rfl (lv_at hl 1 rfl) ?_
    refine lv_iconst (v := (1 : Int32)) hx hb dX10_te_7 (by decide) ?_
    refine lv_iload_n hx hb dX10_te_8 rfl (lv_at hl 3 rfl) ?_
    refine lv_isub hx hb dX10_te_9 ?_
    obtain ⟨x15, ex15, hF⟩ := ltt_some hF
    refine lv_topi (fun zx15 ezx15 => ?_)
    obtain rfl : x15 = zx15 := ex15.trans ezx15.symm
    refine lv_i2l (v := x15.toInt64) hx hb dX10_te_10 rfl ?_
    obtain ⟨x16, ex16, hF⟩ := ltt_some hF
    refine lv_topl (fun zx16 ezx16 => ?_)
    obtain rfl : x16 = zx16 := ex16.trans ezx16.symm
    refine lv_iconst (v := (1 : Int32)) hx hb dX10_te_11 (by decide) ?_
    obtain ⟨y17, hy17, hF⟩ := bnd_some hF
    obtain ⟨w18, hF, ew18⟩ := app_some hF
    obtain ⟨L19, eL19, hF⟩ := ltt_some hF
    have hT19 : L3 = ([] ++ y17.1) ++ w18.1 := by rw [hT, ew18]; simp only [List.append_assoc]
    have hf9 := wA_in hD hA9 hS
    refine va_callv (va_runV (As := [.int p0, .long x16, .int (1 : Int32)]) (rest := []) ⟨hx, hb, hml, hown, hts⟩ (kX10_code l D ct ad Z (xt G []) M _ a p0 x16 ((1 : Int32)) y17 hc hk hy17) (cwV 3 hts gX10_te_X10_code rfl rfl rfl (by decide +kernel) ⟨Nat.le_of_ble_eq_true rfl, Nat.le_of_ble_eq_true rfl⟩) ⟨fun a U g mk q => by obtain ⟨q0, q1, qP, qK, qD, qZ, qN⟩ := q; exact ⟨q0, q1, qP, va_K.moved (u := U) (U := U.calling g mk a) (Vm.Alike.refl U.vm) qK, qD, sF.moved (u := U) (U := U.calling g mk a) (Vm.Alike.refl U.vm) qZ, nF.same rfl qN⟩, va_recv hK hP (ci := 10) (q0 := a) rfl (wld_o ct ad (xt G []) M hc hk (by decide)), fun U hU hW => ⟨rfl, by rw [hU], by rw [hU]; exact hP, va_K.moved hW.alike hK, hD.weaken (fun _ _ _ _ => trivial), by rw [hU]; exact ((hZ.kept hS.2.1).narrow hf9).moved hW.alike, hN.warm hW⟩⟩ rfl rfl hl.1 rfl (lv_room (Nat.le_of_ble_eq_true rfl)) dX10_te_12 (room_s hT19 hbl)) hS (fun q _ h => hf9 q h) hf9 (fun ad20 t H locs ht hvm hw hB hz1 hk1 hS => ?_)
    have hn21 := hw
    obtain ⟨hP, hK9, hD9⟩ := hB
    rw [ht] at hP
    have hD := hD9.weaken (fun _ q _ h => hf9 q.1 h)
    rw [xt_xt, ← eL19] at hP hD
    refine W_cs (k := L19.length) (n := wt L19) (by rw [eL19]; exact (len_s [] y17.1).symm) (by rw [eL19]; exact (wt_app [] y17.1).symm) ?_
    have hT : L3 = L19 ++ w18.1 := by rw [hT19, eL19]
    have h2 : y1.2 = w18.2 := by rw [h2, ew18]
    have hl := lv_sub (l' := []) hl [] rfl
    have hk : (xt G L19).2.1 a = 10 := by rw [eL19]; exact xt_k _ hc hk
    have hc : a < (xt G L19).1 := by rw [eL19]; exact xt_l _ hc
    have hag := agr_t (xt_ge _ _) hag hn21
    refine lv_goto (tgt := 31) hx hb dX10_te_15 (by decide) ?_
    obtain rfl := Option.some.inj hF
    have e1 : L3 = L19 := by rw [hT]; exact List.append_nil _
    have e2 : y1.2 = y17.2 := h2
    rw [e1] at J1
    try rw [e2] at J1
    exact J1 _ hag _ _ _ hP hD hS (lv_sub hl [] rfl)
theorem ggX10_ue_X10_bitsOfUe : GoodIn wsX10_ue wsX10_bitsOfUe := goodIn_r _ [4] (by decide +kernel) (by decide +kernel)
set_option maxRecDepth 20000 in
theorem gX10_ue_X10_bitsOfUe : GoodIn wsX10_ue (va_wsS RX10 101 yX10_bitsOfUe wsX10_bitsOfUe) := goodIn_app (goodIn_of _ (by decide +kernel)) ggX10_ue_X10_bitsOfUe
set_option maxRecDepth 20000 in
theorem ggX10_ue_X10_code : GoodIn wsX10_ue wsX10_code := goodIn_r _ [8, 9, 10, 11, 12, 13, 14, 15, 16, 17, 3, 18, 19, 20, 21, 22, 23, 24, 25, 26, 27, 28, 29, 30, 31, 32, 33, 34, 35, 36, 37, 38, 39, 40, 41, 42, 43, 44, 45, 46, 47, 48, 49, 50, 51, 52, 53, 54, 55, 56, 57, 58, 59, 60, 61, 62, 63, 64, 65, 66, 67] (by decide +kernel) (by decide +kernel)
set_option maxRecDepth 20000 in
theorem gX10_ue_X10_code : GoodIn wsX10_ue (wsV RX10 97 RX10 yX10_code wsX10_code) := goodIn_app (goodIn_of _ (by decide +kernel)) ggX10_ue_X10_code
theorem dX10_ue_0 : decode cX10_ue 0 = .ok (.aload_n 0, 1) := by decide +kernel
theorem dX10_ue_1 : decode cX10_ue 1 = .ok (.iload_n 1, 1) := by decide +kernel
theorem dX10_ue_2 : decode cX10_ue 2 = .ok (.iload_n 2, 1) := by decide +kernel
theorem dX10_ue_3 : decode cX10_ue 3 = .ok (.i2l, 1) := by decide +kernel
theorem dX10_ue_4 : decode cX10_ue 4 = .ok (.lconst 1, 1) := by decide +kernel
theorem dX10_ue_5 : decode cX10_ue 5 = .ok (.ladd, 1) := by decide +kernel
theorem dX10_ue_6 : decode cX10_ue 6 = .ok (.iload_n 2, 1) := by decide +kernel
theorem dX10_ue_7 : decode cX10_ue 7 = .ok (.invokestatic 101, 3) := by decide +kernel
theorem dX10_ue_10 : decode cX10_ue 10 = .ok (.invokevirtual 97, 3) := by decide +kernel
theorem dX10_ue_13 : decode cX10_ue 13 = .ok (.return_, 1) := by decide +kernel
noncomputable def FX10_ue (G : GG) (M : DD) (a : Nat) (p0 : Int32) (p1 : Int32) : Option (NN × DD) :=
  ltt (p1.toInt64) fun x1 =>
  ltt (x1 + ((1 : Int64))) fun x2 =>
  bnd (FX10_bitsOfUe (xt G []) M p1) fun y3 =>
  bnd (FX10_code (xt G []) y3.1 a p0 x2 y3.2) fun y4 =>
  app y4.1 <|
  ltt ([] ++ y4.1) fun L6 =>
  some ([], y4.2)
set_option maxHeartbeats 4000000 in
set_option maxRecDepth 100000 in
theorem kX10_ue (l : Launch) (D : va_G) (ct : CT) (ad : Nat → Nat) (Z : Nat → Nat) (G : GG) (M : DD) (sz : Nat) (a : Nat) (p0 : Int32) (p1 : Int32) (y : NN × DD) (hc : a < G.1) (hk : G.2.1 a = 10) (hF : FX10_ue G M a p0 p1 = some y) : Met l yX10_ue wsX10_ue ({ frames := 5, cells := y.1.length, slots := wt y.1, locals := 175 }) (va_Pc [.ref (ad a), .int p0, .int p1] (kB D ct ad Z G M sz)) (va_Qv (fun (u : Nat → Nat) => agr G.1 ad u) (fun u t => kE D ct u (xt G y.1) (wA ad G sz) y.2 t) (wA ad G sz)) y.1.length (wt y.1) (wA ad G sz) := by
  refine Met.ofW (cc := cX10_ue) (maxL := 3) (ret := none) (by decide) rfl ?_
  intro p e s m args below meth c s₁ B hml hv
  obtain ⟨rfl, hsz, hP, hK, hD0, hZ, hN⟩ := hv
  have hx := B.exec
  have hb := B.bytes
  have hr := B.returns
  have hts := atoms_spec (ws := wsX10_ue) B.pre
  have hown : s.vm.findClass RX10 = some m.cls := findClass_of_methodNamed B.named
  have hlocks := B.notSynchronized
  subst hsz
  have hD := wD_self (sz := s.heap.size) hD0
  have hA9 : ∀ q, s.heap.size ≤ q → wA ad G s.heap.size q := fun q h => Or.inr h
  generalize hAe : wA ad G s.heap.size = A at hD hA9 hZ ⊢
  have hS : va_S A s.heap s.heap [] := va_S.rf
  have hl := lv_entry ([.ref (ad a), .int p0, .int p1]) (n := 3) (Nat.le_of_ble_eq_true rfl)
  rw [lg_entry_eq]
  generalize (lg_sl ([.ref (ad a), .int p0, .int p1]) ++ List.replicate (3 - (lg_sl ([.ref (ad a), .int p0, .int p1])).length) Slot.unset).toArray = ls at hl ⊢
  have hl : lv_has ls 3 [(0, .ref (ad a)), (1, .int p0), (2, .int p1)] := hl
  unfold FX10_ue at hF
  rw [← wld_0 ct ad G M] at hP hD
  have hk := xt_k0 hc hk
  have hc := xt_l0 hc
  have hag := agr_rf G.1 ad
  obtain ⟨w0, hw0⟩ : ∃ z, z = y := ⟨_, rfl⟩
  rw [← hw0] at hF
  have hT : y.1 = [] ++ w0.1 := by rw [hw0]; rfl
  have h2 : y.2 = w0.2 := by rw [hw0]
  have hbl : y.1.length ≤ y.1.length ∧ wt y.1 ≤ wt y.1 := ⟨Nat.le_refl _, Nat.le_refl _⟩
  refine lv_aload_n hx hb dX10_ue_0 rfl (lv_at hl 0 rfl) ?_
  refine lv_iload_n hx hb dX10_ue_1 rfl (lv_at hl 1 rfl) ?_
  refine lv_iload_n hx hb dX10_ue_2 rfl (lv_at hl 2 rfl) ?_
  refine lv_i2l (v := p1.toInt64) hx hb dX10_ue_3 rfl ?_
  obtain ⟨x1, ex1, hF⟩ := ltt_some hF
  refine lv_topl (fun zx1 ezx1 => ?_)
  obtain rfl : x1 = zx1 := ex1.trans ezx1.symm
  refine lv_lconst (v := (1 : Int64)) hx hb dX10_ue_4 rfl ?_
  refine lv_ladd hx hb dX10_ue_5 ?_
  obtain ⟨x2, ex2, hF⟩ := ltt_some hF
  refine lv_topl (fun zx2 ezx2 => ?_)
  obtain rfl : x2 = zx2 := ex2.trans ezx2.symm
  refine lv_iload_n hx hb dX10_ue_6 rfl (lv_at hl 2 rfl) ?_
  obtain ⟨y3, hy3, hF⟩ := bnd_some hF
  have hf9 := wA_in hD hA9 hS
  refine va_calli (va_runS (As := [.int p1]) (rest := [.long x2, .int p0, .ref (ad a)]) ⟨hx, hb, hml, hown, hts⟩ (kX10_bitsOfUe l D ct ad Z (xt G []) M s.heap.size p1 y3 hy3) (va_cwS 1 hts gX10_ue_X10_bitsOfUe rfl rfl rfl (by decide +kernel) ⟨Nat.le_of_ble_eq_true rfl, Nat.le_of_ble_eq_true rfl⟩) ⟨fun a U g mk q => by obtain ⟨q0, q1, qP, qK, qD, qZ, qN⟩ := q; exact ⟨q0, q1, qP, va_K.moved (u := U) (U := U.calling g mk a) (Vm.Alike.refl U.vm) qK, qD, sF.moved (u := U) (U := U.calling g mk a) (Vm.Alike.refl U.vm) qZ, nF.same rfl qN⟩, fun U hU hW => ⟨rfl, by rw [hU], by rw [hU]; exact hP, va_K.moved hW.alike hK, hD.weaken (fun _ _ _ _ => trivial), by rw [hU]; exact ((hZ.kept hS.2.1).narrow hf9).moved hW.alike, hN.warm hW⟩⟩ rfl rfl hl.1 rfl (lv_room (Nat.le_of_ble_eq_true rfl)) dX10_ue_7 (room_d hT hbl)) hS (fun q _ h => hf9 q h) hf9 (fun r u t H locs ht hvm hw hB hz1 hk1 hS => ?_)
  obtain ⟨hP, hK9, hD9⟩ := hB
  rw [ht] at hP
  try dsimp only at hw
  subst hw
  refine W_cs (k := ([] : NN).length) (n := wt []) rfl rfl ?_
  have hD := hD9.weaken (fun _ q _ h => hf9 q.1 h)
  obtain ⟨y4, hy4, hF⟩ := bnd_some hF
  obtain ⟨w5, hF, ew5⟩ := app_some hF
  obtain ⟨L6, eL6, hF⟩ := ltt_some hF
  have hT6 : y.1 = ([] ++ y4.1) ++ w5.1 := by rw [hT, ew5]; simp only [List.append_assoc]
  have hf9 := wA_in hD hA9 hS
  refine va_callv (va_runV (As := [.int p0, .long x2, .int y3.2]) (rest := []) ⟨hx, hb, hml, hown, hts⟩ (kX10_code l D ct ad Z (xt G []) y3.1 _ a p0 x2 y3.2 y4 hc hk hy4) (cwV 3 hts gX10_ue_X10_code rfl rfl rfl (by decide +kernel) ⟨Nat.le_of_ble_eq_true rfl, Nat.le_of_ble_eq_true rfl⟩) ⟨fun a U g mk q => by obtain ⟨q0, q1, qP, qK, qD, qZ, qN⟩ := q; exact ⟨q0, q1, qP, va_K.moved (u := U) (U := U.calling g mk a) (Vm.Alike.refl U.vm) qK, qD, sF.moved (u := U) (U := U.calling g mk a) (Vm.Alike.refl U.vm) qZ, nF.same rfl qN⟩, va_recv hK hP (ci := 10) (q0 := a) rfl (wld_o ct ad (xt G []) y3.1 hc hk (by decide)), fun U hU hW => ⟨rfl, by rw [hU], by rw [hU]; exact hP, va_K.moved hW.alike hK, hD.weaken (fun _ _ _ _ => trivial), by rw [hU]; exact ((hZ.kept hS.2.1).narrow hf9).moved hW.alike, hN.warm hW⟩⟩ rfl rfl hl.1 rfl (lv_room (Nat.le_of_ble_eq_true rfl)) dX10_ue_10 (room_s hT6 hbl)) hS (fun q _ h => hf9 q h) hf9 (fun ad7 t H locs ht hvm hw hB hz1 hk1 hS => ?_)
  have hn8 := hw
  obtain ⟨hP, hK9, hD9⟩ := hB
  rw [ht] at hP
  have hD := hD9.weaken (fun _ q _ h => hf9 q.1 h)
  rw [xt_xt, ← eL6] at hP hD
  refine W_cs (k := L6.length) (n := wt L6) (by rw [eL6]; exact (len_s [] y4.1).symm) (by rw [eL6]; exact (wt_app [] y4.1).symm) ?_
  have hT : y.1 = L6 ++ w5.1 := by rw [hT6, eL6]
  have h2 : y.2 = w5.2 := by rw [h2, ew5]
  have hl := lv_sub (l' := []) hl [] rfl
  have hk : (xt G L6).2.1 a = 10 := by rw [eL6]; exact xt_k _ hc hk
  have hc : a < (xt G L6).1 := by rw [eL6]; exact xt_l _ hc
  have hag := agr_t (xt_ge _ _) hag hn8
  obtain rfl := Option.some.inj hF
  have e1 : y.1 = L6 := by rw [hT]; exact List.append_nil _
  have e2 : y.2 = y4.2 := h2
  refine W.widen (k := y.1.length) (n := wt y.1) (Nat.le_of_eq (by rw [e1])) (Nat.le_of_eq (by rw [e1])) ?_
  exact W.vret hx hb hr (fun t ht hW => ⟨⟨ad7, rfl, hag, (by unfold kE; rw [e1, e2]; exact ⟨by rw [ht]; exact hP, va_K.moved hW.alike hK, hD⟩)⟩, hS.F ht⟩) hS.2.2 dX10_ue_13
theorem ggX11_paint_X0_isOpen : GoodIn wsX11_paint wsX0_isOpen := goodIn_r _ [10, 11, 68, 69, 70, 71, 72, 73, 74, 75, 76, 77, 78, 79, 80, 81, 82, 83, 84, 85, 86, 87, 88] (by decide +kernel) (by decide +kernel)
set_option maxRecDepth 20000 in
theorem gX11_paint_X0_isOpen : GoodIn wsX11_paint (wsV RX11 324 RX0 yX0_isOpen wsX0_isOpen) := goodIn_app (goodIn_of _ (by decide +kernel)) ggX11_paint_X0_isOpen
set_option maxRecDepth 20000 in
theorem ggX11_paint_X0_inputSum : GoodIn wsX11_paint wsX0_inputSum := goodIn_r _ [60, 16, 25, 26, 27, 9, 28, 11, 29, 30, 31, 32, 61, 40, 62, 68, 69, 70, 71, 72, 73, 74, 75, 76, 77, 78, 79, 80, 81, 82, 83, 84, 85, 86, 87, 88] (by decide +kernel) (by decide +kernel)
set_option maxRecDepth 20000 in
theorem gX11_paint_X0_inputSum : GoodIn wsX11_paint (wsV RX11 347 RX0 yX0_inputSum wsX0_inputSum) := goodIn_app (goodIn_of _ (by decide +kernel)) ggX11_paint_X0_inputSum
theorem ggX11_paint_X0_paintFlat : GoodIn wsX11_paint wsX0_paintFlat := goodIn_r _ [15, 16, 17, 18, 19, 20, 68, 69, 70, 71, 72, 73, 74, 75, 76, 77, 78, 79, 80, 81, 82, 83, 84, 85, 86, 87, 88] (by decide +kernel) (by decide +kernel)
set_option maxRecDepth 20000 in
theorem gX11_paint_X0_paintFlat : GoodIn wsX11_paint (wsV RX11 330 RX0 yX0_paintFlat wsX0_paintFlat) := goodIn_app (goodIn_of _ (by decide +kernel)) ggX11_paint_X0_paintFlat
set_option maxRecDepth 20000 in
theorem ggX11_paint_X0_paintSlope : GoodIn wsX11_paint wsX0_paintSlope := goodIn_r _ [24, 16, 25, 26, 27, 9, 28, 11, 29, 30, 31, 32, 68, 69, 70, 71, 72, 73, 74, 75, 76, 77, 78, 79, 80, 81, 82, 83, 84, 85, 86, 87, 88] (by decide +kernel) (by decide +kernel)
set_option maxRecDepth 20000 in
theorem gX11_paint_X0_paintSlope : GoodIn wsX11_paint (wsV RX11 334 RX0 yX0_paintSlope wsX0_paintSlope) := goodIn_app (goodIn_of _ (by decide +kernel)) ggX11_paint_X0_paintSlope
set_option maxRecDepth 20000 in
theorem ggX11_paint_X0_paintNoise : GoodIn wsX11_paint wsX0_paintNoise := goodIn_r _ [36, 16, 37, 38, 25, 26, 27, 9, 28, 11, 29, 30, 31, 32, 39, 40, 41, 68, 69, 70, 71, 72, 73, 74, 75, 76, 77, 78, 79, 80, 81, 82, 83, 84, 85, 86, 87, 88] (by decide +kernel) (by decide +kernel)
set_option maxRecDepth 20000 in
theorem gX11_paint_X0_paintNoise : GoodIn wsX11_paint (wsV RX11 337 RX0 yX0_paintNoise wsX0_paintNoise) := goodIn_app (goodIn_of _ (by decide +kernel)) ggX11_paint_X0_paintNoise
set_option maxRecDepth 20000 in
theorem ggX11_paint_X0_paintMoved : GoodIn wsX11_paint wsX0_paintMoved := goodIn_r _ [45, 16, 46, 47, 48, 49, 25, 26, 27, 9, 28, 11, 29, 30, 31, 32, 50, 51, 52, 68, 69, 70, 71, 72, 73, 74, 75, 76, 77, 78, 79, 80, 81, 82, 83, 84, 85, 86, 87, 88] (by decide +kernel) (by decide +kernel)
set_option maxRecDepth 20000 in
theorem gX11_paint_X0_paintMoved : GoodIn wsX11_paint (wsV RX11 340 RX0 yX0_paintMoved wsX0_paintMoved) := goodIn_app (goodIn_of _ (by decide +kernel)) ggX11_paint_X0_paintMoved
set_option maxRecDepth 20000 in
theorem ggX11_paint_X0_paintSquare : GoodIn wsX11_paint wsX0_paintSquare := goodIn_r _ [56, 16, 29, 30, 31, 9, 32, 11, 25, 26, 27, 28, 68, 69, 70, 71, 72, 73, 74, 75, 76, 77, 78, 79, 80, 81, 82, 83, 84, 85, 86, 87, 88] (by decide +kernel) (by decide +kernel)
set_option maxRecDepth 20000 in
theorem gX11_paint_X0_paintSquare : GoodIn wsX11_paint (wsV RX11 344 RX0 yX0_paintSquare wsX0_paintSquare) := goodIn_app (goodIn_of _ (by decide +kernel)) ggX11_paint_X0_paintSquare
set_option maxRecDepth 20000 in
theorem dX11_paint_0 : decode cX11_paint 0 = .ok (.iload_n 1, 1) := by decide +kernel
theorem dX11_paint_1 : decode cX11_paint 1 = .ok (.ifCond .lt 8, 3) := by decide +kernel
theorem dX11_paint_4 : decode cX11_paint 4 = .ok (.iload_n 1, 1) := by decide +kernel
theorem dX11_paint_5 : decode cX11_paint 5 = .ok (.iconst 4, 1) := by decide +kernel
theorem dX11_paint_6 : decode cX11_paint 6 = .ok (.if_icmp .le 14, 3) := by decide +kernel
theorem dX11_paint_9 : decode cX11_paint 9 = .ok (.new 51, 3) := by decide +kernel
theorem dX11_paint_12 : decode cX11_paint 12 = .ok (.dup, 1) := by decide +kernel
theorem dX11_paint_13 : decode cX11_paint 13 = .ok (.ldc_w 322, 3) := by decide +kernel
theorem dX11_paint_16 : decode cX11_paint 16 = .ok (.invokespecial 55, 3) := by decide +kernel
theorem dX11_paint_19 : decode cX11_paint 19 = .ok (.athrow, 1) := by decide +kernel
theorem dX11_paint_20 : decode cX11_paint 20 = .ok (.aload_n 0, 1) := by decide +kernel
theorem dX11_paint_21 : decode cX11_paint 21 = .ok (.getfield 31, 3) := by decide +kernel
theorem dX11_paint_24 : decode cX11_paint 24 = .ok (.invokevirtual 324, 3) := by decide +kernel
theorem dX11_paint_27 : decode cX11_paint 27 = .ok (.ifCond .ne 14, 3) := by decide +kernel
theorem dX11_paint_30 : decode cX11_paint 30 = .ok (.new 40, 3) := by decide +kernel
theorem dX11_paint_33 : decode cX11_paint 33 = .ok (.dup, 1) := by decide +kernel
theorem dX11_paint_34 : decode cX11_paint 34 = .ok (.ldc_w 328, 3) := by decide +kernel
theorem dX11_paint_37 : decode cX11_paint 37 = .ok (.invokespecial 44, 3) := by decide +kernel
theorem dX11_paint_40 : decode cX11_paint 40 = .ok (.athrow, 1) := by decide +kernel
theorem dX11_paint_41 : decode cX11_paint 41 = .ok (.iload_n 1, 1) := by decide +kernel
theorem dX11_paint_42 : decode cX11_paint 42 = .ok (.tableswitch 84 0 3 #[30, 44, 58, 72], 30) := by decide +kernel
theorem dX11_paint_72 : decode cX11_paint 72 = .ok (.aload_n 0, 1) := by decide +kernel
theorem dX11_paint_73 : decode cX11_paint 73 = .ok (.getfield 31, 3) := by decide +kernel
theorem dX11_paint_76 : decode cX11_paint 76 = .ok (.iload_n 2, 1) := by decide +kernel
theorem dX11_paint_77 : decode cX11_paint 77 = .ok (.iload_n 3, 1) := by decide +kernel
theorem dX11_paint_78 : decode cX11_paint 78 = .ok (.iload 4, 2) := by decide +kernel
theorem dX11_paint_80 : decode cX11_paint 80 = .ok (.invokevirtual 330, 3) := by decide +kernel
theorem dX11_paint_83 : decode cX11_paint 83 = .ok (.goto 64, 3) := by decide +kernel
theorem dX11_paint_86 : decode cX11_paint 86 = .ok (.aload_n 0, 1) := by decide +kernel
theorem dX11_paint_87 : decode cX11_paint 87 = .ok (.getfield 31, 3) := by decide +kernel
theorem dX11_paint_90 : decode cX11_paint 90 = .ok (.iload_n 2, 1) := by decide +kernel
theorem dX11_paint_91 : decode cX11_paint 91 = .ok (.iload_n 3, 1) := by decide +kernel
theorem dX11_paint_92 : decode cX11_paint 92 = .ok (.iload 4, 2) := by decide +kernel
theorem dX11_paint_94 : decode cX11_paint 94 = .ok (.invokevirtual 334, 3) := by decide +kernel
theorem dX11_paint_97 : decode cX11_paint 97 = .ok (.goto 50, 3) := by decide +kernel
theorem dX11_paint_100 : decode cX11_paint 100 = .ok (.aload_n 0, 1) := by decide +kernel
theorem dX11_paint_101 : decode cX11_paint 101 = .ok (.getfield 31, 3) := by decide +kernel
theorem dX11_paint_104 : decode cX11_paint 104 = .ok (.iload_n 2, 1) := by decide +kernel
theorem dX11_paint_105 : decode cX11_paint 105 = .ok (.iload_n 3, 1) := by decide +kernel
theorem dX11_paint_106 : decode cX11_paint 106 = .ok (.iload 4, 2) := by decide +kernel
theorem dX11_paint_108 : decode cX11_paint 108 = .ok (.invokevirtual 337, 3) := by decide +kernel
theorem dX11_paint_111 : decode cX11_paint 111 = .ok (.goto 36, 3) := by decide +kernel
theorem dX11_paint_114 : decode cX11_paint 114 = .ok (.aload_n 0, 1) := by decide +kernel
theorem dX11_paint_115 : decode cX11_paint 115 = .ok (.getfield 31, 3) := by decide +kernel
theorem dX11_paint_118 : decode cX11_paint 118 = .ok (.iload_n 2, 1) := by decide +kernel
theorem dX11_paint_119 : decode cX11_paint 119 = .ok (.iload_n 3, 1) := by decide +kernel
theorem dX11_paint_120 : decode cX11_paint 120 = .ok (.invokevirtual 340, 3) := by decide +kernel
theorem dX11_paint_123 : decode cX11_paint 123 = .ok (.goto 24, 3) := by decide +kernel
theorem dX11_paint_126 : decode cX11_paint 126 = .ok (.aload_n 0, 1) := by decide +kernel
theorem dX11_paint_127 : decode cX11_paint 127 = .ok (.getfield 31, 3) := by decide +kernel
theorem dX11_paint_130 : decode cX11_paint 130 = .ok (.iload_n 2, 1) := by decide +kernel
theorem dX11_paint_131 : decode cX11_paint 131 = .ok (.bipush 127, 2) := by decide +kernel
theorem dX11_paint_133 : decode cX11_paint 133 = .ok (.iand, 1) := by decide +kernel
theorem dX11_paint_134 : decode cX11_paint 134 = .ok (.iload_n 3, 1) := by decide +kernel
theorem dX11_paint_135 : decode cX11_paint 135 = .ok (.bipush 127, 2) := by decide +kernel
theorem dX11_paint_137 : decode cX11_paint 137 = .ok (.iand, 1) := by decide +kernel
theorem dX11_paint_138 : decode cX11_paint 138 = .ok (.iload 4, 2) := by decide +kernel
theorem dX11_paint_140 : decode cX11_paint 140 = .ok (.sipush 255, 3) := by decide +kernel
theorem dX11_paint_143 : decode cX11_paint 143 = .ok (.iand, 1) := by decide +kernel
theorem dX11_paint_144 : decode cX11_paint 144 = .ok (.invokevirtual 344, 3) := by decide +kernel
theorem dX11_paint_147 : decode cX11_paint 147 = .ok (.aload_n 0, 1) := by decide +kernel
theorem dX11_paint_148 : decode cX11_paint 148 = .ok (.getfield 31, 3) := by decide +kernel
theorem dX11_paint_151 : decode cX11_paint 151 = .ok (.invokevirtual 347, 3) := by decide +kernel
theorem dX11_paint_154 : decode cX11_paint 154 = .ok (.ireturn, 1) := by decide +kernel
def FX11_paint (G : GG) (M : DD) (a : Nat) (p0 : Int32) (p1 : Int32) (p2 : Int32) (p3 : Int32) : Option (DD × Int32) :=
  bnd (if p0 < ((0 : Int32)) then (none) else
  (some ())) fun (y1 : Unit) =>
  bnd (if p0 ≤ ((4 : Int32)) then (some ()) else
  (none)) fun (y2 : Unit) =>
  dr G 0 ((M.2 a 4)) fun b3 =>
  bnd (FX0_isOpen G M b3) fun y4 =>
  bnd (if y4.2 = ((0 : Int32)) then (none) else
  (some ())) fun (y5 : Unit) =>
  bnd (if p0 = (0 : Int32) then (dr G 0 ((y4.1.2 a 4)) fun b10 =>
  bnd (FX0_paintFlat G y4.1 b10 p1 p2 p3) fun y11 =>
  some (y11)) else
  (if p0 = (1 : Int32) then (dr G 0 ((y4.1.2 a 4)) fun b13 =>
  bnd (FX0_paintSlope G y4.1 b13 p1 p2 p3) fun y14 =>
  some (y14)) else
  (if p0 = (2 : Int32) then (dr G 0 ((y4.1.2 a 4)) fun b16 =>
  bnd (FX0_paintNoise G y4.1 b16 p1 p2 p3) fun y17 =>
  some (y17)) else
  (if p0 = (3 : Int32) then (dr G 0 ((y4.1.2 a 4)) fun b19 =>
  bnd (FX0_paintMoved G y4.1 b19 p1 p2) fun y20 =>
  some (y20)) else
  (chk (p0.toInt < 0 ∨ 3 < p0.toInt) <|
  ltt ((p1 &&& ((127 : Int32)))) fun x21 =>
  ltt ((p2 &&& ((127 : Int32)))) fun x22 =>
  ltt ((p3 &&& ((255 : Int32)))) fun x23 =>
  dr G 0 ((y4.1.2 a 4)) fun b24 =>
  bnd (FX0_paintSquare G y4.1 b24 x21 x22 x23) fun y25 =>
  some (y25)))))) fun (y6 : DD) =>
  dr G 0 ((y6.2 a 4)) fun b7 =>
  bnd (FX0_inputSum G y6 b7) fun y8 =>
  some (y8.1, y8.2)
set_option maxHeartbeats 4000000 in
set_option maxRecDepth 100000 in
theorem kX11_paint (l : Launch) (D : va_G) (ct : CT) (ad : Nat → Nat) (Z : Nat → Nat) (G : GG) (M : DD) (sz : Nat) (a : Nat) (p0 : Int32) (p1 : Int32) (p2 : Int32) (p3 : Int32) (y : DD × Int32) (hc : a < G.1) (hk : G.2.1 a = 11) (hF : FX11_paint G M a p0 p1 p2 p3 = some y) : Met l yX11_paint wsX11_paint ({ frames := 2, cells := 0, slots := 0, locals := 108 }) (va_Pc [.ref (ad a), .int p0, .int p1, .int p2, .int p3] (kB D ct ad Z G M sz)) (va_Qi (fun (q : Int32) (_ : Unit) => q = y.2) (fun _ t => kE D ct ad G (wA ad G sz) y.1 t) (wA ad G sz)) 0 0 (wA ad G sz) := by
  refine Met.ofW (cc := cX11_paint) (maxL := 5) (ret := (some .int)) (by decide) rfl ?_
  intro p e s m args below meth c s₁ B hml hv
  obtain ⟨rfl, hsz, hP, hK, hD0, hZ, hN⟩ := hv
  have hx := B.exec
  have hb := B.bytes
  have hr := B.returns
  have hts := atoms_spec (ws := wsX11_paint) B.pre
  have hown : s.vm.findClass RX11 = some m.cls := findClass_of_methodNamed B.named
  have hlocks := B.notSynchronized
  subst hsz
  have hD := wD_self (sz := s.heap.size) hD0
  have hA9 : ∀ q, s.heap.size ≤ q → wA ad G s.heap.size q := fun q h => Or.inr h
  generalize hAe : wA ad G s.heap.size = A at hD hA9 hZ ⊢
  have hS : va_S A s.heap s.heap [] := va_S.rf
  have hl := lv_entry ([.ref (ad a), .int p0, .int p1, .int p2, .int p3]) (n := 5) (Nat.le_of_ble_eq_true rfl)
  rw [lg_entry_eq]
  generalize (lg_sl ([.ref (ad a), .int p0, .int p1, .int p2, .int p3]) ++ List.replicate (5 - (lg_sl ([.ref (ad a), .int p0, .int p1, .int p2, .int p3])).length) Slot.unset).toArray = ls at hl ⊢
  have hl : lv_has ls 5 [(0, .ref (ad a)), (1, .int p0), (2, .int p1), (3, .int p2), (4, .int p3)] := hl
  unfold FX11_paint at hF
  refine lv_iload_n hx hb dX11_paint_0 rfl (lv_at hl 1 rfl) ?_
  obtain ⟨y1, hy1, hF⟩ := bnd_some hF
  have J1 : ∀ (H : Heap) (locs : List Loc) (ls : Array Slot), va_P D classes (wld ct ad G M) H → va_D A (wld ct ad G M) → va_S A s.heap H locs → lv_has ls 5 [(0, .ref (ad a)), (1, .int p0), (2, .int p1), (3, .int p2), (4, .int p3)] → W p l e (headSpec wsX11_paint ({ frames := 2, cells := 0, slots := 0, locals := 108 })).room s m ([.ref (ad a), .int p0, .int p1, .int p2, .int p3] : List Value).toArray below meth c H locs 0 0 (MQ below (va_Qi (fun (q : Int32) (_ : Unit) => q = y.2) (fun _ t => kE D ct ad G A y.1 t) A) ([.ref (ad a), .int p0, .int p1, .int p2, .int p3] : List Value).toArray s 0 0 A) (F0 m 4 ls []) := by
    intro H locs ls hP hD hS hl
    refine lv_iload_n hx hb dX11_paint_4 rfl (lv_at hl 1 rfl) ?_
    refine lv_iconst (v := (4 : Int32)) hx hb dX11_paint_5 (by decide) ?_
    obtain ⟨y2, hy2, hF⟩ := bnd_some hF
    have J2 : ∀ (H : Heap) (locs : List Loc) (ls : Array Slot), va_P D classes (wld ct ad G M) H → va_D A (wld ct ad G M) → va_S A s.heap H locs → lv_has ls 5 [(0, .ref (ad a)), (1, .int p0), (2, .int p1), (3, .int p2), (4, .int p3)] → W p l e (headSpec wsX11_paint ({ frames := 2, cells := 0, slots := 0, locals := 108 })).room s m ([.ref (ad a), .int p0, .int p1, .int p2, .int p3] : List Value).toArray below meth c H locs 0 0 (MQ below (va_Qi (fun (q : Int32) (_ : Unit) => q = y.2) (fun _ t => kE D ct ad G A y.1 t) A) ([.ref (ad a), .int p0, .int p1, .int p2, .int p3] : List Value).toArray s 0 0 A) (F0 m 20 ls []) := by
      intro H locs ls hP hD hS hl
      refine lv_aload_n hx hb dX11_paint_20 rfl (lv_at hl 0 rfl) ?_
      refine va_get (D := D) (ci := 11) (v := va_re ad (M.2 a 4)) (C := RX11) (T := TX11) (N := 5) hx hb hts (by decide +kernel) hown hK hP a (wld_o ct ad G M hc hk (by decide)) rfl 4 (by decide) (hts (.fieldLink RX11 31 "VideoSuite" "coder" "LVideoSuite$Coder;") (by decide +kernel)) (fun _ h9 => h9) rfl dX11_paint_21 ?_
      obtain ⟨b3, ho3, hc3, hk3, hF⟩ := dr_some hF
      refine W_st (st' := [.ref (ad b3)]) (by rw [va_some ho3]) ?_
      obtain ⟨y4, hy4, hF⟩ := bnd_some hF
      have hf9 := wA_in hD hA9 hS
      refine va_calli (va_runV (As := []) (rest := []) ⟨hx, hb, hml, hown, hts⟩ (kX0_isOpen l D ct ad Z G M H.size b3 y4 hc3 hk3 hy4) (cwV 0 hts gX11_paint_X0_isOpen rfl rfl rfl (by decide +kernel) ⟨Nat.le_of_ble_eq_true rfl, Nat.le_of_ble_eq_true rfl⟩) ⟨fun a U g mk q => by obtain ⟨q0, q1, qP, qK, qD, qZ, qN⟩ := q; exact ⟨q0, q1, qP, va_K.moved (u := U) (U := U.calling g mk a) (Vm.Alike.refl U.vm) qK, qD, sF.moved (u := U) (U := U.calling g mk a) (Vm.Alike.refl U.vm) qZ, nF.same rfl qN⟩, va_recv hK hP (ci := 0) (q0 := b3) rfl (wld_o ct ad G M hc3 hk3 (by decide)), fun U hU hW => ⟨rfl, by rw [hU], by rw [hU]; exact hP, va_K.moved hW.alike hK, hD.weaken (fun _ _ _ _ => trivial), by rw [hU]; exact ((hZ.kept hS.2.1).narrow hf9).moved hW.alike, hN.warm hW⟩⟩ rfl rfl hl.1 rfl (lv_room (Nat.le_of_ble_eq_true rfl)) dX11_paint_24 ⟨(Nat.zero_le _), (Nat.zero_le _)⟩) hS (fun q _ h => hf9 q h) hf9 (fun r u t H locs ht hvm hw hB hz1 hk1 hS => ?_)
      obtain ⟨hP, hK9, hD9⟩ := hB
      rw [ht] at hP
      try dsimp only at hw
      subst hw
      have hD := hD9.weaken (fun _ q _ h => hf9 q.1 h)
      obtain ⟨y5, hy5, hF⟩ := bnd_some hF
      have J5 : ∀ (H : Heap) (locs : List Loc) (ls : Array Slot), va_P D classes (wld ct ad G y4.1) H → va_D A (wld ct ad G y4.1) → va_S A s.heap H locs → lv_has ls 5 [(0, .ref (ad a)), (1, .int p0), (2, .int p1), (3, .int p2), (4, .int p3)] → W p l e (headSpec wsX11_paint ({ frames := 2, cells := 0, slots := 0, locals := 108 })).room s m ([.ref (ad a), .int p0, .int p1, .int p2, .int p3] : List Value).toArray below meth c H locs 0 0 (MQ below (va_Qi (fun (q : Int32) (_ : Unit) => q = y.2) (fun _ t => kE D ct ad G A y.1 t) A) ([.ref (ad a), .int p0, .int p1, .int p2, .int p3] : List Value).toArray s 0 0 A) (F0 m 41 ls []) := by
        intro H locs ls hP hD hS hl
        refine lv_iload_n hx hb dX11_paint_41 rfl (lv_at hl 1 rfl) ?_
        obtain ⟨y6, hy6, hF⟩ := bnd_some hF
        have J6 : ∀ (H : Heap) (locs : List Loc) (ls : Array Slot), va_P D classes (wld ct ad G y6) H → va_D A (wld ct ad G y6) → va_S A s.heap H locs → lv_has ls 5 [(0, .ref (ad a)), (1, .int p0), (2, .int p1), (3, .int p2), (4, .int p3)] → W p l e (headSpec wsX11_paint ({ frames := 2, cells := 0, slots := 0, locals := 108 })).room s m ([.ref (ad a), .int p0, .int p1, .int p2, .int p3] : List Value).toArray below meth c H locs 0 0 (MQ below (va_Qi (fun (q : Int32) (_ : Unit) => q = y.2) (fun _ t => kE D ct ad G A y.1 t) A) ([.ref (ad a), .int p0, .int p1, .int p2, .int p3] : List Value).toArray s 0 0 A) (F0 m 147 ls []) := by
          intro H locs ls hP hD hS hl
          refine lv_aload_n hx hb dX11_paint_147 rfl (lv_at hl 0 rfl) ?_
          refine va_get (D := D) (ci := 11) (v := va_re ad (y6.2 a 4)) (C := RX11) (T := TX11) (N := 5) hx hb hts (by decide +kernel) hown hK hP a (wld_o ct ad G y6 hc hk (by decide)) rfl 4 (by decide) (hts (.fieldLink RX11 31 "VideoSuite" "coder" "LVideoSuite$Coder;") (by decide +kernel)) (fun _ h9 => h9) rfl dX11_paint_148 ?_
          obtain ⟨b7, ho7, hc7, hk7, hF⟩ := dr_some hF
          refine W_st (st' := [.ref (ad b7)]) (by rw [va_some ho7]) ?_
          obtain ⟨y8, hy8, hF⟩ := bnd_some hF
          have hf9 := wA_in hD hA9 hS
          refine va_calli (va_runV (As := []) (rest := []) ⟨hx, hb, hml, hown, hts⟩ (kX0_inputSum l D ct ad Z G y6 H.size b7 y8 hc7 hk7 hy8) (cwV 0 hts gX11_paint_X0_inputSum rfl rfl rfl (by decide +kernel) ⟨Nat.le_of_ble_eq_true rfl, Nat.le_of_ble_eq_true rfl⟩) ⟨fun a U g mk q => by obtain ⟨q0, q1, qP, qK, qD, qZ, qN⟩ := q; exact ⟨q0, q1, qP, va_K.moved (u := U) (U := U.calling g mk a) (Vm.Alike.refl U.vm) qK, qD, sF.moved (u := U) (U := U.calling g mk a) (Vm.Alike.refl U.vm) qZ, nF.same rfl qN⟩, va_recv hK hP (ci := 0) (q0 := b7) rfl (wld_o ct ad G y6 hc7 hk7 (by decide)), fun U hU hW => ⟨rfl, by rw [hU], by rw [hU]; exact hP, va_K.moved hW.alike hK, hD.weaken (fun _ _ _ _ => trivial), by rw [hU]; exact ((hZ.kept hS.2.1).narrow hf9).moved hW.alike, hN.warm hW⟩⟩ rfl rfl hl.1 rfl (lv_room (Nat.le_of_ble_eq_true rfl)) dX11_paint_151 ⟨(Nat.zero_le _), (Nat.zero_le _)⟩) hS (fun q _ h => hf9 q h) hf9 (fun r u t H locs ht hvm hw hB hz1 hk1 hS => ?_)
          obtain ⟨hP, hK9, hD9⟩ := hB
          rw [ht] at hP
          try dsimp only at hw
          subst hw
          have hD := hD9.weaken (fun _ q _ h => hf9 q.1 h)
          obtain rfl := Option.some.inj hF
          exact W.iret (v := y8.2) hx hb hr (fun t ht hW => ⟨⟨_, (), rfl, rfl, ⟨by rw [ht]; exact hP, va_K.moved hW.alike hK, hD⟩⟩, hS.F ht⟩) hS.2.2 dX11_paint_154
        clear hF
        have hF := hy6
        clear hy6
        by_cases c9 : p0 = (0 : Int32)
        · rw [if_pos c9] at hF
          refine lv_tableIn (tgt := 72) hx hb dX11_paint_42 (by rw [c9]; decide) (by rw [c9]; decide) (by rw [c9]; rfl) (by decide) ?_
          refine lv_aload_n hx hb dX11_paint_72 rfl (lv_at hl 0 rfl) ?_
          refine va_get (D := D) (ci := 11) (v := va_re ad (y4.1.2 a 4)) (C := RX11) (T := TX11) (N := 5) hx hb hts (by decide +kernel) hown hK hP a (wld_o ct ad G y4.1 hc hk (by decide)) rfl 4 (by decide) (hts (.fieldLink RX11 31 "VideoSuite" "coder" "LVideoSuite$Coder;") (by decide +kernel)) (fun _ h9 => h9) rfl dX11_paint_73 ?_
          refine lv_iload_n hx hb dX11_paint_76 rfl (lv_at hl 2 rfl) ?_
          refine lv_iload_n hx hb dX11_paint_77 rfl (lv_at hl 3 rfl) ?_
          refine lv_iload hx hb dX11_paint_78 (lv_at hl 4 rfl) ?_
          obtain ⟨b10, ho10, hc10, hk10, hF⟩ := dr_some hF
          refine W_st (st' := [.int p3, .int p2, .int p1, .ref (ad b10)]) (by rw [va_some ho10]) ?_
          obtain ⟨y11, hy11, hF⟩ := bnd_some hF
          have hf9 := wA_in hD hA9 hS
          refine va_callv (va_runV (As := [.int p1, .int p2, .int p3]) (rest := []) ⟨hx, hb, hml, hown, hts⟩ (kX0_paintFlat l D ct ad Z G y4.1 H.size b10 p1 p2 p3 y11 hc10 hk10 hy11) (cwV 3 hts gX11_paint_X0_paintFlat rfl rfl rfl (by decide +kernel) ⟨Nat.le_of_ble_eq_true rfl, Nat.le_of_ble_eq_true rfl⟩) ⟨fun a U g mk q => by obtain ⟨q0, q1, qP, qK, qD, qZ, qN⟩ := q; exact ⟨q0, q1, qP, va_K.moved (u := U) (U := U.calling g mk a) (Vm.Alike.refl U.vm) qK, qD, sF.moved (u := U) (U := U.calling g mk a) (Vm.Alike.refl U.vm) qZ, nF.same rfl qN⟩, va_recv hK hP (ci := 0) (q0 := b10) rfl (wld_o ct ad G y4.1 hc10 hk10 (by decide)), fun U hU hW => ⟨rfl, by rw [hU], by rw [hU]; exact hP, va_K.moved hW.alike hK, hD.weaken (fun _ _ _ _ => trivial), by rw [hU]; exact ((hZ.kept hS.2.1).narrow hf9).moved hW.alike, hN.warm hW⟩⟩ rfl rfl hl.1 rfl (lv_room (Nat.le_of_ble_eq_true rfl)) dX11_paint_80 ⟨(Nat.zero_le _), (Nat.zero_le _)⟩) hS (fun q _ h => hf9 q h) hf9 (fun u t H locs ht hvm hw hB hz1 hk1 hS => ?_)
          obtain ⟨hP, hK9, hD9⟩ := hB
          rw [ht] at hP
          have hD := hD9.weaken (fun _ q _ h => hf9 q.1 h)
          refine lv_goto (tgt := 147) hx hb dX11_paint_83 (by decide) ?_
          obtain rfl := Option.some.inj hF
          exact J6 _ _ _ hP hD hS (lv_sub hl [0, 1, 2, 3, 4] rfl)
        · rw [if_neg c9] at hF
          by_cases c12 : p0 = (1 : Int32)
          · rw [if_pos c12] at hF
            refine lv_tableIn (tgt := 86) hx hb dX11_paint_42 (by rw [c12]; decide) (by rw [c12]; decide) (by rw [c12]; rfl) (by decide) ?_
            refine lv_aload_n hx hb dX11_paint_86 rfl (lv_at hl 0 rfl) ?_
            refine va_get (D := D) (ci := 11) (v := va_re ad (y4.1.2 a 4)) (C := RX11) (T := TX11) (N := 5) hx hb hts (by decide +kernel) hown hK hP a (wld_o ct ad G y4.1 hc hk (by decide)) rfl 4 (by decide) (hts (.fieldLink RX11 31 "VideoSuite" "coder" "LVideoSuite$Coder;") (by decide +kernel)) (fun _ h9 => h9) rfl dX11_paint_87 ?_
            refine lv_iload_n hx hb dX11_paint_90 rfl (lv_at hl 2 rfl) ?_
            refine lv_iload_n hx hb dX11_paint_91 rfl (lv_at hl 3 rfl) ?_
            refine lv_iload hx hb dX11_paint_92 (lv_at hl 4 rfl) ?_
            obtain ⟨b13, ho13, hc13, hk13, hF⟩ := dr_some hF
            refine W_st (st' := [.int p3, .int p2, .int p1, .ref (ad b13)]) (by rw [va_some ho13]) ?_
            obtain ⟨y14, hy14, hF⟩ := bnd_some hF
            have hf9 := wA_in hD hA9 hS
            refine va_callv (va_runV (As := [.int p1, .int p2, .int p3]) (rest := []) ⟨hx, hb, hml, hown, hts⟩ (kX0_paintSlope l D ct ad Z G y4.1 H.size b13 p1 p2 p3 y14 hc13 hk13 hy14) (cwV 3 hts gX11_paint_X0_paintSlope rfl rfl rfl (by decide +kernel) ⟨Nat.le_of_ble_eq_true rfl, Nat.le_of_ble_eq_true rfl⟩) ⟨fun a U g mk q => by obtain ⟨q0, q1, qP, qK, qD, qZ, qN⟩ := q; exact ⟨q0, q1, qP, va_K.moved (u := U) (U := U.calling g mk a) (Vm.Alike.refl U.vm) qK, qD, sF.moved (u := U) (U := U.calling g mk a) (Vm.Alike.refl U.vm) qZ, nF.same rfl qN⟩, va_recv hK hP (ci := 0) (q0 := b13) rfl (wld_o ct ad G y4.1 hc13 hk13 (by decide)), fun U hU hW => ⟨rfl, by rw [hU], by rw [hU]; exact hP, va_K.moved hW.alike hK, hD.weaken (fun _ _ _ _ => trivial), by rw [hU]; exact ((hZ.kept hS.2.1).narrow hf9).moved hW.alike, hN.warm hW⟩⟩ rfl rfl hl.1 rfl (lv_room (Nat.le_of_ble_eq_true rfl)) dX11_paint_94 ⟨(Nat.zero_le _), (Nat.zero_le _)⟩) hS (fun q _ h => hf9 q h) hf9 (fun u t H locs ht hvm hw hB hz1 hk1 hS => ?_)
            obtain ⟨hP, hK9, hD9⟩ := hB
            rw [ht] at hP
            have hD := hD9.weaken (fun _ q _ h => hf9 q.1 h)
            refine lv_goto (tgt := 147) hx hb dX11_paint_97 (by decide) ?_
            obtain rfl := Option.some.inj hF
            exact J6 _ _ _ hP hD hS (lv_sub hl [0, 1, 2, 3, 4] rfl)
          · rw [if_neg c12] at hF
            by_cases c15 : p0 = (2 : Int32)
            · rw [if_pos c15] at hF
              refine lv_tableIn (tgt := 100) hx hb dX11_paint_42 (by rw [c15]; decide) (by rw [c15]; decide) (by rw [c15]; rfl) (by decide) ?_
              refine lv_aload_n hx hb dX11_paint_100 rfl (lv_at hl 0 rfl) ?_
              refine va_get (D := D) (ci := 11) (v := va_re ad (y4.1.2 a 4)) (C := RX11) (T := TX11) (N := 5) hx hb hts (by decide +kernel) hown hK hP a (wld_o ct ad G y4.1 hc hk (by decide)) rfl 4 (by decide) (hts (.fieldLink RX11 31 "VideoSuite" "coder" "LVideoSuite$Coder;") (by decide +kernel)) (fun _ h9 => h9) rfl dX11_paint_101 ?_
              refine lv_iload_n hx hb dX11_paint_104 rfl (lv_at hl 2 rfl) ?_
              refine lv_iload_n hx hb dX11_paint_105 rfl (lv_at hl 3 rfl) ?_
              refine lv_iload hx hb dX11_paint_106 (lv_at hl 4 rfl) ?_
              obtain ⟨b16, ho16, hc16, hk16, hF⟩ := dr_some hF
              refine W_st (st' := [.int p3, .int p2, .int p1, .ref (ad b16)]) (by rw [va_some ho16]) ?_
              obtain ⟨y17, hy17, hF⟩ := bnd_some hF
              have hf9 := wA_in hD hA9 hS
              refine va_callv (va_runV (As := [.int p1, .int p2, .int p3]) (rest := []) ⟨hx, hb, hml, hown, hts⟩ (kX0_paintNoise l D ct ad Z G y4.1 H.size b16 p1 p2 p3 y17 hc16 hk16 hy17) (cwV 3 hts gX11_paint_X0_paintNoise rfl rfl rfl (by decide +kernel) ⟨Nat.le_of_ble_eq_true rfl, Nat.le_of_ble_eq_true rfl⟩) ⟨fun a U g mk q => by obtain ⟨q0, q1, qP, qK, qD, qZ, qN⟩ := q; exact ⟨q0, q1, qP, va_K.moved (u := U) (U := U.calling g mk a) (Vm.Alike.refl U.vm) qK, qD, sF.moved (u := U) (U := U.calling g mk a) (Vm.Alike.refl U.vm) qZ, nF.same rfl qN⟩, va_recv hK hP (ci := 0) (q0 := b16) rfl (wld_o ct ad G y4.1 hc16 hk16 (by decide)), fun U hU hW => ⟨rfl, by rw [hU], by rw [hU]; exact hP, va_K.moved hW.alike hK, hD.weaken (fun _ _ _ _ => trivial), by rw [hU]; exact ((hZ.kept hS.2.1).narrow hf9).moved hW.alike, hN.warm hW⟩⟩ rfl rfl hl.1 rfl (lv_room (Nat.le_of_ble_eq_true rfl)) dX11_paint_108 ⟨(Nat.zero_le _), (Nat.zero_le _)⟩) hS (fun q _ h => hf9 q h) hf9 (fun u t H locs ht hvm hw hB hz1 hk1 hS => ?_)
              obtain ⟨hP, hK9, hD9⟩ := hB
              rw [ht] at hP
              have hD := hD9.weaken (fun _ q _ h => hf9 q.1 h)
              refine lv_goto (tgt := 147) hx hb dX11_paint_111 (by decide) ?_
              obtain rfl := Option.some.inj hF
              exact J6 _ _ _ hP hD hS (lv_sub hl [0, 1, 2, 3, 4] rfl)
            · rw [if_neg c15] at hF
              by_cases c18 : p0 = (3 : Int32)
              · rw [if_pos c18] at hF
                refine lv_tableIn (tgt := 114) hx hb dX11_paint_42 (by rw [c18]; decide) (by rw [c18]; decide) (by rw [c18]; rfl) (by decide) ?_
                refine lv_aload_n hx hb dX11_paint_114 rfl (lv_at hl 0 rfl) ?_
                refine va_get (D := D) (ci := 11) (v := va_re ad (y4.1.2 a 4)) (C := RX11) (T := TX11) (N := 5) hx hb hts (by decide +kernel) hown hK hP a (wld_o ct ad G y4.1 hc hk (by decide)) rfl 4 (by decide) (hts (.fieldLink RX11 31 "VideoSuite" "coder" "LVideoSuite$Coder;") (by decide +kernel)) (fun _ h9 => h9) rfl dX11_paint_115 ?_
                refine lv_iload_n hx hb dX11_paint_118 rfl (lv_at hl 2 rfl) ?_
                refine lv_iload_n hx hb dX11_paint_119 rfl (lv_at hl 3 rfl) ?_
                obtain ⟨b19, ho19, hc19, hk19, hF⟩ := dr_some hF
                refine W_st (st' := [.int p2, .int p1, .ref (ad b19)]) (by rw [va_some ho19]) ?_
                obtain ⟨y20, hy20, hF⟩ := bnd_some hF
                have hf9 := wA_in hD hA9 hS
                refine va_callv (va_runV (As := [.int p1, .int p2]) (rest := []) ⟨hx, hb, hml, hown, hts⟩ (kX0_paintMoved l D ct ad Z G y4.1 H.size b19 p1 p2 y20 hc19 hk19 hy20) (cwV 2 hts gX11_paint_X0_paintMoved rfl rfl rfl (by decide +kernel) ⟨Nat.le_of_ble_eq_true rfl, Nat.le_of_ble_eq_true rfl⟩) ⟨fun a U g mk q => by obtain ⟨q0, q1, qP, qK, qD, qZ, qN⟩ := q; exact ⟨q0, q1, qP, va_K.moved (u := U) (U := U.calling g mk a) (Vm.Alike.refl U.vm) qK, qD, sF.moved (u := U) (U := U.calling g mk a) (Vm.Alike.refl U.vm) qZ, nF.same rfl qN⟩, va_recv hK hP (ci := 0) (q0 := b19) rfl (wld_o ct ad G y4.1 hc19 hk19 (by decide)), fun U hU hW => ⟨rfl, by rw [hU], by rw [hU]; exact hP, va_K.moved hW.alike hK, hD.weaken (fun _ _ _ _ => trivial), by rw [hU]; exact ((hZ.kept hS.2.1).narrow hf9).moved hW.alike, hN.warm hW⟩⟩ rfl rfl hl.1 rfl (lv_room (Nat.le_of_ble_eq_true rfl)) dX11_paint_120 ⟨(Nat.zero_le _), (Nat.zero_le _)⟩) hS (fun q _ h => hf9 q h) hf9 (fun u t H locs ht hvm hw hB hz1 hk1 hS => ?_)
                obtain ⟨hP, hK9, hD9⟩ := hB
                rw [ht] at hP
                have hD := hD9.weaken (fun _ q _ h => hf9 q.1 h)
                refine lv_goto (tgt := 147) hx hb dX11_paint_123 (by decide) ?_
                obtain rfl := Option.some.inj hF
                exact J6 _ _ _ hP hD hS (lv_sub hl [0, 1, 2, 3, 4] rfl)
              · rw [if_neg c18] at hF
                obtain ⟨hsw, hF⟩ := chk_some hF
                refine lv_tableOut (tgt := 126) hx hb dX11_paint_42 hsw (by decide) ?_
                refine lv_aload_n hx hb dX11_paint_126 rfl (lv_at hl 0 rfl) ?_
                refine va_get (D := D) (ci := 11) (v := va_re ad (y4.1.2 a 4)) (C := RX11) (T := TX11) (N := 5) hx hb hts (by decide +kernel) hown hK hP a (wld_o ct ad G y4.1 hc hk (by decide)) rfl 4 (by decide) (hts (.fieldLink RX11 31 "VideoSuite" "coder" "LVideoSuite$Coder;") (by decide +kernel)) (fun _ h9 => h9) rfl dX11_paint_127 ?_
                refine lv_iload_n hx hb dX11_paint_130 rfl (lv_at hl 2 rfl) ?_
                refine lv_bipush (v := (127 : Int32)) hx hb dX11_paint_131 (by decide) ?_
                refine lv_iand hx hb dX11_paint_133 ?_
                obtain ⟨x21, ex21, hF⟩ := ltt_some hF
                refine lv_topi (fun zx21 ezx21 => ?_)
                obtain rfl : x21 = zx21 := ex21.trans ezx21.symm
                refine lv_iload_n hx hb dX11_paint_134 rfl (lv_at hl 3 rfl) ?_
                refine lv_bipush (v := (127 : Int32)) hx hb dX11_paint_135 (by decide) ?_
                refine lv_iand hx hb dX11_paint_137 ?_
                obtain ⟨x22, ex22, hF⟩ := ltt_some hF
                refine lv_topi (fun zx22 ezx22 => ?_)
                obtain rfl : x22 = zx22 := ex22.trans ezx22.symm
                refine lv_iload hx hb dX11_paint_138 (lv_at hl 4 rfl) ?_
                refine lv_sipush (v := (255 : Int32)) hx hb dX11_paint_140 (by decide) ?_
                refine lv_iand hx hb dX11_paint_143 ?_
                obtain ⟨x23, ex23, hF⟩ := ltt_some hF
                refine lv_topi (fun zx23 ezx23 => ?_)
                obtain rfl : x23 = zx23 := ex23.trans ezx23.symm
                obtain ⟨b24, ho24, hc24, hk24, hF⟩ := dr_some hF
                refine W_st (st' := [.int x23, .int x22, .int x21, .ref (ad b24)]) (by rw [va_some ho24]) ?_
                obtain ⟨y25, hy25, hF⟩ := bnd_some hF
                have hf9 := wA_in hD hA9 hS
                refine va_callv (va_runV (As := [.int x21, .int x22, .int x23]) (rest := []) ⟨hx, hb, hml, hown, hts⟩ (kX0_paintSquare l D ct ad Z G y4.1 H.size b24 x21 x22 x23 y25 hc24 hk24 hy25) (cwV 3 hts gX11_paint_X0_paintSquare rfl rfl rfl (by decide +kernel) ⟨Nat.le_of_ble_eq_true rfl, Nat.le_of_ble_eq_true rfl⟩) ⟨fun a U g mk q => by obtain ⟨q0, q1, qP, qK, qD, qZ, qN⟩ := q; exact ⟨q0, q1, qP, va_K.moved (u := U) (U := U.calling g mk a) (Vm.Alike.refl U.vm) qK, qD, sF.moved (u := U) (U := U.calling g mk a) (Vm.Alike.refl U.vm) qZ, nF.same rfl qN⟩, va_recv hK hP (ci := 0) (q0 := b24) rfl (wld_o ct ad G y4.1 hc24 hk24 (by decide)), fun U hU hW => ⟨rfl, by rw [hU], by rw [hU]; exact hP, va_K.moved hW.alike hK, hD.weaken (fun _ _ _ _ => trivial), by rw [hU]; exact ((hZ.kept hS.2.1).narrow hf9).moved hW.alike, hN.warm hW⟩⟩ rfl rfl hl.1 rfl (lv_room (Nat.le_of_ble_eq_true rfl)) dX11_paint_144 ⟨(Nat.zero_le _), (Nat.zero_le _)⟩) hS (fun q _ h => hf9 q h) hf9 (fun u t H locs ht hvm hw hB hz1 hk1 hS => ?_)
                obtain ⟨hP, hK9, hD9⟩ := hB
                rw [ht] at hP
                have hD := hD9.weaken (fun _ q _ h => hf9 q.1 h)
                obtain rfl := Option.some.inj hF
                exact J6 _ _ _ hP hD hS (lv_sub hl [0, 1, 2, 3, 4] rfl)
      clear hF
      have hF := hy5
      clear hy5
      refine lv_if_ne (tgt := 41) hx hb dX11_paint_27 (by decide) (fun c26 => ?_) (fun c26 => ?_)
      · rw [if_neg c26] at hF
        obtain rfl := Option.some.inj hF
        exact J5 _ _ _ hP hD hS (lv_sub hl [0, 1, 2, 3, 4] rfl)
      · rw [if_pos c26] at hF
        cases hF
    clear hF
    have hF := hy2
    clear hy2
    refine lv_icmp_le (tgt := 20) hx hb dX11_paint_6 (by decide) (fun c27 => ?_) (fun c27 => ?_)
    · rw [if_pos c27] at hF
      obtain rfl := Option.some.inj hF
      exact J2 _ _ _ hP hD hS (lv_sub hl [0, 1, 2, 3, 4] rfl)
    · rw [if_neg c27] at hF
      cases hF
  clear hF
  have hF := hy1
  clear hy1
  refine lv_if_lt (tgt := 9) hx hb dX11_paint_1 (by decide) (fun c28 => ?_) (fun c28 => ?_)
  · rw [if_pos c28] at hF
    cases hF
  · rw [if_neg c28] at hF
    obtain rfl := Option.some.inj hF
    exact J1 _ _ _ hP hD hS (lv_sub hl [0, 1, 2, 3, 4] rfl)
theorem ggX11_picture_X7_keeps : GoodIn wsX11_picture wsX7_keeps := goodIn_r _ [11, 12, 45, 46, 47, 48, 49, 50, 51, 52, 53, 54, 55, 56, 57, 58, 59, 60, 61] (by decide +kernel) (by decide +kernel)
set_option maxRecDepth 20000 in
theorem gX11_picture_X7_keeps : GoodIn wsX11_picture (wsV RX11 158 RX7 yX7_keeps wsX7_keeps) := goodIn_app (goodIn_of _ (by decide +kernel)) ggX11_picture_X7_keeps
set_option maxRecDepth 20000 in
theorem ggX11_picture_X7_fact : GoodIn wsX11_picture wsX7_fact := goodIn_r _ [16, 17, 45, 46, 47, 48, 49, 50, 51, 52, 53, 54, 55, 56, 57, 58, 59, 60, 61] (by decide +kernel) (by decide +kernel)
set_option maxRecDepth 20000 in
theorem gX11_picture_X7_fact : GoodIn wsX11_picture (wsV RX11 163 RX7 yX7_fact wsX7_fact) := goodIn_app (goodIn_of _ (by decide +kernel)) ggX11_picture_X7_fact
theorem dX11_picture_0 : decode cX11_picture 0 = .ok (.iload_n 2, 1) := by decide +kernel
theorem dX11_picture_1 : decode cX11_picture 1 = .ok (.ifCond .lt 9, 3) := by decide +kernel
theorem dX11_picture_4 : decode cX11_picture 4 = .ok (.iload_n 2, 1) := by decide +kernel
theorem dX11_picture_5 : decode cX11_picture 5 = .ok (.bipush 6, 2) := by decide +kernel
theorem dX11_picture_7 : decode cX11_picture 7 = .ok (.if_icmp .le 13, 3) := by decide +kernel
theorem dX11_picture_10 : decode cX11_picture 10 = .ok (.new 51, 3) := by decide +kernel
theorem dX11_picture_13 : decode cX11_picture 13 = .ok (.dup, 1) := by decide +kernel
theorem dX11_picture_14 : decode cX11_picture 14 = .ok (.ldc 85, 2) := by decide +kernel
theorem dX11_picture_16 : decode cX11_picture 16 = .ok (.invokespecial 55, 3) := by decide +kernel
theorem dX11_picture_19 : decode cX11_picture 19 = .ok (.athrow, 1) := by decide +kernel
theorem dX11_picture_20 : decode cX11_picture 20 = .ok (.aload_n 0, 1) := by decide +kernel
theorem dX11_picture_21 : decode cX11_picture 21 = .ok (.getfield 24, 3) := by decide +kernel
theorem dX11_picture_24 : decode cX11_picture 24 = .ok (.getfield 146, 3) := by decide +kernel
theorem dX11_picture_27 : decode cX11_picture 27 = .ok (.iload_n 1, 1) := by decide +kernel
theorem dX11_picture_28 : decode cX11_picture 28 = .ok (.invokevirtual 158, 3) := by decide +kernel
theorem dX11_picture_31 : decode cX11_picture 31 = .ok (.ifCond .ne 13, 3) := by decide +kernel
theorem dX11_picture_34 : decode cX11_picture 34 = .ok (.new 91, 3) := by decide +kernel
theorem dX11_picture_37 : decode cX11_picture 37 = .ok (.dup, 1) := by decide +kernel
theorem dX11_picture_38 : decode cX11_picture 38 = .ok (.ldc 161, 2) := by decide +kernel
theorem dX11_picture_40 : decode cX11_picture 40 = .ok (.invokespecial 95, 3) := by decide +kernel
theorem dX11_picture_43 : decode cX11_picture 43 = .ok (.athrow, 1) := by decide +kernel
theorem dX11_picture_44 : decode cX11_picture 44 = .ok (.aload_n 0, 1) := by decide +kernel
theorem dX11_picture_45 : decode cX11_picture 45 = .ok (.getfield 24, 3) := by decide +kernel
theorem dX11_picture_48 : decode cX11_picture 48 = .ok (.getfield 146, 3) := by decide +kernel
theorem dX11_picture_51 : decode cX11_picture 51 = .ok (.iload_n 1, 1) := by decide +kernel
theorem dX11_picture_52 : decode cX11_picture 52 = .ok (.iload_n 2, 1) := by decide +kernel
theorem dX11_picture_53 : decode cX11_picture 53 = .ok (.invokevirtual 163, 3) := by decide +kernel
theorem dX11_picture_56 : decode cX11_picture 56 = .ok (.ireturn, 1) := by decide +kernel
def FX11_picture (G : GG) (M : DD) (a : Nat) (p0 : Int32) (p1 : Int32) : Option (DD × Int32) :=
  bnd (if p1 < ((0 : Int32)) then (none) else
  (some ())) fun (y1 : Unit) =>
  bnd (if p1 ≤ ((6 : Int32)) then (some ()) else
  (none)) fun (y2 : Unit) =>
  dr G 1 ((M.2 a 3)) fun b3 =>
  dr G 7 ((M.2 b3 1)) fun b4 =>
  bnd (FX7_keeps G M b4 p0) fun y5 =>
  bnd (if y5.2 = ((0 : Int32)) then (none) else
  (some ())) fun (y6 : Unit) =>
  dr G 1 ((y5.1.2 a 3)) fun b7 =>
  dr G 7 ((y5.1.2 b7 1)) fun b8 =>
  bnd (FX7_fact G y5.1 b8 p0 p1) fun y9 =>
  some (y9.1, y9.2)
set_option maxHeartbeats 4000000 in
set_option maxRecDepth 100000 in
theorem kX11_picture (l : Launch) (D : va_G) (ct : CT) (ad : Nat → Nat) (Z : Nat → Nat) (G : GG) (M : DD) (sz : Nat) (a : Nat) (p0 : Int32) (p1 : Int32) (y : DD × Int32) (hc : a < G.1) (hk : G.2.1 a = 11) (hF : FX11_picture G M a p0 p1 = some y) : Met l yX11_picture wsX11_picture ({ frames := 1, cells := 0, slots := 0, locals := 22 }) (va_Pc [.ref (ad a), .int p0, .int p1] (kB D ct ad Z G M sz)) (va_Qi (fun (q : Int32) (_ : Unit) => q = y.2) (fun _ t => kE D ct ad G (wA ad G sz) y.1 t) (wA ad G sz)) 0 0 (wA ad G sz) := by
  refine Met.ofW (cc := cX11_picture) (maxL := 3) (ret := (some .int)) (by decide) rfl ?_
  intro p e s m args below meth c s₁ B hml hv
  obtain ⟨rfl, hsz, hP, hK, hD0, hZ, hN⟩ := hv
  have hx := B.exec
  have hb := B.bytes
  have hr := B.returns
  have hts := atoms_spec (ws := wsX11_picture) B.pre
  have hown : s.vm.findClass RX11 = some m.cls := findClass_of_methodNamed B.named
  have hlocks := B.notSynchronized
  subst hsz
  have hD := wD_self (sz := s.heap.size) hD0
  have hA9 : ∀ q, s.heap.size ≤ q → wA ad G s.heap.size q := fun q h => Or.inr h
  generalize hAe : wA ad G s.heap.size = A at hD hA9 hZ ⊢
  have hS : va_S A s.heap s.heap [] := va_S.rf
  have hl := lv_entry ([.ref (ad a), .int p0, .int p1]) (n := 3) (Nat.le_of_ble_eq_true rfl)
  rw [lg_entry_eq]
  generalize (lg_sl ([.ref (ad a), .int p0, .int p1]) ++ List.replicate (3 - (lg_sl ([.ref (ad a), .int p0, .int p1])).length) Slot.unset).toArray = ls at hl ⊢
  have hl : lv_has ls 3 [(0, .ref (ad a)), (1, .int p0), (2, .int p1)] := hl
  unfold FX11_picture at hF
  refine lv_iload_n hx hb dX11_picture_0 rfl (lv_at hl 2 rfl) ?_
  obtain ⟨y1, hy1, hF⟩ := bnd_some hF
  have J1 : ∀ (H : Heap) (locs : List Loc) (ls : Array Slot), va_P D classes (wld ct ad G M) H → va_D A (wld ct ad G M) → va_S A s.heap H locs → lv_has ls 3 [(0, .ref (ad a)), (1, .int p0), (2, .int p1)] → W p l e (headSpec wsX11_picture ({ frames := 1, cells := 0, slots := 0, locals := 22 })).room s m ([.ref (ad a), .int p0, .int p1] : List Value).toArray below meth c H locs 0 0 (MQ below (va_Qi (fun (q : Int32) (_ : Unit) => q = y.2) (fun _ t => kE D ct ad G A y.1 t) A) ([.ref (ad a), .int p0, .int p1] : List Value).toArray s 0 0 A) (F0 m 4 ls []) := by
    intro H locs ls hP hD hS hl
    refine lv_iload_n hx hb dX11_picture_4 rfl (lv_at hl 2 rfl) ?_
    refine lv_bipush (v := (6 : Int32)) hx hb dX11_picture_5 (by decide) ?_
    obtain ⟨y2, hy2, hF⟩ := bnd_some hF
    have J2 : ∀ (H : Heap) (locs : List Loc) (ls : Array Slot), va_P D classes (wld ct ad G M) H → va_D A (wld ct ad G M) → va_S A s.heap H locs → lv_has ls 3 [(0, .ref (ad a)), (1, .int p0), (2, .int p1)] → W p l e (headSpec wsX11_picture ({ frames := 1, cells := 0, slots := 0, locals := 22 })).room s m ([.ref (ad a), .int p0, .int p1] : List Value).toArray below meth c H locs 0 0 (MQ below (va_Qi (fun (q : Int32) (_ : Unit) => q = y.2) (fun _ t => kE D ct ad G A y.1 t) A) ([.ref (ad a), .int p0, .int p1] : List Value).toArray s 0 0 A) (F0 m 20 ls []) := by
      intro H locs ls hP hD hS hl
      refine lv_aload_n hx hb dX11_picture_20 rfl (lv_at hl 0 rfl) ?_
      refine va_get (D := D) (ci := 11) (v := va_re ad (M.2 a 3)) (C := RX11) (T := TX11) (N := 5) hx hb hts (by decide +kernel) hown hK hP a (wld_o ct ad G M hc hk (by decide)) rfl 3 (by decide) (hts (.fieldLink RX11 24 "VideoSuite" "decoder" "LVideoSuite$Decoder;") (by decide +kernel)) (fun _ h9 => h9) rfl dX11_picture_21 ?_
      obtain ⟨b3, ho3, hc3, hk3, hF⟩ := dr_some hF
      refine W_st (st' := [.ref (ad b3)]) (by rw [va_some ho3]) ?_
      refine va_get (D := D) (ci := 1) (v := va_re ad (M.2 b3 1)) (C := RX1) (T := TX1) (N := 22) hx hb hts (by decide +kernel) hown hK hP b3 (wld_o ct ad G M hc3 hk3 (by decide)) rfl 1 (by decide) (hts (.fieldLink RX11 146 "VideoSuite$Decoder" "store" "LVideoSuite$Store;") (by decide +kernel)) (fun _ h9 => h9) rfl dX11_picture_24 ?_
      refine lv_iload_n hx hb dX11_picture_27 rfl (lv_at hl 1 rfl) ?_
      obtain ⟨b4, ho4, hc4, hk4, hF⟩ := dr_some hF
      refine W_st (st' := [.int p0, .ref (ad b4)]) (by rw [va_some ho4]) ?_
      obtain ⟨y5, hy5, hF⟩ := bnd_some hF
      have hf9 := wA_in hD hA9 hS
      refine va_calli (va_runV (As := [.int p0]) (rest := []) ⟨hx, hb, hml, hown, hts⟩ (kX7_keeps l D ct ad Z G M H.size b4 p0 y5 hc4 hk4 hy5) (cwV 1 hts gX11_picture_X7_keeps rfl rfl rfl (by decide +kernel) ⟨Nat.le_of_ble_eq_true rfl, Nat.le_of_ble_eq_true rfl⟩) ⟨fun a U g mk q => by obtain ⟨q0, q1, qP, qK, qD, qZ, qN⟩ := q; exact ⟨q0, q1, qP, va_K.moved (u := U) (U := U.calling g mk a) (Vm.Alike.refl U.vm) qK, qD, sF.moved (u := U) (U := U.calling g mk a) (Vm.Alike.refl U.vm) qZ, nF.same rfl qN⟩, va_recv hK hP (ci := 7) (q0 := b4) rfl (wld_o ct ad G M hc4 hk4 (by decide)), fun U hU hW => ⟨rfl, by rw [hU], by rw [hU]; exact hP, va_K.moved hW.alike hK, hD.weaken (fun _ _ _ _ => trivial), by rw [hU]; exact ((hZ.kept hS.2.1).narrow hf9).moved hW.alike, hN.warm hW⟩⟩ rfl rfl hl.1 rfl (lv_room (Nat.le_of_ble_eq_true rfl)) dX11_picture_28 ⟨(Nat.zero_le _), (Nat.zero_le _)⟩) hS (fun q _ h => hf9 q h) hf9 (fun r u t H locs ht hvm hw hB hz1 hk1 hS => ?_)
      obtain ⟨hP, hK9, hD9⟩ := hB
      rw [ht] at hP
      try dsimp only at hw
      subst hw
      have hD := hD9.weaken (fun _ q _ h => hf9 q.1 h)
      obtain ⟨y6, hy6, hF⟩ := bnd_some hF
      have J6 : ∀ (H : Heap) (locs : List Loc) (ls : Array Slot), va_P D classes (wld ct ad G y5.1) H → va_D A (wld ct ad G y5.1) → va_S A s.heap H locs → lv_has ls 3 [(0, .ref (ad a)), (1, .int p0), (2, .int p1)] → W p l e (headSpec wsX11_picture ({ frames := 1, cells := 0, slots := 0, locals := 22 })).room s m ([.ref (ad a), .int p0, .int p1] : List Value).toArray below meth c H locs 0 0 (MQ below (va_Qi (fun (q : Int32) (_ : Unit) => q = y.2) (fun _ t => kE D ct ad G A y.1 t) A) ([.ref (ad a), .int p0, .int p1] : List Value).toArray s 0 0 A) (F0 m 44 ls []) := by
        intro H locs ls hP hD hS hl
        refine lv_aload_n hx hb dX11_picture_44 rfl (lv_at hl 0 rfl) ?_
        refine va_get (D := D) (ci := 11) (v := va_re ad (y5.1.2 a 3)) (C := RX11) (T := TX11) (N := 5) hx hb hts (by decide +kernel) hown hK hP a (wld_o ct ad G y5.1 hc hk (by decide)) rfl 3 (by decide) (hts (.fieldLink RX11 24 "VideoSuite" "decoder" "LVideoSuite$Decoder;") (by decide +kernel)) (fun _ h9 => h9) rfl dX11_picture_45 ?_
        obtain ⟨b7, ho7, hc7, hk7, hF⟩ := dr_some hF
        refine W_st (st' := [.ref (ad b7)]) (by rw [va_some ho7]) ?_
        refine va_get (D := D) (ci := 1) (v := va_re ad (y5.1.2 b7 1)) (C := RX1) (T := TX1) (N := 22) hx hb hts (by decide +kernel) hown hK hP b7 (wld_o ct ad G y5.1 hc7 hk7 (by decide)) rfl 1 (by decide) (hts (.fieldLink RX11 146 "VideoSuite$Decoder" "store" "LVideoSuite$Store;") (by decide +kernel)) (fun _ h9 => h9) rfl dX11_picture_48 ?_
        refine lv_iload_n hx hb dX11_picture_51 rfl (lv_at hl 1 rfl) ?_
        refine lv_iload_n hx hb dX11_picture_52 rfl (lv_at hl 2 rfl) ?_
        obtain ⟨b8, ho8, hc8, hk8, hF⟩ := dr_some hF
        refine W_st (st' := [.int p1, .int p0, .ref (ad b8)]) (by rw [va_some ho8]) ?_
        obtain ⟨y9, hy9, hF⟩ := bnd_some hF
        have hf9 := wA_in hD hA9 hS
        refine va_calli (va_runV (As := [.int p0, .int p1]) (rest := []) ⟨hx, hb, hml, hown, hts⟩ (kX7_fact l D ct ad Z G y5.1 H.size b8 p0 p1 y9 hc8 hk8 hy9) (cwV 2 hts gX11_picture_X7_fact rfl rfl rfl (by decide +kernel) ⟨Nat.le_of_ble_eq_true rfl, Nat.le_of_ble_eq_true rfl⟩) ⟨fun a U g mk q => by obtain ⟨q0, q1, qP, qK, qD, qZ, qN⟩ := q; exact ⟨q0, q1, qP, va_K.moved (u := U) (U := U.calling g mk a) (Vm.Alike.refl U.vm) qK, qD, sF.moved (u := U) (U := U.calling g mk a) (Vm.Alike.refl U.vm) qZ, nF.same rfl qN⟩, va_recv hK hP (ci := 7) (q0 := b8) rfl (wld_o ct ad G y5.1 hc8 hk8 (by decide)), fun U hU hW => ⟨rfl, by rw [hU], by rw [hU]; exact hP, va_K.moved hW.alike hK, hD.weaken (fun _ _ _ _ => trivial), by rw [hU]; exact ((hZ.kept hS.2.1).narrow hf9).moved hW.alike, hN.warm hW⟩⟩ rfl rfl hl.1 rfl (lv_room (Nat.le_of_ble_eq_true rfl)) dX11_picture_53 ⟨(Nat.zero_le _), (Nat.zero_le _)⟩) hS (fun q _ h => hf9 q h) hf9 (fun r u t H locs ht hvm hw hB hz1 hk1 hS => ?_)
        obtain ⟨hP, hK9, hD9⟩ := hB
        rw [ht] at hP
        try dsimp only at hw
        subst hw
        have hD := hD9.weaken (fun _ q _ h => hf9 q.1 h)
        obtain rfl := Option.some.inj hF
        exact W.iret (v := y9.2) hx hb hr (fun t ht hW => ⟨⟨_, (), rfl, rfl, ⟨by rw [ht]; exact hP, va_K.moved hW.alike hK, hD⟩⟩, hS.F ht⟩) hS.2.2 dX11_picture_56
      clear hF
      have hF := hy6
      clear hy6
      refine lv_if_ne (tgt := 44) hx hb dX11_picture_31 (by decide) (fun c10 => ?_) (fun c10 => ?_)
      · rw [if_neg c10] at hF
        obtain rfl := Option.some.inj hF
        exact J6 _ _ _ hP hD hS (lv_sub hl [0, 1, 2] rfl)
      · rw [if_pos c10] at hF
        cases hF
    clear hF
    have hF := hy2
    clear hy2
    refine lv_icmp_le (tgt := 20) hx hb dX11_picture_7 (by decide) (fun c11 => ?_) (fun c11 => ?_)
    · rw [if_pos c11] at hF
      obtain rfl := Option.some.inj hF
      exact J2 _ _ _ hP hD hS (lv_sub hl [0, 1, 2] rfl)
    · rw [if_neg c11] at hF
      cases hF
  clear hF
  have hF := hy1
  clear hy1
  refine lv_if_lt (tgt := 10) hx hb dX11_picture_1 (by decide) (fun c12 => ?_) (fun c12 => ?_)
  · rw [if_pos c12] at hF
    cases hF
  · rw [if_neg c12] at hF
    obtain rfl := Option.some.inj hF
    exact J1 _ _ _ hP hD hS (lv_sub hl [0, 1, 2] rfl)
theorem ggX1_bridge_X3_isOwn : GoodIn wsX1_bridge wsX3_isOwn := goodIn_r _ [11, 12, 211, 212, 213, 214] (by decide +kernel) (by decide +kernel)
set_option maxRecDepth 20000 in
theorem gX1_bridge_X3_isOwn : GoodIn wsX1_bridge (wsV RX1 261 RX3 yX3_isOwn wsX3_isOwn) := goodIn_app (goodIn_of _ (by decide +kernel)) ggX1_bridge_X3_isOwn
set_option maxRecDepth 20000 in
theorem dX1_bridge_0 : decode cX1_bridge 0 = .ok (.iconst 1, 1) := by decide +kernel
theorem dX1_bridge_1 : decode cX1_bridge 1 = .ok (.aload_n 0, 1) := by decide +kernel
theorem dX1_bridge_2 : decode cX1_bridge 2 = .ok (.getfield 54, 3) := by decide +kernel
theorem dX1_bridge_5 : decode cX1_bridge 5 = .ok (.iconst 2, 1) := by decide +kernel
theorem dX1_bridge_6 : decode cX1_bridge 6 = .ok (.iaload, 1) := by decide +kernel
theorem dX1_bridge_7 : decode cX1_bridge 7 = .ok (.ishl, 1) := by decide +kernel
theorem dX1_bridge_8 : decode cX1_bridge 8 = .ok (.istore_n 1, 1) := by decide +kernel
theorem dX1_bridge_9 : decode cX1_bridge 9 = .ok (.aload_n 0, 1) := by decide +kernel
theorem dX1_bridge_10 : decode cX1_bridge 10 = .ok (.getfield 21, 3) := by decide +kernel
theorem dX1_bridge_13 : decode cX1_bridge 13 = .ok (.getfield 258, 3) := by decide +kernel
theorem dX1_bridge_16 : decode cX1_bridge 16 = .ok (.istore_n 2, 1) := by decide +kernel
theorem dX1_bridge_17 : decode cX1_bridge 17 = .ok (.aload_n 0, 1) := by decide +kernel
theorem dX1_bridge_18 : decode cX1_bridge 18 = .ok (.getfield 68, 3) := by decide +kernel
theorem dX1_bridge_21 : decode cX1_bridge 21 = .ok (.getfield 212, 3) := by decide +kernel
theorem dX1_bridge_24 : decode cX1_bridge 24 = .ok (.iconst 3, 1) := by decide +kernel
theorem dX1_bridge_25 : decode cX1_bridge 25 = .ok (.iaload, 1) := by decide +kernel
theorem dX1_bridge_26 : decode cX1_bridge 26 = .ok (.iload_n 2, 1) := by decide +kernel
theorem dX1_bridge_27 : decode cX1_bridge 27 = .ok (.isub, 1) := by decide +kernel
theorem dX1_bridge_28 : decode cX1_bridge 28 = .ok (.iload_n 1, 1) := by decide +kernel
theorem dX1_bridge_29 : decode cX1_bridge 29 = .ok (.iconst 1, 1) := by decide +kernel
theorem dX1_bridge_30 : decode cX1_bridge 30 = .ok (.isub, 1) := by decide +kernel
theorem dX1_bridge_31 : decode cX1_bridge 31 = .ok (.iand, 1) := by decide +kernel
theorem dX1_bridge_32 : decode cX1_bridge 32 = .ok (.istore_n 3, 1) := by decide +kernel
theorem dX1_bridge_33 : decode cX1_bridge 33 = .ok (.aload_n 0, 1) := by decide +kernel
theorem dX1_bridge_34 : decode cX1_bridge 34 = .ok (.getfield 68, 3) := by decide +kernel
theorem dX1_bridge_37 : decode cX1_bridge 37 = .ok (.invokevirtual 261, 3) := by decide +kernel
theorem dX1_bridge_40 : decode cX1_bridge 40 = .ok (.ifCond .ne 8, 3) := by decide +kernel
theorem dX1_bridge_43 : decode cX1_bridge 43 = .ok (.iload_n 3, 1) := by decide +kernel
theorem dX1_bridge_44 : decode cX1_bridge 44 = .ok (.iconst 2, 1) := by decide +kernel
theorem dX1_bridge_45 : decode cX1_bridge 45 = .ok (.if_icmp .ge 4, 3) := by decide +kernel
theorem dX1_bridge_48 : decode cX1_bridge 48 = .ok (.return_, 1) := by decide +kernel
theorem dX1_bridge_49 : decode cX1_bridge 49 = .ok (.aload_n 0, 1) := by decide +kernel
theorem dX1_bridge_50 : decode cX1_bridge 50 = .ok (.getfield 54, 3) := by decide +kernel
theorem dX1_bridge_53 : decode cX1_bridge 53 = .ok (.bipush 6, 2) := by decide +kernel
theorem dX1_bridge_55 : decode cX1_bridge 55 = .ok (.iaload, 1) := by decide +kernel
theorem dX1_bridge_56 : decode cX1_bridge 56 = .ok (.ifCond .ne 21, 3) := by decide +kernel
theorem dX1_bridge_59 : decode cX1_bridge 59 = .ok (.aload_n 0, 1) := by decide +kernel
theorem dX1_bridge_60 : decode cX1_bridge 60 = .ok (.getfield 12, 3) := by decide +kernel
theorem dX1_bridge_63 : decode cX1_bridge 63 = .ok (.iconst 4, 1) := by decide +kernel
theorem dX1_bridge_64 : decode cX1_bridge 64 = .ok (.aload_n 0, 1) := by decide +kernel
theorem dX1_bridge_65 : decode cX1_bridge 65 = .ok (.getfield 68, 3) := by decide +kernel
theorem dX1_bridge_68 : decode cX1_bridge 68 = .ok (.getfield 212, 3) := by decide +kernel
theorem dX1_bridge_71 : decode cX1_bridge 71 = .ok (.bipush 21, 2) := by decide +kernel
theorem dX1_bridge_73 : decode cX1_bridge 73 = .ok (.iaload, 1) := by decide +kernel
theorem dX1_bridge_74 : decode cX1_bridge 74 = .ok (.invokevirtual 197, 3) := by decide +kernel
theorem dX1_bridge_77 : decode cX1_bridge 77 = .ok (.iload_n 3, 1) := by decide +kernel
theorem dX1_bridge_78 : decode cX1_bridge 78 = .ok (.bipush 7, 2) := by decide +kernel
theorem dX1_bridge_80 : decode cX1_bridge 80 = .ok (.if_icmp .le 10, 3) := by decide +kernel
theorem dX1_bridge_83 : decode cX1_bridge 83 = .ok (.iload_n 3, 1) := by decide +kernel
theorem dX1_bridge_84 : decode cX1_bridge 84 = .ok (.bipush 6, 2) := by decide +kernel
theorem dX1_bridge_86 : decode cX1_bridge 86 = .ok (.isub, 1) := by decide +kernel
theorem dX1_bridge_87 : decode cX1_bridge 87 = .ok (.goto 4, 3) := by decide +kernel
theorem dX1_bridge_90 : decode cX1_bridge 90 = .ok (.iconst 1, 1) := by decide +kernel
theorem dX1_bridge_91 : decode cX1_bridge 91 = .ok (.istore 4, 2) := by decide +kernel
theorem dX1_bridge_93 : decode cX1_bridge 93 = .ok (.iload 4, 2) := by decide +kernel
theorem dX1_bridge_95 : decode cX1_bridge 95 = .ok (.iload_n 3, 1) := by decide +kernel
theorem dX1_bridge_96 : decode cX1_bridge 96 = .ok (.if_icmp .ge 28, 3) := by decide +kernel
theorem dX1_bridge_99 : decode cX1_bridge 99 = .ok (.aload_n 0, 1) := by decide +kernel
theorem dX1_bridge_100 : decode cX1_bridge 100 = .ok (.getfield 21, 3) := by decide +kernel
theorem dX1_bridge_103 : decode cX1_bridge 103 = .ok (.iload_n 2, 1) := by decide +kernel
theorem dX1_bridge_104 : decode cX1_bridge 104 = .ok (.iload 4, 2) := by decide +kernel
theorem dX1_bridge_106 : decode cX1_bridge 106 = .ok (.iadd, 1) := by decide +kernel
theorem dX1_bridge_107 : decode cX1_bridge 107 = .ok (.iload_n 1, 1) := by decide +kernel
theorem dX1_bridge_108 : decode cX1_bridge 108 = .ok (.iconst 1, 1) := by decide +kernel
theorem dX1_bridge_109 : decode cX1_bridge 109 = .ok (.isub, 1) := by decide +kernel
theorem dX1_bridge_110 : decode cX1_bridge 110 = .ok (.iand, 1) := by decide +kernel
theorem dX1_bridge_111 : decode cX1_bridge 111 = .ok (.aload_n 0, 1) := by decide +kernel
theorem dX1_bridge_112 : decode cX1_bridge 112 = .ok (.getfield 54, 3) := by decide +kernel
theorem dX1_bridge_115 : decode cX1_bridge 115 = .ok (.invokevirtual 265, 3) := by decide +kernel
theorem dX1_bridge_118 : decode cX1_bridge 118 = .ok (.iinc 4 1, 3) := by decide +kernel
theorem dX1_bridge_121 : decode cX1_bridge 121 = .ok (.goto (-28), 3) := by decide +kernel
theorem dX1_bridge_124 : decode cX1_bridge 124 = .ok (.return_, 1) := by decide +kernel
def FX1_bridge (G : GG) (M : DD) (a : Nat)  : Option (DD) :=
  dr G 13 ((M.2 a 7)) fun b2 =>
  chk (¬ (((2 : Int32)) < 0 ∨ G.2.2 b2 ≤ ((2 : Int32)).toNatClampNeg)) <|
  ltt (M.1 b2 ((2 : Int32)).toNatClampNeg) fun x3 =>
  ltt ((((1 : Int32)) <<< (x3 &&& 31))) fun x4 =>
  dr G 7 ((M.2 a 1)) fun b5 =>
  ltt (M.1 b5 5) fun x6 =>
  dr G 3 ((M.2 a 10)) fun b7 =>
  dr G 13 ((M.2 b7 0)) fun b8 =>
  chk (¬ (((3 : Int32)) < 0 ∨ G.2.2 b8 ≤ ((3 : Int32)).toNatClampNeg)) <|
  ltt (M.1 b8 ((3 : Int32)).toNatClampNeg) fun x9 =>
  ltt ((x9 - x6)) fun x10 =>
  ltt ((x4 - ((1 : Int32)))) fun x11 =>
  ltt ((x10 &&& x11)) fun x12 =>
  bnd (FX3_isOwn G M b7) fun y13 =>
  if y13.2 = ((0 : Int32)) then (if ((2 : Int32)) ≤ x12 then (dr G 13 ((y13.1.2 a 7)) fun b16 =>
  chk (¬ (((6 : Int32)) < 0 ∨ G.2.2 b16 ≤ ((6 : Int32)).toNatClampNeg)) <|
  ltt (y13.1.1 b16 ((6 : Int32)).toNatClampNeg) fun x17 =>
  bnd (if x17 = ((0 : Int32)) then (dr G 3 ((y13.1.2 a 10)) fun b31 =>
  dr G 13 ((y13.1.2 b31 0)) fun b32 =>
  chk (¬ (((21 : Int32)) < 0 ∨ G.2.2 b32 ≤ ((21 : Int32)).toNatClampNeg)) <|
  ltt (y13.1.1 b32 ((21 : Int32)).toNatClampNeg) fun x33 =>
  none) else
  (some (y13.1))) fun (y18 : DD) =>
  bnd (if x12 ≤ ((7 : Int32)) then (some ((1 : Int32))) else
  (ltt ((x12 - ((6 : Int32)))) fun x29 =>
  some (x29))) fun (y19 : Int32) =>
  bnd (itr (fun (s21 : DD) => ((if x12 ≤ y19 then (some (.inr (s21))) else
  (ltt ((x6 + y19)) fun x25 =>
  ltt ((x4 - ((1 : Int32)))) fun x26 =>
  ltt ((x25 &&& x26)) fun x27 =>
  none)) : Option ((DD) ⊕ (DD)))) 1000000 (y18)) fun (y20 : DD) =>
  some y20) else
  (some y13.1)) else
  (some y13.1)
set_option maxHeartbeats 4000000 in
set_option maxRecDepth 100000 in
theorem kX1_bridge (l : Launch) (D : va_G) (ct : CT) (ad : Nat → Nat) (Z : Nat → Nat) (G : GG) (M : DD) (sz : Nat) (a : Nat)  (y : DD) (hc : a < G.1) (hk : G.2.1 a = 1) (hF : FX1_bridge G M a  = some y) : Met l yX1_bridge wsX1_bridge ({ frames := 1, cells := 0, slots := 0, locals := 20 }) (va_Pc [.ref (ad a)] (kB D ct ad Z G M sz)) (va_Qv (fun (_ : Unit) => True) (fun _ t => kE D ct ad G (wA ad G sz) y t) (wA ad G sz)) 0 0 (wA ad G sz) := by
  refine Met.ofW (cc := cX1_bridge) (maxL := 5) (ret := none) (by decide) rfl ?_
  intro p e s m args below meth c s₁ B hml hv
  obtain ⟨rfl, hsz, hP, hK, hD0, hZ, hN⟩ := hv
  have hx := B.exec
  have hb := B.bytes
  have hr := B.returns
  have hts := atoms_spec (ws := wsX1_bridge) B.pre
  have hown : s.vm.findClass RX1 = some m.cls := findClass_of_methodNamed B.named
  have hlocks := B.notSynchronized
  subst hsz
  have hD := wD_self (sz := s.heap.size) hD0
  have hA9 : ∀ q, s.heap.size ≤ q → wA ad G s.heap.size q := fun q h => Or.inr h
  generalize hAe : wA ad G s.heap.size = A at hD hA9 hZ ⊢
  have hS : va_S A s.heap s.heap [] := va_S.rf
  have hl := lv_entry ([.ref (ad a)]) (n := 5) (Nat.le_of_ble_eq_true rfl)
  rw [lg_entry_eq]
  generalize (lg_sl ([.ref (ad a)]) ++ List.replicate (5 - (lg_sl ([.ref (ad a)])).length) Slot.unset).toArray = ls at hl ⊢
  have hl : lv_has ls 5 [(0, .ref (ad a))] := hl
  unfold FX1_bridge at hF
  refine lv_iconst (v := (1 : Int32)) hx hb dX1_bridge_0 (by decide) ?_
  refine lv_aload_n hx hb dX1_bridge_1 rfl (lv_at hl 0 rfl) ?_
  refine va_get (D := D) (ci := 1) (v := va_re ad (M.2 a 7)) (C := RX1) (T := TX1) (N := 22) hx hb hts (by decide +kernel) hown hK hP a (wld_o ct ad G M hc hk (by decide)) rfl 7 (by decide) (hts (.fieldLink RX1 54 "VideoSuite$Decoder" "active" "[I") (by decide +kernel)) (fun _ h9 => h9) rfl dX1_bridge_2 ?_
  refine lv_iconst (v := (2 : Int32)) hx hb dX1_bridge_5 (by decide) ?_
  obtain ⟨b2, ho2, hc2, hk2, hF⟩ := dr_some hF
  refine W_st (st' := [.int (2 : Int32), .ref (ad b2), .int (1 : Int32)]) (by rw [va_some ho2]) ?_
  obtain ⟨hvc, hF⟩ := chk_some hF
  refine va_iald hx hb hK hP b2 1 (wld_i ct ad G M hc2 hk2) rfl hvc dX1_bridge_6 ?_
  obtain ⟨x3, ex3, hF⟩ := ltt_some hF
  refine lv_topi (fun zx3 ezx3 => ?_)
  obtain rfl : x3 = zx3 := ex3.trans ezx3.symm
  refine lv_ishl hx hb dX1_bridge_7 ?_
  obtain ⟨x4, ex4, hF⟩ := ltt_some hF
  refine lv_topi (fun zx4 ezx4 => ?_)
  obtain rfl : x4 = zx4 := ex4.trans ezx4.symm
  refine lv_istore_n (lv' := [(1, .int x4), (0, .ref (ad a))]) hx hb dX1_bridge_8 rfl hl (by decide) rfl (fun ls hl => ?_)
  refine lv_aload_n hx hb dX1_bridge_9 rfl (lv_at hl 1 rfl) ?_
  refine va_get (D := D) (ci := 1) (v := va_re ad (M.2 a 1)) (C := RX1) (T := TX1) (N := 22) hx hb hts (by decide +kernel) hown hK hP a (wld_o ct ad G M hc hk (by decide)) rfl 1 (by decide) (hts (.fieldLink RX1 21 "VideoSuite$Decoder" "store" "LVideoSuite$Store;") (by decide +kernel)) (fun _ h9 => h9) rfl dX1_bridge_10 ?_
  obtain ⟨b5, ho5, hc5, hk5, hF⟩ := dr_some hF
  refine W_st (st' := [.ref (ad b5)]) (by rw [va_some ho5]) ?_
  refine va_get (D := D) (ci := 7) (v := .int (M.1 b5 5)) (C := RX7) (T := TX7) (N := 17) hx hb hts (by decide +kernel) hown hK hP b5 (wld_o ct ad G M hc5 hk5 (by decide)) rfl 5 (by decide) (hts (.fieldLink RX1 258 "VideoSuite$Store" "last" "I") (by decide +kernel)) (fun _ h9 => h9) rfl dX1_bridge_13 ?_
  obtain ⟨x6, ex6, hF⟩ := ltt_some hF
  refine lv_topi (fun zx6 ezx6 => ?_)
  obtain rfl : x6 = zx6 := ex6.trans ezx6.symm
  refine lv_istore_n (lv' := [(2, .int x6), (1, .int x4), (0, .ref (ad a))]) hx hb dX1_bridge_16 rfl hl (by decide) rfl (fun ls hl => ?_)
  refine lv_aload_n hx hb dX1_bridge_17 rfl (lv_at hl 2 rfl) ?_
  refine va_get (D := D) (ci := 1) (v := va_re ad (M.2 a 10)) (C := RX1) (T := TX1) (N := 22) hx hb hts (by decide +kernel) hown hK hP a (wld_o ct ad G M hc hk (by decide)) rfl 10 (by decide) (hts (.fieldLink RX1 68 "VideoSuite$Decoder" "head" "LVideoSuite$Header;") (by decide +kernel)) (fun _ h9 => h9) rfl dX1_bridge_18 ?_
  obtain ⟨b7, ho7, hc7, hk7, hF⟩ := dr_some hF
  refine W_st (st' := [.ref (ad b7)]) (by rw [va_some ho7]) ?_
  refine va_get (D := D) (ci := 3) (v := va_re ad (M.2 b7 0)) (C := RX3) (T := TX3) (N := 4) hx hb hts (by decide +kernel) hown hK hP b7 (wld_o ct ad G M hc7 hk7 (by decide)) rfl 0 (by decide) (hts (.fieldLink RX1 212 "VideoSuite$Header" "v" "[I") (by decide +kernel)) (fun _ h9 => h9) rfl dX1_bridge_21 ?_
  refine lv_iconst (v := (3 : Int32)) hx hb dX1_bridge_24 (by decide) ?_
  obtain ⟨b8, ho8, hc8, hk8, hF⟩ := dr_some hF
  refine W_st (st' := [.int (3 : Int32), .ref (ad b8)]) (by rw [va_some ho8]) ?_
  obtain ⟨hvc, hF⟩ := chk_some hF
  refine va_iald hx hb hK hP b8 1 (wld_i ct ad G M hc8 hk8) rfl hvc dX1_bridge_25 ?_
  obtain ⟨x9, ex9, hF⟩ := ltt_some hF
  refine lv_topi (fun zx9 ezx9 => ?_)
  obtain rfl : x9 = zx9 := ex9.trans ezx9.symm
  refine lv_iload_n hx hb dX1_bridge_26 rfl (lv_at hl 0 rfl) ?_
  refine lv_isub hx hb dX1_bridge_27 ?_
  obtain ⟨x10, ex10, hF⟩ := ltt_some hF
  refine lv_topi (fun zx10 ezx10 => ?_)
  obtain rfl : x10 = zx10 := ex10.trans ezx10.symm
  refine lv_iload_n hx hb dX1_bridge_28 rfl (lv_at hl 1 rfl) ?_
  refine lv_iconst (v := (1 : Int32)) hx hb dX1_bridge_29 (by decide) ?_
  refine lv_isub hx hb dX1_bridge_30 ?_
  obtain ⟨x11, ex11, hF⟩ := ltt_some hF
  refine lv_topi (fun zx11 ezx11 => ?_)
  obtain rfl : x11 = zx11 := ex11.trans ezx11.symm
  refine lv_iand hx hb dX1_bridge_31 ?_
  obtain ⟨x12, ex12, hF⟩ := ltt_some hF
  refine lv_topi (fun zx12 ezx12 => ?_)
  obtain rfl : x12 = zx12 := ex12.trans ezx12.symm
  refine lv_istore_n (lv' := [(3, .int x12), (2, .int x6), (1, .int x4), (0, .ref (ad a))]) hx hb dX1_bridge_32 rfl hl (by decide) rfl (fun ls hl => ?_)
  refine lv_aload_n hx hb dX1_bridge_33 rfl (lv_at hl 3 rfl) ?_
  refine va_get (D := D) (ci := 1) (v := va_re ad (M.2 a 10)) (C := RX1) (T := TX1) (N := 22) hx hb hts (by decide +kernel) hown hK hP a (wld_o ct ad G M hc hk (by decide)) rfl 10 (by decide) (hts (.fieldLink RX1 68 "VideoSuite$Decoder" "head" "LVideoSuite$Header;") (by decide +kernel)) (fun _ h9 => h9) rfl dX1_bridge_34 ?_
  refine W_st (st' := [.ref (ad b7)]) (by rw [va_some ho7]) ?_
  obtain ⟨y13, hy13, hF⟩ := bnd_some hF
  have hf9 := wA_in hD hA9 hS
  refine va_calli (va_runV (As := []) (rest := []) ⟨hx, hb, hml, hown, hts⟩ (kX3_isOwn l D ct ad Z G M s.heap.size b7 y13 hc7 hk7 hy13) (cwV 0 hts gX1_bridge_X3_isOwn rfl rfl rfl (by decide +kernel) ⟨Nat.le_of_ble_eq_true rfl, Nat.le_of_ble_eq_true rfl⟩) ⟨fun a U g mk q => by obtain ⟨q0, q1, qP, qK, qD, qZ, qN⟩ := q; exact ⟨q0, q1, qP, va_K.moved (u := U) (U := U.calling g mk a) (Vm.Alike.refl U.vm) qK, qD, sF.moved (u := U) (U := U.calling g mk a) (Vm.Alike.refl U.vm) qZ, nF.same rfl qN⟩, va_recv hK hP (ci := 3) (q0 := b7) rfl (wld_o ct ad G M hc7 hk7 (by decide)), fun U hU hW => ⟨rfl, by rw [hU], by rw [hU]; exact hP, va_K.moved hW.alike hK, hD.weaken (fun _ _ _ _ => trivial), by rw [hU]; exact ((hZ.kept hS.2.1).narrow hf9).moved hW.alike, hN.warm hW⟩⟩ rfl rfl hl.1 rfl (lv_room (Nat.le_of_ble_eq_true rfl)) dX1_bridge_37 ⟨(Nat.zero_le _), (Nat.zero_le _)⟩) hS (fun q _ h => hf9 q h) hf9 (fun r u t H locs ht hvm hw hB hz1 hk1 hS => ?_)
  obtain ⟨hP, hK9, hD9⟩ := hB
  rw [ht] at hP
  try dsimp only at hw
  subst hw
  have hD := hD9.weaken (fun _ q _ h => hf9 q.1 h)
  refine lv_if_ne (tgt := 48) hx hb dX1_bridge_40 (by decide) (fun c14 => ?_) (fun c14 => ?_)
  · rw [if_neg c14] at hF
    obtain rfl := Option.some.inj hF
    exact W.vret hx hb hr (fun t ht hW => ⟨⟨(), rfl, trivial, ⟨by rw [ht]; exact hP, va_K.moved hW.alike hK, hD⟩⟩, hS.F ht⟩) hS.2.2 dX1_bridge_48
  · rw [if_pos c14] at hF
    refine lv_iload_n hx hb dX1_bridge_43 rfl (lv_at hl 0 rfl) ?_
    refine lv_iconst (v := (2 : Int32)) hx hb dX1_bridge_44 (by decide) ?_
    refine lv_icmp_ge (tgt := 49) hx hb dX1_bridge_45 (by decide) (fun c15 => ?_) (fun c15 => ?_)
    · rw [if_pos c15] at hF
      refine lv_aload_n hx hb dX1_bridge_49 rfl (lv_at hl 3 rfl) ?_
      refine va_get (D := D) (ci := 1) (v := va_re ad (y13.1.2 a 7)) (C := RX1) (T := TX1) (N := 22) hx hb hts (by decide +kernel) hown hK hP a (wld_o ct ad G y13.1 hc hk (by decide)) rfl 7 (by decide) (hts (.fieldLink RX1 54 "VideoSuite$Decoder" "active" "[I") (by decide +kernel)) (fun _ h9 => h9) rfl dX1_bridge_50 ?_
      refine lv_bipush (v := (6 : Int32)) hx hb dX1_bridge_53 (by decide) ?_
      obtain ⟨b16, ho16, hc16, hk16, hF⟩ := dr_some hF
      refine W_st (st' := [.int (6 : Int32), .ref (ad b16)]) (by rw [va_some ho16]) ?_
      obtain ⟨hvc, hF⟩ := chk_some hF
      refine va_iald hx hb hK hP b16 1 (wld_i ct ad G y13.1 hc16 hk16) rfl hvc dX1_bridge_55 ?_
      obtain ⟨x17, ex17, hF⟩ := ltt_some hF
      refine lv_topi (fun zx17 ezx17 => ?_)
      obtain rfl : x17 = zx17 := ex17.trans ezx17.symm
      obtain ⟨y18, hy18, hF⟩ := bnd_some hF
      have J18 : ∀ (H : Heap) (locs : List Loc) (ls : Array Slot), va_P D classes (wld ct ad G y18) H → va_D A (wld ct ad G y18) → va_S A s.heap H locs → lv_has ls 5 [(3, .int x12), (2, .int x6), (1, .int x4), (0, .ref (ad a))] → W p l e (headSpec wsX1_bridge ({ frames := 1, cells := 0, slots := 0, locals := 20 })).room s m ([.ref (ad a)] : List Value).toArray below meth c H locs 0 0 (MQ below (va_Qv (fun (_ : Unit) => True) (fun _ t => kE D ct ad G A y t) A) ([.ref (ad a)] : List Value).toArray s 0 0 A) (F0 m 77 ls []) := by
        intro H locs ls hP hD hS hl
        refine lv_iload_n hx hb dX1_bridge_77 rfl (lv_at hl 0 rfl) ?_
        refine lv_bipush (v := (7 : Int32)) hx hb dX1_bridge_78 (by decide) ?_
        obtain ⟨y19, hy19, hF⟩ := bnd_some hF
        have J19 : ∀ (H : Heap) (locs : List Loc) (ls : Array Slot), va_P D classes (wld ct ad G y18) H → va_D A (wld ct ad G y18) → va_S A s.heap H locs → lv_has ls 5 [(3, .int x12), (2, .int x6), (1, .int x4), (0, .ref (ad a))] → W p l e (headSpec wsX1_bridge ({ frames := 1, cells := 0, slots := 0, locals := 20 })).room s m ([.ref (ad a)] : List Value).toArray below meth c H locs 0 0 (MQ below (va_Qv (fun (_ : Unit) => True) (fun _ t => kE D ct ad G A y t) A) ([.ref (ad a)] : List Value).toArray s 0 0 A) (F0 m 91 ls [.int y19]) := by
          intro H locs ls hP hD hS hl
          refine lv_istore (lv' := [(4, .int y19), (3, .int x12), (2, .int x6), (1, .int x4), (0, .ref (ad a))]) hx hb dX1_bridge_91 hl (by decide) rfl (fun ls hl => ?_)
          obtain ⟨y20, hy20, hF⟩ := bnd_some hF
          have K20 : ∀ (H : Heap) (locs : List Loc) (ls : Array Slot), va_P D classes (wld ct ad G y20) H → va_D A (wld ct ad G y20) → va_S A s.heap H locs → lv_has ls 5 [(4, .int y19), (3, .int x12), (2, .int x6), (1, .int x4), (0, .ref (ad a))] → W p l e (headSpec wsX1_bridge ({ frames := 1, cells := 0, slots := 0, locals := 20 })).room s m ([.ref (ad a)] : List Value).toArray below meth c H locs 0 0 (MQ below (va_Qv (fun (_ : Unit) => True) (fun _ t => kE D ct ad G A y t) A) ([.ref (ad a)] : List Value).toArray s 0 0 A) (F0 m 124 ls []) := by
            intro H locs ls hP hD hS hl
            obtain rfl := Option.some.inj hF
            exact W.vret hx hb hr (fun t ht hW => ⟨⟨(), rfl, trivial, ⟨by rw [ht]; exact hP, va_K.moved hW.alike hK, hD⟩⟩, hS.F ht⟩) hS.2.2 dX1_bridge_124
          clear hF
          refine itr_rule (fun (s21 : DD) => ∀ (H : Heap) (locs : List Loc) (ls : Array Slot), va_P D classes (wld ct ad G s21) H → va_D A (wld ct ad G s21) → va_S A s.heap H locs → lv_has ls 5 [(4, .int y19), (3, .int x12), (2, .int x6), (1, .int x4), (0, .ref (ad a))] → W p l e (headSpec wsX1_bridge ({ frames := 1, cells := 0, slots := 0, locals := 20 })).room s m ([.ref (ad a)] : List Value).toArray below meth c H locs 0 0 (MQ below (va_Qv (fun (_ : Unit) => True) (fun _ t => kE D ct ad G A y t) A) ([.ref (ad a)] : List Value).toArray s 0 0 A) (F0 m 93 ls [])) ?_ _ _ hy20 _ _ _ hP hD hS (lv_sub hl [0, 1, 2, 3, 4] rfl)
          rintro s21 ⟨z23, hF, hwz23⟩ H locs ls hP hD hS hl
          try dsimp only at hF
          refine lv_iload hx hb dX1_bridge_93 (lv_at hl 0 rfl) ?_
          refine lv_iload_n hx hb dX1_bridge_95 rfl (lv_at hl 1 rfl) ?_
          refine lv_icmp_ge (tgt := 124) hx hb dX1_bridge_96 (by decide) (fun c24 => ?_) (fun c24 => ?_)
          · rw [if_pos c24] at hF
            obtain rfl := Option.some.inj hF
            subst hwz23
            exact K20 _ _ _ hP hD hS (lv_sub hl [0, 1, 2, 3, 4] rfl)
          · rw [if_neg c24] at hF
            refine lv_aload_n hx hb dX1_bridge_99 rfl (lv_at hl 4 rfl) ?_
            refine va_get (D := D) (ci := 1) (v := va_re ad (s21.2 a 1)) (C := RX1) (T := TX1) (N := 22) hx hb hts (by decide +kernel) hown hK hP a (wld_o ct ad G s21 hc hk (by decide)) rfl 1 (by decide) (hts (.fieldLink RX1 21 "VideoSuite$Decoder" "store" "LVideoSuite$Store;") (by decide +kernel)) (fun _ h9 => h9) rfl dX1_bridge_100 ?_
            refine lv_iload_n hx hb dX1_bridge_103 rfl (lv_at hl 2 rfl) ?_
            refine lv_iload hx hb dX1_bridge_104 (lv_at hl 0 rfl) ?_
            refine lv_iadd hx hb dX1_bridge_106 ?_
            obtain ⟨x25, ex25, hF⟩ := ltt_some hF
            refine lv_topi (fun zx25 ezx25 => ?_)
            obtain rfl : x25 = zx25 := ex25.trans ezx25.symm
            refine lv_iload_n hx hb dX1_bridge_107 rfl (lv_at hl 3 rfl) ?_
            refine lv_iconst (v := (1 : Int32)) hx hb dX1_bridge_108 (by decide) ?_
            refine lv_isub hx hb dX1_bridge_109 ?_
            obtain ⟨x26, ex26, hF⟩ := ltt_some hF
            refine lv_topi (fun zx26 ezx26 => ?_)
            obtain rfl : x26 = zx26 := ex26.trans ezx26.symm
            refine lv_iand hx hb dX1_bridge_110 ?_
            obtain ⟨x27, ex27, hF⟩ := ltt_some hF
            refine lv_topi (fun zx27 ezx27 => ?_)
            obtain rfl : x27 = zx27 := ex27.trans ezx27.symm
            refine lv_aload_n hx hb dX1_bridge_111 rfl (lv_at hl 4 rfl) ?_
            refine va_get (D := D) (ci := 1) (v := va_re ad (s21.2 a 7)) (C := RX1) (T := TX1) (N := 22) hx hb hts (by decide +kernel) hown hK hP a (wld_o ct ad G s21 hc hk (by decide)) rfl 7 (by decide) (hts (.fieldLink RX1 54 "VideoSuite$Decoder" "active" "[I") (by decide +kernel)) (fun _ h9 => h9) rfl dX1_bridge_112 ?_
            cases hF
        clear hF
        have hF := hy19
        clear hy19
        refine lv_icmp_le (tgt := 90) hx hb dX1_bridge_80 (by decide) (fun c28 => ?_) (fun c28 => ?_)
        · rw [if_pos c28] at hF
          refine lv_iconst (v := (1 : Int32)) hx hb dX1_bridge_90 (by decide) ?_
          obtain rfl := Option.some.inj hF
          exact J19 _ _ _ hP hD hS (lv_sub hl [0, 1, 2, 3] rfl)
        · rw [if_neg c28] at hF
          refine lv_iload_n hx hb dX1_bridge_83 rfl (lv_at hl 0 rfl) ?_
          refine lv_bipush (v := (6 : Int32)) hx hb dX1_bridge_84 (by decide) ?_
          refine lv_isub hx hb dX1_bridge_86 ?_
          obtain ⟨x29, ex29, hF⟩ := ltt_some hF
          refine lv_topi (fun zx29 ezx29 => ?_)
          obtain rfl : x29 = zx29 := ex29.trans ezx29.symm
          refine lv_goto (tgt := 91) hx hb dX1_bridge_87 (by decide) ?_
          obtain rfl := Option.some.inj hF
          exact J19 _ _ _ hP hD hS (lv_sub hl [0, 1, 2, 3] rfl)
      clear hF
      have hF := hy18
      clear hy18
      refine lv_if_ne (tgt := 77) hx hb dX1_bridge_56 (by decide) (fun c30 => ?_) (fun c30 => ?_)
      · rw [if_neg c30] at hF
        obtain rfl := Option.some.inj hF
        exact J18 _ _ _ hP hD hS (lv_sub hl [0, 1, 2, 3] rfl)
      · rw [if_pos c30] at hF
        refine lv_aload_n hx hb dX1_bridge_59 rfl (lv_at hl 3 rfl) ?_
        refine va_get (D := D) (ci := 1) (v := va_re ad (y13.1.2 a 0)) (C := RX1) (T := TX1) (N := 22) hx hb hts (by decide +kernel) hown hK hP a (wld_o ct ad G y13.1 hc hk (by decide)) rfl 0 (by decide) (hts (.fieldLink RX1 12 "VideoSuite$Decoder" "reader" "LVideoSuite$Reader;") (by decide +kernel)) (fun _ h9 => h9) rfl dX1_bridge_60 ?_
        refine lv_iconst (v := (4 : Int32)) hx hb dX1_bridge_63 (by decide) ?_
        refine lv_aload_n hx hb dX1_bridge_64 rfl (lv_at hl 3 rfl) ?_
        refine va_get (D := D) (ci := 1) (v := va_re ad (y13.1.2 a 10)) (C := RX1) (T := TX1) (N := 22) hx hb hts (by decide +kernel) hown hK hP a (wld_o ct ad G y13.1 hc hk (by decide)) rfl 10 (by decide) (hts (.fieldLink RX1 68 "VideoSuite$Decoder" "head" "LVideoSuite$Header;") (by decide +kernel)) (fun _ h9 => h9) rfl dX1_bridge_65 ?_
        obtain ⟨b31, ho31, hc31, hk31, hF⟩ := dr_some hF
        refine W_st (st' := [.ref (ad b31), .int (4 : Int32), va_re ad (y13.1.2 a 0)]) (by rw [va_some ho31]) ?_
        refine va_get (D := D) (ci := 3) (v := va_re ad (y13.1.2 b31 0)) (C := RX3) (T := TX3) (N := 4) hx hb hts (by decide +kernel) hown hK hP b31 (wld_o ct ad G y13.1 hc31 hk31 (by decide)) rfl 0 (by decide) (hts (.fieldLink RX1 212 "VideoSuite$Header" "v" "[I") (by decide +kernel)) (fun _ h9 => h9) rfl dX1_bridge_68 ?_
        refine lv_bipush (v := (21 : Int32)) hx hb dX1_bridge_71 (by decide) ?_
        obtain ⟨b32, ho32, hc32, hk32, hF⟩ := dr_some hF
        refine W_st (st' := [.int (21 : Int32), .ref (ad b32), .int (4 : Int32), va_re ad (y13.1.2 a 0)]) (by rw [va_some ho32]) ?_
        obtain ⟨hvc, hF⟩ := chk_some hF
        refine va_iald hx hb hK hP b32 1 (wld_i ct ad G y13.1 hc32 hk32) rfl hvc dX1_bridge_73 ?_
        obtain ⟨x33, ex33, hF⟩ := ltt_some hF
        refine lv_topi (fun zx33 ezx33 => ?_)
        obtain rfl : x33 = zx33 := ex33.trans ezx33.symm
        cases hF
    · rw [if_neg c15] at hF
      obtain rfl := Option.some.inj hF
      exact W.vret hx hb hr (fun t ht hW => ⟨⟨(), rfl, trivial, ⟨by rw [ht]; exact hP, va_K.moved hW.alike hK, hD⟩⟩, hS.F ht⟩) hS.2.2 dX1_bridge_48
theorem ggX1_claim_X4_blocks : GoodIn wsX1_claim wsX4_blocks := goodIn_r _ [10, 11, 12, 71, 72, 73, 74, 75, 76, 77, 78, 79, 80, 81, 82, 83, 84, 85, 86, 87, 88] (by decide +kernel) (by decide +kernel)
set_option maxRecDepth 20000 in
theorem gX1_claim_X4_blocks : GoodIn wsX1_claim (wsV RX1 304 RX4 yX4_blocks wsX4_blocks) := goodIn_app (goodIn_of _ (by decide +kernel)) ggX1_claim_X4_blocks
set_option maxRecDepth 20000 in
theorem dX1_claim_0 : decode cX1_claim 0 = .ok (.aload_n 0, 1) := by decide +kernel
theorem dX1_claim_1 : decode cX1_claim 1 = .ok (.iconst (-1), 1) := by decide +kernel
theorem dX1_claim_2 : decode cX1_claim 2 = .ok (.putfield 130, 3) := by decide +kernel
theorem dX1_claim_5 : decode cX1_claim 5 = .ok (.iload_n 1, 1) := by decide +kernel
theorem dX1_claim_6 : decode cX1_claim 6 = .ok (.aload_n 0, 1) := by decide +kernel
theorem dX1_claim_7 : decode cX1_claim 7 = .ok (.getfield 28, 3) := by decide +kernel
theorem dX1_claim_10 : decode cX1_claim 10 = .ok (.getfield 84, 3) := by decide +kernel
theorem dX1_claim_13 : decode cX1_claim 13 = .ok (.invokevirtual 304, 3) := by decide +kernel
theorem dX1_claim_16 : decode cX1_claim 16 = .ok (.if_icmp .ge 21, 3) := by decide +kernel
theorem dX1_claim_19 : decode cX1_claim 19 = .ok (.aload_n 0, 1) := by decide +kernel
theorem dX1_claim_20 : decode cX1_claim 20 = .ok (.getfield 28, 3) := by decide +kernel
theorem dX1_claim_23 : decode cX1_claim 23 = .ok (.getfield 355, 3) := by decide +kernel
theorem dX1_claim_26 : decode cX1_claim 26 = .ok (.bipush 8, 2) := by decide +kernel
theorem dX1_claim_28 : decode cX1_claim 28 = .ok (.iload_n 1, 1) := by decide +kernel
theorem dX1_claim_29 : decode cX1_claim 29 = .ok (.imul, 1) := by decide +kernel
theorem dX1_claim_30 : decode cX1_claim 30 = .ok (.iconst 0, 1) := by decide +kernel
theorem dX1_claim_31 : decode cX1_claim 31 = .ok (.iadd, 1) := by decide +kernel
theorem dX1_claim_32 : decode cX1_claim 32 = .ok (.iaload, 1) := by decide +kernel
theorem dX1_claim_33 : decode cX1_claim 33 = .ok (.iconst (-1), 1) := by decide +kernel
theorem dX1_claim_34 : decode cX1_claim 34 = .ok (.if_icmp .eq 11, 3) := by decide +kernel
theorem dX1_claim_37 : decode cX1_claim 37 = .ok (.aload_n 0, 1) := by decide +kernel
theorem dX1_claim_38 : decode cX1_claim 38 = .ok (.getfield 12, 3) := by decide +kernel
theorem dX1_claim_41 : decode cX1_claim 41 = .ok (.iconst 4, 1) := by decide +kernel
theorem dX1_claim_42 : decode cX1_claim 42 = .ok (.invokevirtual 325, 3) := by decide +kernel
theorem dX1_claim_45 : decode cX1_claim 45 = .ok (.return_, 1) := by decide +kernel
def FX1_claim (G : GG) (M : DD) (a : Nat) (p0 : Int32) : Option (DD) :=
  ltt (uI M a 21 ((-1 : Int32))) fun M1 =>
  dr G 9 ((M1.2 a 2)) fun b2 =>
  dr G 4 ((M1.2 b2 0)) fun b3 =>
  bnd (FX4_blocks G M1 b3) fun y4 =>
  bnd (if y4.2 ≤ p0 then (none) else
  (some (y4.1))) fun (y5 : DD) =>
  dr G 9 ((y5.2 a 2)) fun b6 =>
  ltt ((((8 : Int32)) * p0)) fun x7 =>
  ltt ((x7 + ((0 : Int32)))) fun x8 =>
  dr G 13 ((y5.2 b6 6)) fun b9 =>
  chk (¬ (x8 < 0 ∨ G.2.2 b9 ≤ x8.toNatClampNeg)) <|
  ltt (y5.1 b9 x8.toNatClampNeg) fun x10 =>
  bnd (if x10 = ((-1 : Int32)) then (some (y5)) else
  (none)) fun (y11 : DD) =>
  some y11
set_option maxHeartbeats 4000000 in
set_option maxRecDepth 100000 in
theorem kX1_claim (l : Launch) (D : va_G) (ct : CT) (ad : Nat → Nat) (Z : Nat → Nat) (G : GG) (M : DD) (sz : Nat) (a : Nat) (p0 : Int32) (y : DD) (hc : a < G.1) (hk : G.2.1 a = 1) (hF : FX1_claim G M a p0 = some y) : Met l yX1_claim wsX1_claim ({ frames := 1, cells := 0, slots := 0, locals := 20 }) (va_Pc [.ref (ad a), .int p0] (kB D ct ad Z G M sz)) (va_Qv (fun (_ : Unit) => True) (fun _ t => kE D ct ad G (wA ad G sz) y t) (wA ad G sz)) 0 0 (wA ad G sz) := by
  refine Met.ofW (cc := cX1_claim) (maxL := 2) (ret := none) (by decide) rfl ?_
  intro p e s m args below meth c s₁ B hml hv
  obtain ⟨rfl, hsz, hP, hK, hD0, hZ, hN⟩ := hv
  have hx := B.exec
  have hb := B.bytes
  have hr := B.returns
  have hts := atoms_spec (ws := wsX1_claim) B.pre
  have hown : s.vm.findClass RX1 = some m.cls := findClass_of_methodNamed B.named
  have hlocks := B.notSynchronized
  subst hsz
  have hD := wD_self (sz := s.heap.size) hD0
  have hA9 : ∀ q, s.heap.size ≤ q → wA ad G s.heap.size q := fun q h => Or.inr h
  generalize hAe : wA ad G s.heap.size = A at hD hA9 hZ ⊢
  have hS : va_S A s.heap s.heap [] := va_S.rf
  have hl := lv_entry ([.ref (ad a), .int p0]) (n := 2) (Nat.le_of_ble_eq_true rfl)
  rw [lg_entry_eq]
  generalize (lg_sl ([.ref (ad a), .int p0]) ++ List.replicate (2 - (lg_sl ([.ref (ad a), .int p0])).length) Slot.unset).toArray = ls at hl ⊢
  have hl : lv_has ls 2 [(0, .ref (ad a)), (1, .int p0)] := hl
  unfold FX1_claim at hF
  refine lv_aload_n hx hb dX1_claim_0 rfl (lv_at hl 0 rfl) ?_
  refine lv_iconst (v := (-1 : Int32)) hx hb dX1_claim_1 (by decide) ?_
  refine va_put (D := D) (ci := 1) (v := .int (-1 : Int32)) (ty := .int) (C := RX1) (T := TX1) (N := 22) hx hb hts (by decide +kernel) tyX1 tyX1_ok nmX1 hown hK hP hD hS a (wld_o ct ad G M hc hk (by decide)) rfl 21 (by decide) (hts (.fieldLink RX1 130 "VideoSuite$Decoder" "current" "I") (by decide +kernel)) (fun _ h9 => h9) rfl (by decide +kernel) rfl rfl (Nat.le_of_ble_eq_true rfl) dX1_claim_2 (fun H locs hP hD hS => ?_)
  obtain ⟨M1, eM1, hF⟩ := ltt_some hF
  rw [set_oI ct ad G M hc hk (by decide) (by rfl), ← eM1] at hP hD
  refine lv_iload_n hx hb dX1_claim_5 rfl (lv_at hl 1 rfl) ?_
  refine lv_aload_n hx hb dX1_claim_6 rfl (lv_at hl 0 rfl) ?_
  refine va_get (D := D) (ci := 1) (v := va_re ad (M1.2 a 2)) (C := RX1) (T := TX1) (N := 22) hx hb hts (by decide +kernel) hown hK hP a (wld_o ct ad G M1 hc hk (by decide)) rfl 2 (by decide) (hts (.fieldLink RX1 28 "VideoSuite$Decoder" "work" "LVideoSuite$Work;") (by decide +kernel)) (fun _ h9 => h9) rfl dX1_claim_7 ?_
  obtain ⟨b2, ho2, hc2, hk2, hF⟩ := dr_some hF
  refine W_st (st' := [.ref (ad b2), .int p0]) (by rw [va_some ho2]) ?_
  refine va_get (D := D) (ci := 9) (v := va_re ad (M1.2 b2 0)) (C := RX9) (T := TX9) (N := 20) hx hb hts (by decide +kernel) hown hK hP b2 (wld_o ct ad G M1 hc2 hk2 (by decide)) rfl 0 (by decide) (hts (.fieldLink RX1 84 "VideoSuite$Work" "pic" "LVideoSuite$Picture;") (by decide +kernel)) (fun _ h9 => h9) rfl dX1_claim_10 ?_
  obtain ⟨b3, ho3, hc3, hk3, hF⟩ := dr_some hF
  refine W_st (st' := [.ref (ad b3), .int p0]) (by rw [va_some ho3]) ?_
  obtain ⟨y4, hy4, hF⟩ := bnd_some hF
  have hf9 := wA_in hD hA9 hS
  refine va_calli (va_runV (As := []) (rest := [.int p0]) ⟨hx, hb, hml, hown, hts⟩ (kX4_blocks l D ct ad Z G M1 H.size b3 y4 hc3 hk3 hy4) (cwV 0 hts gX1_claim_X4_blocks rfl rfl rfl (by decide +kernel) ⟨Nat.le_of_ble_eq_true rfl, Nat.le_of_ble_eq_true rfl⟩) ⟨fun a U g mk q => by obtain ⟨q0, q1, qP, qK, qD, qZ, qN⟩ := q; exact ⟨q0, q1, qP, va_K.moved (u := U) (U := U.calling g mk a) (Vm.Alike.refl U.vm) qK, qD, sF.moved (u := U) (U := U.calling g mk a) (Vm.Alike.refl U.vm) qZ, nF.same rfl qN⟩, va_recv hK hP (ci := 4) (q0 := b3) rfl (wld_o ct ad G M1 hc3 hk3 (by decide)), fun U hU hW => ⟨rfl, by rw [hU], by rw [hU]; exact hP, va_K.moved hW.alike hK, hD.weaken (fun _ _ _ _ => trivial), by rw [hU]; exact ((hZ.kept hS.2.1).narrow hf9).moved hW.alike, hN.warm hW⟩⟩ rfl rfl hl.1 rfl (lv_room (Nat.le_of_ble_eq_true rfl)) dX1_claim_13 ⟨(Nat.zero_le _), (Nat.zero_le _)⟩) hS (fun q _ h => hf9 q h) hf9 (fun r u t H locs ht hvm hw hB hz1 hk1 hS => ?_)
  obtain ⟨hP, hK9, hD9⟩ := hB
  rw [ht] at hP
  try dsimp only at hw
  subst hw
  have hD := hD9.weaken (fun _ q _ h => hf9 q.1 h)
  obtain ⟨y5, hy5, hF⟩ := bnd_some hF
  have J5 : ∀ (H : Heap) (locs : List Loc) (ls : Array Slot), va_P D classes (wld ct ad G y5) H → va_D A (wld ct ad G y5) → va_S A s.heap H locs → lv_has ls 2 [(0, .ref (ad a)), (1, .int p0)] → W p l e (headSpec wsX1_claim ({ frames := 1, cells := 0, slots := 0, locals := 20 })).room s m ([.ref (ad a), .int p0] : List Value).toArray below meth c H locs 0 0 (MQ below (va_Qv (fun (_ : Unit) => True) (fun _ t => kE D ct ad G A y t) A) ([.ref (ad a), .int p0] : List Value).toArray s 0 0 A) (F0 m 19 ls []) := by
    intro H locs ls hP hD hS hl
    refine lv_aload_n hx hb dX1_claim_19 rfl (lv_at hl 0 rfl) ?_
    refine va_get (D := D) (ci := 1) (v := va_re ad (y5.2 a 2)) (C := RX1) (T := TX1) (N := 22) hx hb hts (by decide +kernel) hown hK hP a (wld_o ct ad G y5 hc hk (by decide)) rfl 2 (by decide) (hts (.fieldLink RX1 28 "VideoSuite$Decoder" "work" "LVideoSuite$Work;") (by decide +kernel)) (fun _ h9 => h9) rfl dX1_claim_20 ?_
    obtain ⟨b6, ho6, hc6, hk6, hF⟩ := dr_some hF
    refine W_st (st' := [.ref (ad b6)]) (by rw [va_some ho6]) ?_
    refine va_get (D := D) (ci := 9) (v := va_re ad (y5.2 b6 6)) (C := RX9) (T := TX9) (N := 20) hx hb hts (by decide +kernel) hown hK hP b6 (wld_o ct ad G y5 hc6 hk6 (by decide)) rfl 6 (by decide) (hts (.fieldLink RX1 355 "VideoSuite$Work" "info" "[I") (by decide +kernel)) (fun _ h9 => h9) rfl dX1_claim_23 ?_
    refine lv_bipush (v := (8 : Int32)) hx hb dX1_claim_26 (by decide) ?_
    refine lv_iload_n hx hb dX1_claim_28 rfl (lv_at hl 1 rfl) ?_
    refine lv_imul hx hb dX1_claim_29 ?_
    obtain ⟨x7, ex7, hF⟩ := ltt_some hF
    refine lv_topi (fun zx7 ezx7 => ?_)
    obtain rfl : x7 = zx7 := ex7.trans ezx7.symm
    refine lv_iconst (v := (0 : Int32)) hx hb dX1_claim_30 (by decide) ?_
    refine lv_iadd hx hb dX1_claim_31 ?_
    obtain ⟨x8, ex8, hF⟩ := ltt_some hF
    refine lv_topi (fun zx8 ezx8 => ?_)
    obtain rfl : x8 = zx8 := ex8.trans ezx8.symm
    obtain ⟨b9, ho9, hc9, hk9, hF⟩ := dr_some hF
    refine W_st (st' := [.int x8, .ref (ad b9)]) (by rw [va_some ho9]) ?_
    obtain ⟨hvc, hF⟩ := chk_some hF
    refine va_iald hx hb hK hP b9 1 (wld_i ct ad G y5 hc9 hk9) rfl hvc dX1_claim_32 ?_
    obtain ⟨x10, ex10, hF⟩ := ltt_some hF
    refine lv_topi (fun zx10 ezx10 => ?_)
    obtain rfl : x10 = zx10 := ex10.trans ezx10.symm
    refine lv_iconst (v := (-1 : Int32)) hx hb dX1_claim_33 (by decide) ?_
    obtain ⟨y11, hy11, hF⟩ := bnd_some hF
    have J11 : ∀ (H : Heap) (locs : List Loc) (ls : Array Slot), va_P D classes (wld ct ad G y11) H → va_D A (wld ct ad G y11) → va_S A s.heap H locs → lv_has ls 2 [(0, .ref (ad a)), (1, .int p0)] → W p l e (headSpec wsX1_claim ({ frames := 1, cells := 0, slots := 0, locals := 20 })).room s m ([.ref (ad a), .int p0] : List Value).toArray below meth c H locs 0 0 (MQ below (va_Qv (fun (_ : Unit) => True) (fun _ t => kE D ct ad G A y t) A) ([.ref (ad a), .int p0] : List Value).toArray s 0 0 A) (F0 m 45 ls []) := by
      intro H locs ls hP hD hS hl
      obtain rfl := Option.some.inj hF
      exact W.vret hx hb hr (fun t ht hW => ⟨⟨(), rfl, trivial, ⟨by rw [ht]; exact hP, va_K.moved hW.alike hK, hD⟩⟩, hS.F ht⟩) hS.2.2 dX1_claim_45
    clear hF
    have hF := hy11
    clear hy11
    refine lv_icmp_eq (tgt := 45) hx hb dX1_claim_34 (by decide) (fun c12 => ?_) (fun c12 => ?_)
    · rw [if_pos c12] at hF
      obtain rfl := Option.some.inj hF
      exact J11 _ _ _ hP hD hS (lv_sub hl [0, 1] rfl)
    · rw [if_neg c12] at hF
      refine lv_aload_n hx hb dX1_claim_37 rfl (lv_at hl 0 rfl) ?_
      refine va_get (D := D) (ci := 1) (v := va_re ad (y5.2 a 0)) (C := RX1) (T := TX1) (N := 22) hx hb hts (by decide +kernel) hown hK hP a (wld_o ct ad G y5 hc hk (by decide)) rfl 0 (by decide) (hts (.fieldLink RX1 12 "VideoSuite$Decoder" "reader" "LVideoSuite$Reader;") (by decide +kernel)) (fun _ h9 => h9) rfl dX1_claim_38 ?_
      refine lv_iconst (v := (4 : Int32)) hx hb dX1_claim_41 (by decide) ?_
      cases hF
  clear hF
  have hF := hy5
  clear hy5
  refine lv_icmp_ge (tgt := 37) hx hb dX1_claim_16 (by decide) (fun c13 => ?_) (fun c13 => ?_)
  · rw [if_pos c13] at hF
    refine lv_aload_n hx hb dX1_claim_37 rfl (lv_at hl 0 rfl) ?_
    refine va_get (D := D) (ci := 1) (v := va_re ad (y4.1.2 a 0)) (C := RX1) (T := TX1) (N := 22) hx hb hts (by decide +kernel) hown hK hP a (wld_o ct ad G y4.1 hc hk (by decide)) rfl 0 (by decide) (hts (.fieldLink RX1 12 "VideoSuite$Decoder" "reader" "LVideoSuite$Reader;") (by decide +kernel)) (fun _ h9 => h9) rfl dX1_claim_38 ?_
    refine lv_iconst (v := (4 : Int32)) hx hb dX1_claim_41 (by decide) ?_
    cases hF
  · rw [if_neg c13] at hF
    obtain rfl := Option.some.inj hF
    exact J5 _ _ _ hP hD hS (lv_sub hl [0, 1] rfl)
