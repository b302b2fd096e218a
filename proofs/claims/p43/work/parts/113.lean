set_option maxRecDepth 20000 in
theorem gX10_rawSamples_X10_fill : GoodIn wuX10_rawSamples (wsV RX10 54 RX10 yX10_fill wuX10_fill) := gu_V mw_1192 mw_1193 mw_1194 mw_176 mw_1195
set_option maxRecDepth 20000 in
set_option maxRecDepth 20000 in
theorem gX10_rawSamples_X10_beginArith : GoodIn wuX10_rawSamples (wsV RX10 90 RX10 yX10_beginArith wuX10_beginArith) := gu_V mw_2479 mw_2481 mw_122 mw_176 mw_2482
set_option maxRecDepth 20000 in
theorem gX10_rawSamples_X10_code : GoodIn wuX10_rawSamples (wsV RX10 97 RX10 yX10_code wuX10_code) := gu_V mw_1176 mw_1141 mw_1142 mw_176 mw_1143
set_option maxRecDepth 20000 in
set_option maxRecDepth 20000 in
theorem gX10_rawSamples_X10_last : GoodIn wuX10_rawSamples (wsV RX10 93 RX10 yX10_last wuX10_last) := gu_V mw_2660 mw_2661 mw_2662 mw_176 mw_2663
set_option maxRecDepth 20000 in
theorem dX10_rawSamples_0 : decode cX10_rawSamples 0 = .ok (.aload_n 0, 1) := by decide +kernel
theorem dX10_rawSamples_1 : decode cX10_rawSamples 1 = .ok (.getfield 30, 3) := by decide +kernel
theorem dX10_rawSamples_4 : decode cX10_rawSamples 4 = .ok (.istore_n 2, 1) := by decide +kernel
theorem dX10_rawSamples_5 : decode cX10_rawSamples 5 = .ok (.iload_n 2, 1) := by decide +kernel
theorem dX10_rawSamples_6 : decode cX10_rawSamples 6 = .ok (.ifCond .eq 8, 3) := by decide +kernel
theorem dX10_rawSamples_9 : decode cX10_rawSamples 9 = .ok (.aload_n 0, 1) := by decide +kernel
theorem dX10_rawSamples_10 : decode cX10_rawSamples 10 = .ok (.iconst 1, 1) := by decide +kernel
theorem dX10_rawSamples_11 : decode cX10_rawSamples 11 = .ok (.invokevirtual 93, 3) := by decide +kernel
theorem dX10_rawSamples_14 : decode cX10_rawSamples 14 = .ok (.aload_n 0, 1) := by decide +kernel
theorem dX10_rawSamples_15 : decode cX10_rawSamples 15 = .ok (.iconst 0, 1) := by decide +kernel
theorem dX10_rawSamples_16 : decode cX10_rawSamples 16 = .ok (.invokevirtual 54, 3) := by decide +kernel
theorem dX10_rawSamples_19 : decode cX10_rawSamples 19 = .ok (.iconst 0, 1) := by decide +kernel
theorem dX10_rawSamples_20 : decode cX10_rawSamples 20 = .ok (.istore_n 3, 1) := by decide +kernel
theorem dX10_rawSamples_21 : decode cX10_rawSamples 21 = .ok (.iload_n 3, 1) := by decide +kernel
theorem dX10_rawSamples_22 : decode cX10_rawSamples 22 = .ok (.sipush 384, 3) := by decide +kernel
theorem dX10_rawSamples_25 : decode cX10_rawSamples 25 = .ok (.if_icmp .ge 26, 3) := by decide +kernel
theorem dX10_rawSamples_28 : decode cX10_rawSamples 28 = .ok (.iload_n 3, 1) := by decide +kernel
theorem dX10_rawSamples_29 : decode cX10_rawSamples 29 = .ok (.aload_n 1, 1) := by decide +kernel
theorem dX10_rawSamples_30 : decode cX10_rawSamples 30 = .ok (.arraylength, 1) := by decide +kernel
theorem dX10_rawSamples_31 : decode cX10_rawSamples 31 = .ok (.if_icmp .ge 20, 3) := by decide +kernel
theorem dX10_rawSamples_34 : decode cX10_rawSamples 34 = .ok (.aload_n 0, 1) := by decide +kernel
theorem dX10_rawSamples_35 : decode cX10_rawSamples 35 = .ok (.iconst 0, 1) := by decide +kernel
theorem dX10_rawSamples_36 : decode cX10_rawSamples 36 = .ok (.aload_n 1, 1) := by decide +kernel
theorem dX10_rawSamples_37 : decode cX10_rawSamples 37 = .ok (.iload_n 3, 1) := by decide +kernel
theorem dX10_rawSamples_38 : decode cX10_rawSamples 38 = .ok (.iaload, 1) := by decide +kernel
theorem dX10_rawSamples_39 : decode cX10_rawSamples 39 = .ok (.i2l, 1) := by decide +kernel
theorem dX10_rawSamples_40 : decode cX10_rawSamples 40 = .ok (.bipush 8, 2) := by decide +kernel
theorem dX10_rawSamples_42 : decode cX10_rawSamples 42 = .ok (.invokevirtual 97, 3) := by decide +kernel
theorem dX10_rawSamples_45 : decode cX10_rawSamples 45 = .ok (.iinc 3 1, 3) := by decide +kernel
theorem dX10_rawSamples_48 : decode cX10_rawSamples 48 = .ok (.goto (-27), 3) := by decide +kernel
theorem dX10_rawSamples_51 : decode cX10_rawSamples 51 = .ok (.iload_n 2, 1) := by decide +kernel
theorem dX10_rawSamples_52 : decode cX10_rawSamples 52 = .ok (.ifCond .eq 7, 3) := by decide +kernel
theorem dX10_rawSamples_55 : decode cX10_rawSamples 55 = .ok (.aload_n 0, 1) := by decide +kernel
theorem dX10_rawSamples_56 : decode cX10_rawSamples 56 = .ok (.invokevirtual 90, 3) := by decide +kernel
theorem dX10_rawSamples_59 : decode cX10_rawSamples 59 = .ok (.return_, 1) := by decide +kernel
noncomputable def FX10_rawSamples (G : GG) (M : DD) (a : Nat) (p0 : Option Nat) : Option (NN × DD) :=
  ltt (M.1 a 8) fun x1 =>
  bnd (if x1 = ((0 : Int32)) then (some ([], M)) else
  (chk (okd (xt G []) p0 = true) <|
  bnd (FX10_last (xt G []) M a ((1 : Int32))) fun y40 =>
  app y40.1 <|
  ltt ([] ++ y40.1) fun L43 =>
  some ([], y40.2))) fun (y2 : NN × DD) =>
  app y2.1 <|
  ltt ([] ++ y2.1) fun L4 =>
  chk (okd (xt G L4) p0 = true) <|
  bnd (FX10_fill (xt G L4) y2.2 a ((0 : Int32))) fun y6 =>
  app y6.1 <|
  ltt (L4 ++ y6.1) fun L9 =>
  bnd (itrA (fun (s13 : NN × Int32 × DD) => ((if ((384 : Int32)) ≤ s13.2.1 then (some ([], .inr ((s13.2.1, s13.2.2)))) else
  (dr (xt G s13.1) 13 p0 fun b26 =>
  ltt (Int32.ofNat ((xt G s13.1).2.2 b26)) fun x27 =>
  if x27 ≤ s13.2.1 then (some ([], .inr ((s13.2.1, s13.2.2)))) else
  (chk (¬ (s13.2.1 < 0 ∨ (xt G s13.1).2.2 b26 ≤ s13.2.1.toNatClampNeg)) <|
  ltt (s13.2.2.1 b26 s13.2.1.toNatClampNeg) fun x29 =>
  ltt (x29.toInt64) fun x30 =>
  chk (okd (xt G s13.1) p0 = true) <|
  bnd (FX10_code (xt G s13.1) s13.2.2 a ((0 : Int32)) x30 ((8 : Int32))) fun y31 =>
  app y31.1 <|
  ltt (s13.1 ++ y31.1) fun L34 =>
  ltt (s13.2.1 + (1 : Int32)) fun x37 =>
  some ([], .inl (L34, (x37, y31.2)))))) : Option (NN × ((NN × Int32 × DD) ⊕ (Int32 × DD))))) 1000000 (L9, ((0 : Int32), y6.2))) fun (y12 : NN × Int32 × DD) =>
  app y12.1 <|
  ltt (L9 ++ y12.1) fun L15 =>
  bnd (if x1 = ((0 : Int32)) then (some (y12.2.2)) else
  (bnd (FX10_beginArith (xt G L15) y12.2.2 a) fun y19 =>
  some (y19))) fun (y17 : DD) =>
  some ([], y17)
set_option maxHeartbeats 4000000 in
set_option maxRecDepth 100000 in
theorem kX10_rawSamples (l : Launch) (D : va_G) (ct : CT) (ad : Nat → Nat) (Z : Nat → Nat) (G : GG) (M : DD) (sz : Nat) (a : Nat) (p0 : Option Nat) (y : NN × DD) (hc : a < G.1) (hk : G.2.1 a = 10) (hF : FX10_rawSamples G M a p0 = some y) : Met l yX10_rawSamples wuX10_rawSamples ({ frames := 5, cells := y.1.length, slots := wt y.1, locals := 175 }) (va_Pc [.ref (ad a), va_re ad p0] (kB D ct ad Z G M sz)) (va_Qv (fun (u : Nat → Nat) => agr G.1 ad u) (fun u t => kE D ct u (xt G y.1) (wA ad G sz) y.2 t) (wA ad G sz)) y.1.length (wt y.1) (wA ad G sz) := by
  refine Met.ofW (cc := cX10_rawSamples) (maxL := 4) (ret := none) (by decide) rfl ?_
  intro p e s m args below meth c s₁ B hml hv
  obtain ⟨rfl, hsz, hP, hK, hD0, hZ, hN⟩ := hv
  have hx := B.exec
  have hb := B.bytes
  have hr := B.returns
  have hts := atoms_spec (ws := wuX10_rawSamples) B.pre
  have hown : s.vm.findClass RX10 = some m.cls := findClass_of_methodNamed B.named
  have hlocks := B.notSynchronized
  subst hsz
  have hD := wD_self (sz := s.heap.size) hD0
  have hA9 : ∀ q, s.heap.size ≤ q → wA ad G s.heap.size q := fun q h => Or.inr h
  generalize hAe : wA ad G s.heap.size = A at hD hA9 hZ ⊢
  have hS : va_S A s.heap s.heap [] := va_S.rf
  have hl := lv_entry ([.ref (ad a), va_re ad p0]) (n := 4) (by cases p0 <;> exact Nat.le_of_ble_eq_true rfl)
  rw [lg_entry_eq]
  generalize (lg_sl ([.ref (ad a), va_re ad p0]) ++ List.replicate (4 - (lg_sl ([.ref (ad a), va_re ad p0])).length) Slot.unset).toArray = ls at hl ⊢
  have hl : lv_has ls 4 [(0, .ref (ad a)), (1, va_re ad p0)] := by have e9 : lv_args 0 [.ref (ad a), va_re ad p0] = [(0, .ref (ad a)), (1, va_re ad p0)] := (by cases p0 <;> rfl); rw [e9] at hl; exact hl
  unfold FX10_rawSamples at hF
  rw [← wld_0 ct ad G M] at hP hD
  have hk := xt_k0 hc hk
  have hc := xt_l0 hc
  have hag := agr_rf G.1 ad
  obtain ⟨w0, hw0⟩ : ∃ z, z = y := ⟨_, rfl⟩
  rw [← hw0] at hF
  have hT : y.1 = [] ++ w0.1 := by rw [hw0]; rfl
  have h2 : y.2 = w0.2 := by rw [hw0]
  have hbl : y.1.length ≤ y.1.length ∧ wt y.1 ≤ wt y.1 := ⟨Nat.le_refl _, Nat.le_refl _⟩
  refine lv_aload_n hx hb dX10_rawSamples_0 rfl (lv_at hl 0 rfl) ?_
  refine va_get (D := D) (ci := 10) (v := .int (M.1 a 8)) (C := RX10) (T := TX10) (N := 20) hx hb hts (mus hf_X10) hown hK hP a (wld_o ct ad (xt G []) M hc hk (by decide)) rfl 8 (by decide) (hts (.fieldLink RX10 30 "VideoSuite$Writer" "arith" "Z") (mu mw_747)) (fun _ h9 => h9) rfl dX10_rawSamples_1 ?_
  obtain ⟨x1, ex1, hF⟩ := ltt_some hF
  refine lv_topi (fun zx1 ezx1 => ?_)
  obtain rfl : x1 = zx1 := ex1.trans ezx1.symm
  refine lv_istore_n (lv' := [(2, .int x1), (0, .ref (ad a)), (1, va_re ad p0)]) hx hb dX10_rawSamples_4 rfl hl (by decide) (by generalize p0 = o9; cases o9 <;> rfl) (fun ls hl => ?_)
  refine lv_iload_n hx hb dX10_rawSamples_5 rfl (lv_at hl 0 rfl) ?_
  obtain ⟨y2, hy2, hF⟩ := bnd_some hF
  obtain ⟨w3, hF, ew3⟩ := app_some hF
  obtain ⟨L4, eL4, hF⟩ := ltt_some hF
  have hT4 : y.1 = ([] ++ y2.1) ++ w3.1 := by rw [hT, ew3]; simp only [List.append_assoc]
  have hbl4 : L4.length ≤ y.1.length ∧ wt L4 ≤ wt y.1 := by rw [eL4]; exact room_d hT4 hbl
  have J2 : ∀ (ad5 : Nat → Nat), agr G.1 ad ad5 → ∀ (H : Heap) (locs : List Loc) (ls : Array Slot), va_P D classes (wld ct ad5 (xt G L4) y2.2) H → va_D A (wld ct ad5 (xt G L4) y2.2) → va_S A s.heap H locs → lv_has ls 4 [(2, .int x1), (0, .ref (ad5 a)), (1, va_re ad5 p0)] → W p l e (headSpec wuX10_rawSamples ({ frames := 5, cells := y.1.length, slots := wt y.1, locals := 175 })).room s m ([.ref (ad a), va_re ad p0] : List Value).toArray below meth c H locs (L4 : NN).length (wt L4) (MQ below (va_Qv (fun (u : Nat → Nat) => agr G.1 ad u) (fun u t => kE D ct u (xt G y.1) A y.2 t) A) ([.ref (ad a), va_re ad p0] : List Value).toArray s y.1.length (wt y.1) A) (F0 m 14 ls []) := by
    intro ad5 hag H locs ls hP hD hS hl
    have hT : y.1 = L4 ++ w3.1 := by rw [hT4, eL4]
    have h2 : y.2 = w3.2 := by rw [h2, ew3]
    have hk : (xt G L4).2.1 a = 10 := by rw [eL4]; exact xt_k _ hc hk
    have hc : a < (xt G L4).1 := by rw [eL4]; exact xt_l _ hc
    refine lv_aload_n hx hb dX10_rawSamples_14 rfl (lv_at hl 1 rfl) ?_
    refine lv_iconst (v := (0 : Int32)) hx hb dX10_rawSamples_15 (by decide) ?_
    obtain ⟨hq7, hF⟩ := chk_some hF
    obtain ⟨y6, hy6, hF⟩ := bnd_some hF
    obtain ⟨w8, hF, ew8⟩ := app_some hF
    obtain ⟨L9, eL9, hF⟩ := ltt_some hF
    have hT9 : y.1 = (L4 ++ y6.1) ++ w8.1 := by rw [hT, ew8]; simp only [List.append_assoc]
    have hf9 := wA_in hD hA9 hS
    refine va_callv (va_runV (As := [.int (0 : Int32)]) (rest := []) ⟨hx, hb, hml, hown, hts⟩ (kX10_fill l D ct ad5 Z (xt G L4) y2.2 _ a ((0 : Int32)) y6 hc hk hy6) (cwV 1 hts gX10_rawSamples_X10_fill rfl rfl rfl (by decide +kernel) ⟨Nat.le_of_ble_eq_true rfl, Nat.le_of_ble_eq_true rfl⟩) ⟨fun a U g mk q => by obtain ⟨q0, q1, qP, qK, qD, qZ, qN⟩ := q; exact ⟨q0, q1, qP, va_K.moved (u := U) (U := U.calling g mk a) (Vm.Alike.refl U.vm) qK, qD, sF.moved (u := U) (U := U.calling g mk a) (Vm.Alike.refl U.vm) qZ, nF.same rfl qN⟩, va_recv hK hP (ci := 10) (q0 := a) rfl (wld_o ct ad5 (xt G L4) y2.2 hc hk (by decide)), fun U hU hW => ⟨rfl, by rw [hU], by rw [hU]; exact hP, va_K.moved hW.alike hK, hD.weaken (fun _ _ _ _ => trivial), by rw [hU]; exact ((hZ.kept hS.2.1).narrow hf9).moved hW.alike, hN.warm hW⟩⟩ rfl rfl hl.1 rfl (lv_room (Nat.le_of_ble_eq_true rfl)) dX10_rawSamples_16 (room_s hT9 hbl)) hS (fun q _ h => hf9 q h) hf9 (fun ad10 t H locs ht hvm hw hB hz1 hk1 hS => ?_)
    have hn11 := hw
    obtain ⟨hP, hK9, hD9⟩ := hB
    rw [ht] at hP
    have hD := hD9.weaken (fun _ q _ h => hf9 q.1 h)
    rw [xt_xt, ← eL9] at hP hD
    refine W_cs (k := L9.length) (n := wt L9) (by rw [eL9]; exact (len_s L4 y6.1).symm) (by rw [eL9]; exact (wt_app L4 y6.1).symm) ?_
    have hT : y.1 = L9 ++ w8.1 := by rw [hT9, eL9]
    have h2 : y.2 = w8.2 := by rw [h2, ew8]
    have hl := lv_sub (l' := [(2, .int x1), (0, .ref (ad5 a)), (1, va_re ad5 p0)]) hl [0, 1, 2] rfl
    have e9 : ([(2, .int x1), (0, .ref (ad5 a)), (1, va_re ad5 p0)] : List (Nat × Value)) = [(2, .int x1), (0, .ref (ad10 a)), (1, va_re ad10 p0)] := (by first | rfl | simp only [hn11 a hc, agr_re hn11 hq7])
    rw [e9] at hl
    clear e9
    have hk : (xt G L9).2.1 a = 10 := by rw [eL9]; exact xt_k _ hc hk
    have hc : a < (xt G L9).1 := by rw [eL9]; exact xt_l _ hc
    have hag := agr_t (xt_ge _ _) hag hn11
    refine lv_iconst (v := (0 : Int32)) hx hb dX10_rawSamples_19 (by decide) ?_
    refine lv_istore_n (lv' := [(3, .int (0 : Int32)), (2, .int x1), (0, .ref (ad10 a)), (1, va_re ad10 p0)]) hx hb dX10_rawSamples_20 rfl hl (by decide) rfl (fun ls hl => ?_)
    obtain ⟨y12, hy12, hF⟩ := bnd_some hF
    obtain ⟨w14, hF, ew14⟩ := app_some hF
    obtain ⟨L15, eL15, hF⟩ := ltt_some hF
    have hT15 : y.1 = (L9 ++ y12.1) ++ w14.1 := by rw [hT, ew14]; simp only [List.append_assoc]
    have hbl15 : L15.length ≤ y.1.length ∧ wt L15 ≤ wt y.1 := by rw [eL15]; exact room_d hT15 hbl
    have K12 : ∀ (ad16 : Nat → Nat), agr G.1 ad ad16 → ∀ (H : Heap) (locs : List Loc) (ls : Array Slot), va_P D classes (wld ct ad16 (xt G L15) y12.2.2) H → va_D A (wld ct ad16 (xt G L15) y12.2.2) → va_S A s.heap H locs → lv_has ls 4 [(2, .int x1), (0, .ref (ad16 a))] → W p l e (headSpec wuX10_rawSamples ({ frames := 5, cells := y.1.length, slots := wt y.1, locals := 175 })).room s m ([.ref (ad a), va_re ad p0] : List Value).toArray below meth c H locs (L15 : NN).length (wt L15) (MQ below (va_Qv (fun (u : Nat → Nat) => agr G.1 ad u) (fun u t => kE D ct u (xt G y.1) A y.2 t) A) ([.ref (ad a), va_re ad p0] : List Value).toArray s y.1.length (wt y.1) A) (F0 m 51 ls []) := by
      intro ad16 hag H locs ls hP hD hS hl
      have hT : y.1 = L15 ++ w14.1 := by rw [hT15, eL15]
      have h2 : y.2 = w14.2 := by rw [h2, ew14]
      have hk : (xt G L15).2.1 a = 10 := by rw [eL15]; exact xt_k _ hc hk
      have hc : a < (xt G L15).1 := by rw [eL15]; exact xt_l _ hc
      refine lv_iload_n hx hb dX10_rawSamples_51 rfl (lv_at hl 0 rfl) ?_
      obtain ⟨y17, hy17, hF⟩ := bnd_some hF
      have J17 : ∀ (H : Heap) (locs : List Loc) (ls : Array Slot), va_P D classes (wld ct ad16 (xt G L15) y17) H → va_D A (wld ct ad16 (xt G L15) y17) → va_S A s.heap H locs → lv_has ls 4 [(2, .int x1), (0, .ref (ad16 a))] → W p l e (headSpec wuX10_rawSamples ({ frames := 5, cells := y.1.length, slots := wt y.1, locals := 175 })).room s m ([.ref (ad a), va_re ad p0] : List Value).toArray below meth c H locs (L15 : NN).length (wt L15) (MQ below (va_Qv (fun (u : Nat → Nat) => agr G.1 ad u) (fun u t => kE D ct u (xt G y.1) A y.2 t) A) ([.ref (ad a), va_re ad p0] : List Value).toArray s y.1.length (wt y.1) A) (F0 m 59 ls []) := by
        intro H locs ls hP hD hS hl
        obtain rfl := Option.some.inj hF
        have e1 : y.1 = L15 := by rw [hT]; exact List.append_nil _
        have e2 : y.2 = y17 := h2
        refine W.widen (k := y.1.length) (n := wt y.1) (Nat.le_of_eq (by rw [e1])) (Nat.le_of_eq (by rw [e1])) ?_
        exact W.vret hx hb hr (fun t ht hW => ⟨⟨ad16, rfl, hag, (by unfold kE; rw [e1, e2]; exact ⟨by rw [ht]; exact hP, va_K.moved hW.alike hK, hD⟩)⟩, hS.F ht⟩) hS.2.2 dX10_rawSamples_59
      clear hF
      have hF := hy17
      clear hy17
      refine lv_if_eq (tgt := 59) hx hb dX10_rawSamples_52 (by decide) (fun c18 => ?_) (fun c18 => ?_)
      · rw [if_pos c18] at hF
        obtain rfl := Option.some.inj hF
        exact J17 _ _ _ hP hD hS (lv_sub hl [0, 1] rfl)
      · rw [if_neg c18] at hF
        refine lv_aload_n hx hb dX10_rawSamples_55 rfl (lv_at hl 1 rfl) ?_
        obtain ⟨y19, hy19, hF⟩ := bnd_some hF
        have hf9 := wA_in hD hA9 hS
        refine va_callv (va_runV (As := []) (rest := []) ⟨hx, hb, hml, hown, hts⟩ (kX10_beginArith l D ct ad16 Z (xt G L15) y12.2.2 H.size a y19 hc hk hy19) (cwV 0 hts gX10_rawSamples_X10_beginArith rfl rfl rfl (by decide +kernel) ⟨Nat.le_of_ble_eq_true rfl, Nat.le_of_ble_eq_true rfl⟩) ⟨fun a U g mk q => by obtain ⟨q0, q1, qP, qK, qD, qZ, qN⟩ := q; exact ⟨q0, q1, qP, va_K.moved (u := U) (U := U.calling g mk a) (Vm.Alike.refl U.vm) qK, qD, sF.moved (u := U) (U := U.calling g mk a) (Vm.Alike.refl U.vm) qZ, nF.same rfl qN⟩, va_recv hK hP (ci := 10) (q0 := a) rfl (wld_o ct ad16 (xt G L15) y12.2.2 hc hk (by decide)), fun U hU hW => ⟨rfl, by rw [hU], by rw [hU]; exact hP, va_K.moved hW.alike hK, hD.weaken (fun _ _ _ _ => trivial), by rw [hU]; exact ((hZ.kept hS.2.1).narrow hf9).moved hW.alike, hN.warm hW⟩⟩ rfl rfl hl.1 rfl (lv_room (Nat.le_of_ble_eq_true rfl)) dX10_rawSamples_56 (room_d hT hbl)) hS (fun q _ h => hf9 q h) hf9 (fun u t H locs ht hvm hw hB hz1 hk1 hS => ?_)
        obtain ⟨hP, hK9, hD9⟩ := hB
        rw [ht] at hP
        refine W_cs (k := (L15 : NN).length) (n := wt L15) rfl rfl ?_
        have hD := hD9.weaken (fun _ q _ h => hf9 q.1 h)
        obtain rfl := Option.some.inj hF
        exact J17 _ _ _ hP hD hS (lv_sub hl [0, 1] rfl)
    clear hF
    refine itrA_rule (fun (s13 : NN × Int32 × DD) (r21 : NN) => (∃ t, s13.1 = L9 ++ t) → L15 = s13.1 ++ r21 → ∀ (ad20 : Nat → Nat), agr G.1 ad ad20 → ∀ (H : Heap) (locs : List Loc) (ls : Array Slot), va_P D classes (wld ct ad20 (xt G s13.1) s13.2.2) H → va_D A (wld ct ad20 (xt G s13.1) s13.2.2) → va_S A s.heap H locs → lv_has ls 4 [(3, .int s13.2.1), (2, .int x1), (0, .ref (ad20 a)), (1, va_re ad20 p0)] → W p l e (headSpec wuX10_rawSamples ({ frames := 5, cells := y.1.length, slots := wt y.1, locals := 175 })).room s m ([.ref (ad a), va_re ad p0] : List Value).toArray below meth c H locs (s13.1 : NN).length (wt s13.1) (MQ below (va_Qv (fun (u : Nat → Nat) => agr G.1 ad u) (fun u t => kE D ct u (xt G y.1) A y.2 t) A) ([.ref (ad a), va_re ad p0] : List Value).toArray s y.1.length (wt y.1) A) (F0 m 21 ls [])) ?_ _ _ _ hy12 ⟨[], (List.append_nil _).symm⟩ eL15 _ hag _ _ _ hP hD hS (lv_sub hl [0, 1, 2, 3] rfl)
    rintro s13 r21 ⟨z22, hF, ⟨t12, et12⟩, hwz22⟩ ⟨u12, eu12⟩ eq12 ad20 hag H locs ls hP hD hS hl
    try dsimp only at hF
    obtain ⟨L23, eL23⟩ : ∃ x, x = s13.1 ++ z22.1 := ⟨_, rfl⟩
    obtain ⟨w24, hw24⟩ : ∃ x, x = z22 := ⟨_, rfl⟩
    rw [← hw24] at hF
    have hbl : L23.length ≤ y.1.length ∧ wt L23 ≤ wt y.1 := room_d (show L15 = L23 ++ t12 by rw [eq12, et12, eL23]; simp only [List.append_assoc]) hbl15
    have hT : L23 = s13.1 ++ w24.1 := by rw [eL23, hw24]
    have h2 : z22.2 = w24.2 := by rw [hw24]
    have hk : (xt G s13.1).2.1 a = 10 := by rw [eu12]; exact xt_k _ hc hk
    have hc : a < (xt G s13.1).1 := by rw [eu12]; exact xt_l _ hc
    refine lv_iload_n hx hb dX10_rawSamples_21 rfl (lv_at hl 0 rfl) ?_
    refine lv_sipush (v := (384 : Int32)) hx hb dX10_rawSamples_22 (by decide) ?_
    refine lv_icmp_ge (tgt := 51) hx hb dX10_rawSamples_25 (by decide) (fun c25 => ?_) (fun c25 => ?_)
    · rw [if_pos c25] at hF
      obtain rfl := Option.some.inj hF
      have e1 : L23 = s13.1 := by rw [hT]; exact List.append_nil _
      have e2 : z22.2 = .inr ((s13.2.1, s13.2.2)) := h2
      rw [e2] at hwz22
      obtain ⟨hw1, hw2⟩ := hwz22
      have e8 : L15 = s13.1 := by rw [eq12, hw2, ← eL23, e1]
      rw [e8] at K12
      try rw [← hw1] at K12
      exact K12 _ hag _ _ _ hP hD hS (lv_sub hl [1, 2] rfl)
    · rw [if_neg c25] at hF
      refine lv_iload_n hx hb dX10_rawSamples_28 rfl (lv_at hl 0 rfl) ?_
      refine lv_aloadq_n hx hb dX10_rawSamples_29 rfl (lv_at hl 3 rfl) ?_
      obtain ⟨b26, ho26, hc26, hk26, hF⟩ := dr_some hF
      refine W_st (st' := [.ref (ad20 b26), .int s13.2.1]) (by rw [va_some ho26]) ?_
      refine va_alen (v := Int32.ofNat ((xt G s13.1).2.2 b26)) hx hb hK hP b26 1 (wld_i ct ad20 (xt G s13.1) s13.2.2 hc26 hk26) rfl rfl dX10_rawSamples_30 ?_
      obtain ⟨x27, ex27, hF⟩ := ltt_some hF
      refine lv_topi (fun zx27 ezx27 => ?_)
      obtain rfl : x27 = zx27 := ex27.trans ezx27.symm
      refine lv_icmp_ge (tgt := 51) hx hb dX10_rawSamples_31 (by decide) (fun c28 => ?_) (fun c28 => ?_)
      · rw [if_pos c28] at hF
        obtain rfl := Option.some.inj hF
        have e1 : L23 = s13.1 := by rw [hT]; exact List.append_nil _
        have e2 : z22.2 = .inr ((s13.2.1, s13.2.2)) := h2
        rw [e2] at hwz22
        obtain ⟨hw1, hw2⟩ := hwz22
        have e8 : L15 = s13.1 := by rw [eq12, hw2, ← eL23, e1]
        rw [e8] at K12
        try rw [← hw1] at K12
        exact K12 _ hag _ _ _ hP hD hS (lv_sub hl [1, 2] rfl)
      · rw [if_neg c28] at hF
        refine lv_aload_n hx hb dX10_rawSamples_34 rfl (lv_at hl 2 rfl) ?_
        refine lv_iconst (v := (0 : Int32)) hx hb dX10_rawSamples_35 (by decide) ?_
        refine lv_aloadq_n hx hb dX10_rawSamples_36 rfl (lv_at hl 3 rfl) ?_
        refine lv_iload_n hx hb dX10_rawSamples_37 rfl (lv_at hl 0 rfl) ?_
        refine W_st (st' := [.int s13.2.1, .ref (ad20 b26), .int (0 : Int32), .ref (ad20 a)]) (by rw [va_some ho26]) ?_
        obtain ⟨hvc, hF⟩ := chk_some hF
        refine va_iald hx hb hK hP b26 1 (wld_i ct ad20 (xt G s13.1) s13.2.2 hc26 hk26) rfl hvc dX10_rawSamples_38 ?_
        obtain ⟨x29, ex29, hF⟩ := ltt_some hF
        refine lv_topi (fun zx29 ezx29 => ?_)
        obtain rfl : x29 = zx29 := ex29.trans ezx29.symm
        refine lv_i2l (v := x29.toInt64) hx hb dX10_rawSamples_39 rfl ?_
        obtain ⟨x30, ex30, hF⟩ := ltt_some hF
        refine lv_topl (fun zx30 ezx30 => ?_)
        obtain rfl : x30 = zx30 := ex30.trans ezx30.symm
        refine lv_bipush (v := (8 : Int32)) hx hb dX10_rawSamples_40 (by decide) ?_
        obtain ⟨hq32, hF⟩ := chk_some hF
        obtain ⟨y31, hy31, hF⟩ := bnd_some hF
        obtain ⟨w33, hF, ew33⟩ := app_some hF
        obtain ⟨L34, eL34, hF⟩ := ltt_some hF
        have hT34 : L23 = (s13.1 ++ y31.1) ++ w33.1 := by rw [hT, ew33]; simp only [List.append_assoc]
        have hf9 := wA_in hD hA9 hS
        refine va_callv (va_runV (As := [.int (0 : Int32), .long x30, .int (8 : Int32)]) (rest := []) ⟨hx, hb, hml, hown, hts⟩ (kX10_code l D ct ad20 Z (xt G s13.1) s13.2.2 _ a ((0 : Int32)) x30 ((8 : Int32)) y31 hc hk hy31) (cwV 3 hts gX10_rawSamples_X10_code rfl rfl rfl (by decide +kernel) ⟨Nat.le_of_ble_eq_true rfl, Nat.le_of_ble_eq_true rfl⟩) ⟨fun a U g mk q => by obtain ⟨q0, q1, qP, qK, qD, qZ, qN⟩ := q; exact ⟨q0, q1, qP, va_K.moved (u := U) (U := U.calling g mk a) (Vm.Alike.refl U.vm) qK, qD, sF.moved (u := U) (U := U.calling g mk a) (Vm.Alike.refl U.vm) qZ, nF.same rfl qN⟩, va_recv hK hP (ci := 10) (q0 := a) rfl (wld_o ct ad20 (xt G s13.1) s13.2.2 hc hk (by decide)), fun U hU hW => ⟨rfl, by rw [hU], by rw [hU]; exact hP, va_K.moved hW.alike hK, hD.weaken (fun _ _ _ _ => trivial), by rw [hU]; exact ((hZ.kept hS.2.1).narrow hf9).moved hW.alike, hN.warm hW⟩⟩ rfl rfl hl.1 rfl (lv_room (Nat.le_of_ble_eq_true rfl)) dX10_rawSamples_42 (room_s hT34 hbl)) hS (fun q _ h => hf9 q h) hf9 (fun ad35 t H locs ht hvm hw hB hz1 hk1 hS => ?_)
        have hn36 := hw
        obtain ⟨hP, hK9, hD9⟩ := hB
        rw [ht] at hP
        have hD := hD9.weaken (fun _ q _ h => hf9 q.1 h)
        rw [xt_xt, ← eL34] at hP hD
        refine W_cs (k := L34.length) (n := wt L34) (by rw [eL34]; exact (len_s s13.1 y31.1).symm) (by rw [eL34]; exact (wt_app s13.1 y31.1).symm) ?_
        have hT : L23 = L34 ++ w33.1 := by rw [hT34, eL34]
        have h2 : z22.2 = w33.2 := by rw [h2, ew33]
        have hl := lv_sub (l' := [(3, .int s13.2.1), (2, .int x1), (0, .ref (ad20 a)), (1, va_re ad20 p0)]) hl [0, 1, 2, 3] rfl
        have e9 : ([(3, .int s13.2.1), (2, .int x1), (0, .ref (ad20 a)), (1, va_re ad20 p0)] : List (Nat × Value)) = [(3, .int s13.2.1), (2, .int x1), (0, .ref (ad35 a)), (1, va_re ad35 p0)] := (by first | rfl | simp only [hn36 a hc, agr_re hn36 hq32])
        rw [e9] at hl
        clear e9
        have hk : (xt G L34).2.1 a = 10 := by rw [eL34]; exact xt_k _ hc hk
        have hc : a < (xt G L34).1 := by rw [eL34]; exact xt_l _ hc
        have hk26 : (xt G L34).2.1 b26 = 13 := by rw [eL34]; exact xt_k _ hc26 hk26
        have hc26 : b26 < (xt G L34).1 := by rw [eL34]; exact xt_l _ hc26
        have hag := agr_t (xt_ge _ _) hag hn36
        obtain ⟨x37, ex37, hF⟩ := ltt_some hF
        refine lv_iinc (v := x37) (lv' := [(3, .int x37), (2, .int x1), (0, .ref (ad35 a)), (1, va_re ad35 p0)]) hx hb dX10_rawSamples_45 hl (k := 0) rfl (by rw [ex37]; rfl) (by decide) rfl (fun ls hl => ?_)
        refine lv_goto (tgt := 21) hx hb dX10_rawSamples_48 (by decide) ?_
        obtain rfl := Option.some.inj hF
        have e1 : L23 = L34 := by rw [hT]; exact List.append_nil _
        have e2 : z22.2 = .inl (L34, (x37, y31.2)) := h2
        rw [e2] at hwz22
        obtain ⟨r2, er2, hwz22⟩ := hwz22
        exact hwz22 ⟨u12 ++ z22.1, by show L34 = _; rw [← e1, eL23, eu12]; simp only [List.append_assoc]⟩ (by show L15 = L34 ++ r2; rw [eq12, er2, ← e1, eL23]; simp only [List.append_assoc]) _ hag _ _ _ hP hD hS (lv_sub hl [0, 1, 2, 3] rfl)
  clear hF
  obtain ⟨w38, hw38⟩ : ∃ z, z = y2 := ⟨_, rfl⟩
  have hF := hy2
  rw [← hw38] at hF
  clear hy2
  have hT : L4 = [] ++ w38.1 := by rw [eL4, hw38]
  have h2 : y2.2 = w38.2 := by rw [hw38]
  have hbl := hbl4
  refine lv_if_eq (tgt := 14) hx hb dX10_rawSamples_6 (by decide) (fun c39 => ?_) (fun c39 => ?_)
  · rw [if_pos c39] at hF
    obtain rfl := Option.some.inj hF
    have e1 : L4 = [] := by rw [hT]; exact List.append_nil _
    have e2 : y2.2 = M := h2
    rw [e1] at J2
    try rw [e2] at J2
    exact J2 _ hag _ _ _ hP hD hS (lv_sub hl [0, 1, 2] rfl)
  · rw [if_neg c39] at hF
    refine lv_aload_n hx hb dX10_rawSamples_9 rfl (lv_at hl 1 rfl) ?_
    refine lv_iconst (v := (1 : Int32)) hx hb dX10_rawSamples_10 (by decide) ?_
    obtain ⟨hq41, hF⟩ := chk_some hF
    obtain ⟨y40, hy40, hF⟩ := bnd_some hF
    obtain ⟨w42, hF, ew42⟩ := app_some hF
    obtain ⟨L43, eL43, hF⟩ := ltt_some hF
    have hT43 : L4 = ([] ++ y40.1) ++ w42.1 := by rw [hT, ew42]; simp only [List.append_assoc]
    have hf9 := wA_in hD hA9 hS
    refine va_callv (va_runV (As := [.int (1 : Int32)]) (rest := []) ⟨hx, hb, hml, hown, hts⟩ (kX10_last l D ct ad Z (xt G []) M _ a ((1 : Int32)) y40 hc hk hy40) (cwV 1 hts gX10_rawSamples_X10_last rfl rfl rfl (by decide +kernel) ⟨Nat.le_of_ble_eq_true rfl, Nat.le_of_ble_eq_true rfl⟩) ⟨fun a U g mk q => by obtain ⟨q0, q1, qP, qK, qD, qZ, qN⟩ := q; exact ⟨q0, q1, qP, va_K.moved (u := U) (U := U.calling g mk a) (Vm.Alike.refl U.vm) qK, qD, sF.moved (u := U) (U := U.calling g mk a) (Vm.Alike.refl U.vm) qZ, nF.same rfl qN⟩, va_recv hK hP (ci := 10) (q0 := a) rfl (wld_o ct ad (xt G []) M hc hk (by decide)), fun U hU hW => ⟨rfl, by rw [hU], by rw [hU]; exact hP, va_K.moved hW.alike hK, hD.weaken (fun _ _ _ _ => trivial), by rw [hU]; exact ((hZ.kept hS.2.1).narrow hf9).moved hW.alike, hN.warm hW⟩⟩ rfl rfl hl.1 rfl (lv_room (Nat.le_of_ble_eq_true rfl)) dX10_rawSamples_11 (room_s hT43 hbl)) hS (fun q _ h => hf9 q h) hf9 (fun ad44 t H locs ht hvm hw hB hz1 hk1 hS => ?_)
    have hn45 := hw
    obtain ⟨hP, hK9, hD9⟩ := hB
    rw [ht] at hP
    have hD := hD9.weaken (fun _ q _ h => hf9 q.1 h)
    rw [xt_xt, ← eL43] at hP hD
    refine W_cs (k := L43.length) (n := wt L43) (by rw [eL43]; exact (len_s [] y40.1).symm) (by rw [eL43]; exact (wt_app [] y40.1).symm) ?_
    have hT : L4 = L43 ++ w42.1 := by rw [hT43, eL43]
    have h2 : y2.2 = w42.2 := by rw [h2, ew42]
    have hl := lv_sub (l' := [(2, .int x1), (0, .ref (ad a)), (1, va_re ad p0)]) hl [0, 1, 2] rfl
    have e9 : ([(2, .int x1), (0, .ref (ad a)), (1, va_re ad p0)] : List (Nat × Value)) = [(2, .int x1), (0, .ref (ad44 a)), (1, va_re ad44 p0)] := (by first | rfl | simp only [hn45 a hc, agr_re hn45 hq41])
    rw [e9] at hl
    clear e9
    have hk : (xt G L43).2.1 a = 10 := by rw [eL43]; exact xt_k _ hc hk
    have hc : a < (xt G L43).1 := by rw [eL43]; exact xt_l _ hc
    have hag := agr_t (xt_ge _ _) hag hn45
    obtain rfl := Option.some.inj hF
    have e1 : L4 = L43 := by rw [hT]; exact List.append_nil _
    have e2 : y2.2 = y40.2 := h2
    rw [e1] at J2
    try rw [e2] at J2
    exact J2 _ hag _ _ _ hP hD hS (lv_sub hl [0, 1, 2] rfl)
set_option maxRecDepth 20000 in
theorem gX10_se_X10_indexOfSe : GoodIn wuX10_se (va_wsS RX10 105 yX10_indexOfSe wuX10_indexOfSe) := gu_S mw_1185 mw_1186 mw_176 mw_1187
set_option maxRecDepth 20000 in
set_option maxRecDepth 20000 in
theorem gX10_se_X10_bitsOfUe : GoodIn wuX10_se (va_wsS RX10 101 yX10_bitsOfUe wuX10_bitsOfUe) := gu_S mw_1173 mw_1174 mw_176 mw_1175
set_option maxRecDepth 20000 in
set_option maxRecDepth 20000 in
theorem gX10_se_X10_code : GoodIn wuX10_se (wsV RX10 97 RX10 yX10_code wuX10_code) := gu_V mw_1176 mw_1141 mw_1142 mw_176 mw_1143
theorem dX10_se_0 : decode cX10_se 0 = .ok (.iload_n 2, 1) := by decide +kernel
theorem dX10_se_1 : decode cX10_se 1 = .ok (.invokestatic 105, 3) := by decide +kernel
theorem dX10_se_4 : decode cX10_se 4 = .ok (.istore_n 3, 1) := by decide +kernel
theorem dX10_se_5 : decode cX10_se 5 = .ok (.aload_n 0, 1) := by decide +kernel
theorem dX10_se_6 : decode cX10_se 6 = .ok (.iload_n 1, 1) := by decide +kernel
theorem dX10_se_7 : decode cX10_se 7 = .ok (.iload_n 3, 1) := by decide +kernel
theorem dX10_se_8 : decode cX10_se 8 = .ok (.i2l, 1) := by decide +kernel
theorem dX10_se_9 : decode cX10_se 9 = .ok (.lconst 1, 1) := by decide +kernel
theorem dX10_se_10 : decode cX10_se 10 = .ok (.ladd, 1) := by decide +kernel
theorem dX10_se_11 : decode cX10_se 11 = .ok (.iload_n 3, 1) := by decide +kernel
theorem dX10_se_12 : decode cX10_se 12 = .ok (.invokestatic 101, 3) := by decide +kernel
theorem dX10_se_15 : decode cX10_se 15 = .ok (.invokevirtual 97, 3) := by decide +kernel
theorem dX10_se_18 : decode cX10_se 18 = .ok (.return_, 1) := by decide +kernel
noncomputable def FX10_se (G : GG) (M : DD) (a : Nat) (p0 : Int32) (p1 : Int32) : Option (NN × DD) :=
  bnd (FX10_indexOfSe (xt G []) M p1) fun y1 =>
  ltt (y1.2.toInt64) fun x2 =>
  ltt (x2 + ((1 : Int64))) fun x3 =>
  bnd (FX10_bitsOfUe (xt G []) y1.1 y1.2) fun y4 =>
  bnd (FX10_code (xt G []) y4.1 a p0 x3 y4.2) fun y5 =>
  app y5.1 <|
  ltt ([] ++ y5.1) fun L7 =>
  some ([], y5.2)
set_option maxHeartbeats 4000000 in
set_option maxRecDepth 100000 in
theorem kX10_se (l : Launch) (D : va_G) (ct : CT) (ad : Nat → Nat) (Z : Nat → Nat) (G : GG) (M : DD) (sz : Nat) (a : Nat) (p0 : Int32) (p1 : Int32) (y : NN × DD) (hc : a < G.1) (hk : G.2.1 a = 10) (hF : FX10_se G M a p0 p1 = some y) : Met l yX10_se wuX10_se ({ frames := 5, cells := y.1.length, slots := wt y.1, locals := 175 }) (va_Pc [.ref (ad a), .int p0, .int p1] (kB D ct ad Z G M sz)) (va_Qv (fun (u : Nat → Nat) => agr G.1 ad u) (fun u t => kE D ct u (xt G y.1) (wA ad G sz) y.2 t) (wA ad G sz)) y.1.length (wt y.1) (wA ad G sz) := by
  refine Met.ofW (cc := cX10_se) (maxL := 4) (ret := none) (by decide) rfl ?_
  intro p e s m args below meth c s₁ B hml hv
  obtain ⟨rfl, hsz, hP, hK, hD0, hZ, hN⟩ := hv
  have hx := B.exec
  have hb := B.bytes
  have hr := B.returns
  have hts := atoms_spec (ws := wuX10_se) B.pre
  have hown : s.vm.findClass RX10 = some m.cls := findClass_of_methodNamed B.named
  have hlocks := B.notSynchronized
  subst hsz
  have hD := wD_self (sz := s.heap.size) hD0
  have hA9 : ∀ q, s.heap.size ≤ q → wA ad G s.heap.size q := fun q h => Or.inr h
  generalize hAe : wA ad G s.heap.size = A at hD hA9 hZ ⊢
  have hS : va_S A s.heap s.heap [] := va_S.rf
  have hl := lv_entry ([.ref (ad a), .int p0, .int p1]) (n := 4) (Nat.le_of_ble_eq_true rfl)
  rw [lg_entry_eq]
  generalize (lg_sl ([.ref (ad a), .int p0, .int p1]) ++ List.replicate (4 - (lg_sl ([.ref (ad a), .int p0, .int p1])).length) Slot.unset).toArray = ls at hl ⊢
  have hl : lv_has ls 4 [(0, .ref (ad a)), (1, .int p0), (2, .int p1)] := hl
  unfold FX10_se at hF
  rw [← wld_0 ct ad G M] at hP hD
  have hk := xt_k0 hc hk
  have hc := xt_l0 hc
  have hag := agr_rf G.1 ad
  obtain ⟨w0, hw0⟩ : ∃ z, z = y := ⟨_, rfl⟩
  rw [← hw0] at hF
  have hT : y.1 = [] ++ w0.1 := by rw [hw0]; rfl
  have h2 : y.2 = w0.2 := by rw [hw0]
  have hbl : y.1.length ≤ y.1.length ∧ wt y.1 ≤ wt y.1 := ⟨Nat.le_refl _, Nat.le_refl _⟩
  refine lv_iload_n hx hb dX10_se_0 rfl (lv_at hl 2 rfl) ?_
  obtain ⟨y1, hy1, hF⟩ := bnd_some hF
  have hf9 := wA_in hD hA9 hS
  refine va_calli (va_runS (As := [.int p1]) (rest := []) ⟨hx, hb, hml, hown, hts⟩ (kX10_indexOfSe l D ct ad Z (xt G []) M s.heap.size p1 y1 hy1) (va_cwS 1 hts gX10_se_X10_indexOfSe rfl rfl rfl (by decide +kernel) ⟨Nat.le_of_ble_eq_true rfl, Nat.le_of_ble_eq_true rfl⟩) ⟨fun a U g mk q => by obtain ⟨q0, q1, qP, qK, qD, qZ, qN⟩ := q; exact ⟨q0, q1, qP, va_K.moved (u := U) (U := U.calling g mk a) (Vm.Alike.refl U.vm) qK, qD, sF.moved (u := U) (U := U.calling g mk a) (Vm.Alike.refl U.vm) qZ, nF.same rfl qN⟩, fun U hU hW => ⟨rfl, by rw [hU], by rw [hU]; exact hP, va_K.moved hW.alike hK, hD.weaken (fun _ _ _ _ => trivial), by rw [hU]; exact ((hZ.kept hS.2.1).narrow hf9).moved hW.alike, hN.warm hW⟩⟩ rfl rfl hl.1 rfl (lv_room (Nat.le_of_ble_eq_true rfl)) dX10_se_1 (room_d hT hbl)) hS (fun q _ h => hf9 q h) hf9 (fun r u t H locs ht hvm hw hB hz1 hk1 hS => ?_)
  obtain ⟨hP, hK9, hD9⟩ := hB
  rw [ht] at hP
  try dsimp only at hw
  subst hw
  refine W_cs (k := ([] : NN).length) (n := wt []) rfl rfl ?_
  have hD := hD9.weaken (fun _ q _ h => hf9 q.1 h)
  refine lv_istore_n (lv' := [(3, .int y1.2), (0, .ref (ad a)), (1, .int p0), (2, .int p1)]) hx hb dX10_se_4 rfl hl (by decide) rfl (fun ls hl => ?_)
  refine lv_aload_n hx hb dX10_se_5 rfl (lv_at hl 1 rfl) ?_
  refine lv_iload_n hx hb dX10_se_6 rfl (lv_at hl 2 rfl) ?_
  refine lv_iload_n hx hb dX10_se_7 rfl (lv_at hl 0 rfl) ?_
  refine lv_i2l (v := y1.2.toInt64) hx hb dX10_se_8 rfl ?_
  obtain ⟨x2, ex2, hF⟩ := ltt_some hF
  refine lv_topl (fun zx2 ezx2 => ?_)
  obtain rfl : x2 = zx2 := ex2.trans ezx2.symm
  refine lv_lconst (v := (1 : Int64)) hx hb dX10_se_9 rfl ?_
  refine lv_ladd hx hb dX10_se_10 ?_
  obtain ⟨x3, ex3, hF⟩ := ltt_some hF
  refine lv_topl (fun zx3 ezx3 => ?_)
  obtain rfl : x3 = zx3 := ex3.trans ezx3.symm
  refine lv_iload_n hx hb dX10_se_11 rfl (lv_at hl 0 rfl) ?_
  obtain ⟨y4, hy4, hF⟩ := bnd_some hF
  have hf9 := wA_in hD hA9 hS
  refine va_calli (va_runS (As := [.int y1.2]) (rest := [.long x3, .int p0, .ref (ad a)]) ⟨hx, hb, hml, hown, hts⟩ (kX10_bitsOfUe l D ct ad Z (xt G []) y1.1 H.size y1.2 y4 hy4) (va_cwS 1 hts gX10_se_X10_bitsOfUe rfl rfl rfl (by decide +kernel) ⟨Nat.le_of_ble_eq_true rfl, Nat.le_of_ble_eq_true rfl⟩) ⟨fun a U g mk q => by obtain ⟨q0, q1, qP, qK, qD, qZ, qN⟩ := q; exact ⟨q0, q1, qP, va_K.moved (u := U) (U := U.calling g mk a) (Vm.Alike.refl U.vm) qK, qD, sF.moved (u := U) (U := U.calling g mk a) (Vm.Alike.refl U.vm) qZ, nF.same rfl qN⟩, fun U hU hW => ⟨rfl, by rw [hU], by rw [hU]; exact hP, va_K.moved hW.alike hK, hD.weaken (fun _ _ _ _ => trivial), by rw [hU]; exact ((hZ.kept hS.2.1).narrow hf9).moved hW.alike, hN.warm hW⟩⟩ rfl rfl hl.1 rfl (lv_room (Nat.le_of_ble_eq_true rfl)) dX10_se_12 (room_d hT hbl)) hS (fun q _ h => hf9 q h) hf9 (fun r u t H locs ht hvm hw hB hz1 hk1 hS => ?_)
  obtain ⟨hP, hK9, hD9⟩ := hB
  rw [ht] at hP
  try dsimp only at hw
  subst hw
  refine W_cs (k := ([] : NN).length) (n := wt []) rfl rfl ?_
  have hD := hD9.weaken (fun _ q _ h => hf9 q.1 h)
  obtain ⟨y5, hy5, hF⟩ := bnd_some hF
  obtain ⟨w6, hF, ew6⟩ := app_some hF
  obtain ⟨L7, eL7, hF⟩ := ltt_some hF
  have hT7 : y.1 = ([] ++ y5.1) ++ w6.1 := by rw [hT, ew6]; simp only [List.append_assoc]
  have hf9 := wA_in hD hA9 hS
  refine va_callv (va_runV (As := [.int p0, .long x3, .int y4.2]) (rest := []) ⟨hx, hb, hml, hown, hts⟩ (kX10_code l D ct ad Z (xt G []) y4.1 _ a p0 x3 y4.2 y5 hc hk hy5) (cwV 3 hts gX10_se_X10_code rfl rfl rfl (by decide +kernel) ⟨Nat.le_of_ble_eq_true rfl, Nat.le_of_ble_eq_true rfl⟩) ⟨fun a U g mk q => by obtain ⟨q0, q1, qP, qK, qD, qZ, qN⟩ := q; exact ⟨q0, q1, qP, va_K.moved (u := U) (U := U.calling g mk a) (Vm.Alike.refl U.vm) qK, qD, sF.moved (u := U) (U := U.calling g mk a) (Vm.Alike.refl U.vm) qZ, nF.same rfl qN⟩, va_recv hK hP (ci := 10) (q0 := a) rfl (wld_o ct ad (xt G []) y4.1 hc hk (by decide)), fun U hU hW => ⟨rfl, by rw [hU], by rw [hU]; exact hP, va_K.moved hW.alike hK, hD.weaken (fun _ _ _ _ => trivial), by rw [hU]; exact ((hZ.kept hS.2.1).narrow hf9).moved hW.alike, hN.warm hW⟩⟩ rfl rfl hl.1 rfl (lv_room (Nat.le_of_ble_eq_true rfl)) dX10_se_15 (room_s hT7 hbl)) hS (fun q _ h => hf9 q h) hf9 (fun ad8 t H locs ht hvm hw hB hz1 hk1 hS => ?_)
  have hn9 := hw
  obtain ⟨hP, hK9, hD9⟩ := hB
  rw [ht] at hP
  have hD := hD9.weaken (fun _ q _ h => hf9 q.1 h)
  rw [xt_xt, ← eL7] at hP hD
  refine W_cs (k := L7.length) (n := wt L7) (by rw [eL7]; exact (len_s [] y5.1).symm) (by rw [eL7]; exact (wt_app [] y5.1).symm) ?_
  have hT : y.1 = L7 ++ w6.1 := by rw [hT7, eL7]
  have h2 : y.2 = w6.2 := by rw [h2, ew6]
  have hl := lv_sub (l' := []) hl [] rfl
  have hk : (xt G L7).2.1 a = 10 := by rw [eL7]; exact xt_k _ hc hk
  have hc : a < (xt G L7).1 := by rw [eL7]; exact xt_l _ hc
  have hag := agr_t (xt_ge _ _) hag hn9
  obtain rfl := Option.some.inj hF
  have e1 : y.1 = L7 := by rw [hT]; exact List.append_nil _
  have e2 : y.2 = y5.2 := h2
  refine W.widen (k := y.1.length) (n := wt y.1) (Nat.le_of_eq (by rw [e1])) (Nat.le_of_eq (by rw [e1])) ?_
  exact W.vret hx hb hr (fun t ht hW => ⟨⟨ad8, rfl, hag, (by unfold kE; rw [e1, e2]; exact ⟨by rw [ht]; exact hP, va_K.moved hW.alike hK, hD⟩)⟩, hS.F ht⟩) hS.2.2 dX10_se_18
set_option maxRecDepth 20000 in
theorem gX10_te_X10_bitsOfUe : GoodIn wuX10_te (va_wsS RX10 101 yX10_bitsOfUe wuX10_bitsOfUe) := gu_S mw_1173 mw_1174 mw_176 mw_1175
set_option maxRecDepth 20000 in
theorem gX10_te_X10_code : GoodIn wuX10_te (wsV RX10 97 RX10 yX10_code wuX10_code) := gu_V mw_1176 mw_1141 mw_1142 mw_176 mw_1143
set_option maxRecDepth 20000 in
theorem dX10_te_0 : decode cX10_te 0 = .ok (.iload_n 2, 1) := by decide +kernel
theorem dX10_te_1 : decode cX10_te 1 = .ok (.iconst 1, 1) := by decide +kernel
theorem dX10_te_2 : decode cX10_te 2 = .ok (.if_icmp .ne 16, 3) := by decide +kernel
theorem dX10_te_5 : decode cX10_te 5 = .ok (.aload_n 0, 1) := by decide +kernel
theorem dX10_te_6 : decode cX10_te 6 = .ok (.iload_n 1, 1) := by decide +kernel
theorem dX10_te_7 : decode cX10_te 7 = .ok (.iconst 1, 1) := by decide +kernel
theorem dX10_te_8 : decode cX10_te 8 = .ok (.iload_n 3, 1) := by decide +kernel
theorem dX10_te_9 : decode cX10_te 9 = .ok (.isub, 1) := by decide +kernel
theorem dX10_te_10 : decode cX10_te 10 = .ok (.i2l, 1) := by decide +kernel
theorem dX10_te_11 : decode cX10_te 11 = .ok (.iconst 1, 1) := by decide +kernel
theorem dX10_te_12 : decode cX10_te 12 = .ok (.invokevirtual 97, 3) := by decide +kernel
theorem dX10_te_15 : decode cX10_te 15 = .ok (.goto 16, 3) := by decide +kernel
theorem dX10_te_18 : decode cX10_te 18 = .ok (.aload_n 0, 1) := by decide +kernel
theorem dX10_te_19 : decode cX10_te 19 = .ok (.iload_n 1, 1) := by decide +kernel
theorem dX10_te_20 : decode cX10_te 20 = .ok (.iload_n 3, 1) := by decide +kernel
theorem dX10_te_21 : decode cX10_te 21 = .ok (.i2l, 1) := by decide +kernel
theorem dX10_te_22 : decode cX10_te 22 = .ok (.lconst 1, 1) := by decide +kernel
theorem dX10_te_23 : decode cX10_te 23 = .ok (.ladd, 1) := by decide +kernel
theorem dX10_te_24 : decode cX10_te 24 = .ok (.iload_n 3, 1) := by decide +kernel
theorem dX10_te_25 : decode cX10_te 25 = .ok (.invokestatic 101, 3) := by decide +kernel
theorem dX10_te_28 : decode cX10_te 28 = .ok (.invokevirtual 97, 3) := by decide +kernel
theorem dX10_te_31 : decode cX10_te 31 = .ok (.return_, 1) := by decide +kernel
noncomputable def FX10_te (G : GG) (M : DD) (a : Nat) (p0 : Int32) (p1 : Int32) (p2 : Int32) : Option (NN × DD) :=
  bnd (if p1 = ((1 : Int32)) then (ltt ((((1 : Int32)) - p2)) fun x15 =>
  ltt (x15.toInt64) fun x16 =>
  bnd (FX10_code (xt G []) M a p0 x16 ((1 : Int32))) fun y17 =>
  app y17.1 <|
  ltt ([] ++ y17.1) fun L19 =>
  some ([], y17.2)) else
  (ltt (p2.toInt64) fun x7 =>
  ltt (x7 + ((1 : Int64))) fun x8 =>
  bnd (FX10_bitsOfUe (xt G []) M p2) fun y9 =>
  bnd (FX10_code (xt G []) y9.1 a p0 x8 y9.2) fun y10 =>
  app y10.1 <|
  ltt ([] ++ y10.1) fun L12 =>
  some ([], y10.2))) fun (y1 : NN × DD) =>
  app y1.1 <|
  ltt ([] ++ y1.1) fun L3 =>
  some ([], y1.2)
set_option maxHeartbeats 4000000 in
set_option maxRecDepth 100000 in
theorem kX10_te (l : Launch) (D : va_G) (ct : CT) (ad : Nat → Nat) (Z : Nat → Nat) (G : GG) (M : DD) (sz : Nat) (a : Nat) (p0 : Int32) (p1 : Int32) (p2 : Int32) (y : NN × DD) (hc : a < G.1) (hk : G.2.1 a = 10) (hF : FX10_te G M a p0 p1 p2 = some y) : Met l yX10_te wuX10_te ({ frames := 5, cells := y.1.length, slots := wt y.1, locals := 175 }) (va_Pc [.ref (ad a), .int p0, .int p1, .int p2] (kB D ct ad Z G M sz)) (va_Qv (fun (u : Nat → Nat) => agr G.1 ad u) (fun u t => kE D ct u (xt G y.1) (wA ad G sz) y.2 t) (wA ad G sz)) y.1.length (wt y.1) (wA ad G sz) := by
  refine Met.ofW (cc := cX10_te) (maxL := 4) (ret := none) (by decide) rfl ?_
  intro p e s m args below meth c s₁ B hml hv
  obtain ⟨rfl, hsz, hP, hK, hD0, hZ, hN⟩ := hv
  have hx := B.exec
  have hb := B.bytes
  have hr := B.returns
  have hts := atoms_spec (ws := wuX10_te) B.pre
  have hown : s.vm.findClass RX10 = some m.cls := findClass_of_methodNamed B.named
  have hlocks := B.notSynchronized
  subst hsz
  have hD := wD_self (sz := s.heap.size) hD0
  have hA9 : ∀ q, s.heap.size ≤ q → wA ad G s.heap.size q := fun q h => Or.inr h
  generalize hAe : wA ad G s.heap.size = A at hD hA9 hZ ⊢
  have hS : va_S A s.heap s.heap [] := va_S.rf
  have hl := lv_entry ([.ref (ad a), .int p0, .int p1, .int p2]) (n := 4) (Nat.le_of_ble_eq_true rfl)
  rw [lg_entry_eq]
  generalize (lg_sl ([.ref (ad a), .int p0, .int p1, .int p2]) ++ List.replicate (4 - (lg_sl ([.ref (ad a), .int p0, .int p1, .int p2])).length) Slot.unset).toArray = ls at hl ⊢
  have hl : lv_has ls 4 [(0, .ref (ad a)), (1, .int p0), (2, .int p1), (3, .int p2)] := hl
  unfold FX10_te at hF
  rw [← wld_0 ct ad G M] at hP hD
  have hk := xt_k0 hc hk
  have hc := xt_l0 hc
  have hag := agr_rf G.1 ad
  obtain ⟨w0, hw0⟩ : ∃ z, z = y := ⟨_, rfl⟩
  rw [← hw0] at hF
  have hT : y.1 = [] ++ w0.1 := by rw [hw0]; rfl
  have h2 : y.2 = w0.2 := by rw [hw0]
  have hbl : y.1.length ≤ y.1.length ∧ wt y.1 ≤ wt y.1 := ⟨Nat.le_refl _, Nat.le_refl _⟩
  refine lv_iload_n hx hb dX10_te_0 rfl (lv_at hl 2 rfl) ?_
  refine lv_iconst (v := (1 : Int32)) hx hb dX10_te_1 (by decide) ?_
  obtain ⟨y1, hy1, hF⟩ := bnd_some hF
  obtain ⟨w2, hF, ew2⟩ := app_some hF
  obtain ⟨L3, eL3, hF⟩ := ltt_some hF
  have hT3 : y.1 = ([] ++ y1.1) ++ w2.1 := by rw [hT, ew2]; simp only [List.append_assoc]
  have hbl3 : L3.length ≤ y.1.length ∧ wt L3 ≤ wt y.1 := by rw [eL3]; exact room_d hT3 hbl
  have J1 : ∀ (ad4 : Nat → Nat), agr G.1 ad ad4 → ∀ (H : Heap) (locs : List Loc) (ls : Array Slot), va_P D classes (wld ct ad4 (xt G L3) y1.2) H → va_D A (wld ct ad4 (xt G L3) y1.2) → va_S A s.heap H locs → lv_has ls 4 [] → W p l e (headSpec wuX10_te ({ frames := 5, cells := y.1.length, slots := wt y.1, locals := 175 })).room s m ([.ref (ad a), .int p0, .int p1, .int p2] : List Value).toArray below meth c H locs (L3 : NN).length (wt L3) (MQ below (va_Qv (fun (u : Nat → Nat) => agr G.1 ad u) (fun u t => kE D ct u (xt G y.1) A y.2 t) A) ([.ref (ad a), .int p0, .int p1, .int p2] : List Value).toArray s y.1.length (wt y.1) A) (F0 m 31 ls []) := by
    intro ad4 hag H locs ls hP hD hS hl
    have hT : y.1 = L3 ++ w2.1 := by rw [hT3, eL3]
    have h2 : y.2 = w2.2 := by rw [h2, ew2]
    have hk : (xt G L3).2.1 a = 10 := by rw [eL3]; exact xt_k _ hc hk
    have hc : a < (xt G L3).1 := by rw [eL3]; exact xt_l _ hc
    obtain rfl := Option.some.inj hF
    have e1 : y.1 = L3 := by rw [hT]; exact List.append_nil _
    have e2 : y.2 = y1.2 := h2
    refine W.widen (k := y.1.length) (n := wt y.1) (Nat.le_of_eq (by rw [e1])) (Nat.le_of_eq (by rw [e1])) ?_
    exact W.vret hx hb hr (fun t ht hW => ⟨⟨ad4, rfl, hag, (by unfold kE; rw [e1, e2]; exact ⟨by rw [ht]; exact hP, va_K.moved hW.alike hK, hD⟩)⟩, hS.F ht⟩) hS.2.2 dX10_te_31
  clear hF
  obtain ⟨w5, hw5⟩ : ∃ z, z = y1 := ⟨_, rfl⟩
  have hF := hy1
  rw [← hw5] at hF
  clear hy1
  have hT : L3 = [] ++ w5.1 := by rw [eL3, hw5]
  have h2 : y1.2 = w5.2 := by rw [hw5]
  have hbl := hbl3
  refine lv_icmp_ne (tgt := 18) hx hb dX10_te_2 (by decide) (fun c6 => ?_) (fun c6 => ?_)
  · rw [if_neg c6] at hF
    refine lv_aload_n hx hb dX10_te_18 rfl (lv_at hl 0 rfl) ?_
    refine lv_iload_n hx hb dX10_te_19 rfl (lv_at hl 1 rfl) ?_
    refine lv_iload_n hx hb dX10_te_20 rfl (lv_at hl 3 rfl) ?_
    refine lv_i2l (v := p2.toInt64) hx hb dX10_te_21 rfl ?_
    obtain ⟨x7, ex7, hF⟩ := ltt_some hF
    refine lv_topl (fun zx7 ezx7 => ?_)
    obtain rfl : x7 = zx7 := ex7.trans ezx7.symm
    refine lv_lconst (v := (1 : Int64)) hx hb dX10_te_22 rfl ?_
    refine lv_ladd hx hb dX10_te_23 ?_
    obtain ⟨x8, ex8, hF⟩ := ltt_some hF
    refine lv_topl (fun zx8 ezx8 => ?_)
    obtain rfl : x8 = zx8 := ex8.trans ezx8.symm
    refine lv_iload_n hx hb dX10_te_24 rfl (lv_at hl 3 rfl) ?_
    obtain ⟨y9, hy9, hF⟩ := bnd_some hF
    have hf9 := wA_in hD hA9 hS
    refine va_calli (va_runS (As := [.int p2]) (rest := [.long x8, .int p0, .ref (ad a)]) ⟨hx, hb, hml, hown, hts⟩ (kX10_bitsOfUe l D ct ad Z (xt G []) M s.heap.size p2 y9 hy9) (va_cwS 1 hts gX10_te_X10_bitsOfUe rfl rfl rfl (by decide +kernel) ⟨Nat.le_of_ble_eq_true rfl, Nat.le_of_ble_eq_true rfl⟩) ⟨fun a U g mk q => by obtain ⟨q0, q1, qP, qK, qD, qZ, qN⟩ := q; exact ⟨q0, q1, qP, va_K.moved (u := U) (U := U.calling g mk a) (Vm.Alike.refl U.vm) qK, qD, sF.moved (u := U) (U := U.calling g mk a) (Vm.Alike.refl U.vm) qZ, nF.same rfl qN⟩, fun U hU hW => ⟨rfl, by rw [hU], by rw [hU]; exact hP, va_K.moved hW.alike hK, hD.weaken (fun _ _ _ _ => trivial), by rw [hU]; exact ((hZ.kept hS.2.1).narrow hf9).moved hW.alike, hN.warm hW⟩⟩ rfl rfl hl.1 rfl (lv_room (Nat.le_of_ble_eq_true rfl)) dX10_te_25 (room_d hT hbl)) hS (fun q _ h => hf9 q h) hf9 (fun r u t H locs ht hvm hw hB hz1 hk1 hS => ?_)
    obtain ⟨hP, hK9, hD9⟩ := hB
    rw [ht] at hP
    try dsimp only at hw
    subst hw
    refine W_cs (k := ([] : NN).length) (n := wt []) rfl rfl ?_
    have hD := hD9.weaken (fun _ q _ h => hf9 q.1 h)
    obtain ⟨y10, hy10, hF⟩ := bnd_some hF
    obtain ⟨w11, hF, ew11⟩ := app_some hF
    obtain ⟨L12, eL12, hF⟩ := ltt_some hF
    have hT12 : L3 = ([] ++ y10.1) ++ w11.1 := by rw [hT, ew11]; simp only [List.append_assoc]
    have hf9 := wA_in hD hA9 hS
    refine va_callv (va_runV (As := [.int p0, .long x8, .int y9.2]) (rest := []) ⟨hx, hb, hml, hown, hts⟩ (kX10_code l D ct ad Z (xt G []) y9.1 _ a p0 x8 y9.2 y10 hc hk hy10) (cwV 3 hts gX10_te_X10_code rfl rfl rfl (by decide +kernel) ⟨Nat.le_of_ble_eq_true rfl, Nat.le_of_ble_eq_true rfl⟩) ⟨fun a U g mk q => by obtain ⟨q0, q1, qP, qK, qD, qZ, qN⟩ := q; exact ⟨q0, q1, qP, va_K.moved (u := U) (U := U.calling g mk a) (Vm.Alike.refl U.vm) qK, qD, sF.moved (u := U) (U := U.calling g mk a) (Vm.Alike.refl U.vm) qZ, nF.same rfl qN⟩, va_recv hK hP (ci := 10) (q0 := a) rfl (wld_o ct ad (xt G []) y9.1 hc hk (by decide)), fun U hU hW => ⟨rfl, by rw [hU], by rw [hU]; exact hP, va_K.moved hW.alike hK, hD.weaken (fun _ _ _ _ => trivial), by rw [hU]; exact ((hZ.kept hS.2.1).narrow hf9).moved hW.alike, hN.warm hW⟩⟩ rfl rfl hl.1 rfl (lv_room (Nat.le_of_ble_eq_true rfl)) dX10_te_28 (room_s hT12 hbl)) hS (fun q _ h => hf9 q h) hf9 (fun ad13 t H locs ht hvm hw hB hz1 hk1 hS => ?_)
    have hn14 := hw
    obtain ⟨hP, hK9, hD9⟩ := hB
    rw [ht] at hP
    have hD := hD9.weaken (fun _ q _ h => hf9 q.1 h)
    rw [xt_xt, ← eL12] at hP hD
    refine W_cs (k := L12.length) (n := wt L12) (by rw [eL12]; exact (len_s [] y10.1).symm) (by rw [eL12]; exact (wt_app [] y10.1).symm) ?_
    have hT : L3 = L12 ++ w11.1 := by rw [hT12, eL12]
    have h2 : y1.2 = w11.2 := by rw [h2, ew11]
    have hl := lv_sub (l' := []) hl [] rfl
    have hk : (xt G L12).2.1 a = 10 := by rw [eL12]; exact xt_k _ hc hk
    have hc : a < (xt G L12).1 := by rw [eL12]; exact xt_l _ hc
    have hag := agr_t (xt_ge _ _) hag hn14
    obtain rfl := Option.some.inj hF
    have e1 : L3 = L12 := by rw [hT]; exact List.append_nil _
    have e2 : y1.2 = y10.2 := h2
    rw [e1] at J1
    try rw [e2] at J1
    exact J1 _ hag _ _ _ hP hD hS (lv_sub hl [] rfl)
  · rw [if_pos c6] at hF
    refine lv_aload_n hx hb dX10_te_5 rfl (lv_at hl 0 rfl) ?_
    refine lv_iload_n hx hb dX10_te_6 rfl (lv_at hl 1 rfl) ?_
    refine lv_iconst (v := (1 : Int32)) hx hb dX10_te_7 (by decide) ?_
    refine lv_iload_n hx hb dX10_te_8 rfl (lv_at hl 3 rfl) ?_
    refine lv_isub hx hb dX10_te_9 ?_
    obtain ⟨x15, ex15, hF⟩ := ltt_some hF
    refine lv_topi (fun zx15 ezx15 => ?_)
    obtain rfl : x15 = zx15 := ex15.trans ezx15.symm
    refine lv_i2l (v := x15.toInt64) hx hb dX10_te_10 rfl ?_
    obtain ⟨x16, ex16, hF⟩ := ltt_some hF
    refine lv_topl (fun zx16 ezx16 => ?_)
    obtain rfl : x16 = zx16 := ex16.trans ezx16.symm
    refine lv_iconst (v := (1 : Int32)) hx hb dX10_te_11 (by decide) ?_
    obtain ⟨y17, hy17, hF⟩ := bnd_some hF
    obtain ⟨w18, hF, ew18⟩ := app_some hF
    obtain ⟨L19, eL19, hF⟩ := ltt_some hF
    have hT19 : L3 = ([] ++ y17.1) ++ w18.1 := by rw [hT, ew18]; simp only [List.append_assoc]
    have hf9 := wA_in hD hA9 hS
    refine va_callv (va_runV (As := [.int p0, .long x16, .int (1 : Int32)]) (rest := []) ⟨hx, hb, hml, hown, hts⟩ (kX10_code l D ct ad Z (xt G []) M _ a p0 x16 ((1 : Int32)) y17 hc hk hy17) (cwV 3 hts gX10_te_X10_code rfl rfl rfl (by decide +kernel) ⟨Nat.le_of_ble_eq_true rfl, Nat.le_of_ble_eq_true rfl⟩) ⟨fun a U g mk q => by obtain ⟨q0, q1, qP, qK, qD, qZ, qN⟩ := q; exact ⟨q0, q1, qP, va_K.moved (u := U) (U := U.calling g mk a) (Vm.Alike.refl U.vm) qK, qD, sF.moved (u := U) (U := U.calling g mk a) (Vm.Alike.refl U.vm) qZ, nF.same rfl qN⟩, va_recv hK hP (ci := 10) (q0 := a) rfl (wld_o ct ad (xt G []) M hc hk (by decide)), fun U hU hW => ⟨rfl, by rw [hU], by rw [hU]; exact hP, va_K.moved hW.alike hK, hD.weaken (fun _ _ _ _ => trivial), by rw [hU]; exact ((hZ.kept hS.2.1).narrow hf9).moved hW.alike, hN.warm hW⟩⟩ rfl rfl hl.1 rfl (lv_room (Nat.le_of_ble_eq_true rfl)) dX10_te_12 (room_s hT19 hbl)) hS (fun q _ h => hf9 q h) hf9 (fun ad20 t H locs ht hvm hw hB hz1 hk1 hS => ?_)
    have hn21 := hw
    obtain ⟨hP, hK9, hD9⟩ := hB
    rw [ht] at hP
    have hD := hD9.weaken (fun _ q _ h => hf9 q.1 h)
    rw [xt_xt, ← eL19] at hP hD
    refine W_cs (k := L19.length) (n := wt L19) (by rw [eL19]; exact (len_s [] y17.1).symm) (by rw [eL19]; exact (wt_app [] y17.1).symm) ?_
    have hT : L3 = L19 ++ w18.1 := by rw [hT19, eL19]
    have h2 : y1.2 = w18.2 := by rw [h2, ew18]
    have hl := lv_sub (l' := []) hl [] rfl
    have hk : (xt G L19).2.1 a = 10 := by rw [eL19]; exact xt_k _ hc hk
    have hc : a < (xt G L19).1 := by rw [eL19]; exact xt_l _ hc
    have hag := agr_t (xt_ge _ _) hag hn21
    refine lv_goto (tgt := 31) hx hb dX10_te_15 (by decide) ?_
    obtain rfl := Option.some.inj hF
    have e1 : L3 = L19 := by rw [hT]; exact List.append_nil _
    have e2 : y1.2 = y17.2 := h2
    rw [e1] at J1
    try rw [e2] at J1
    exact J1 _ hag _ _ _ hP hD hS (lv_sub hl [] rfl)
set_option maxRecDepth 20000 in
theorem gX10_ue_X10_bitsOfUe : GoodIn wuX10_ue (va_wsS RX10 101 yX10_bitsOfUe wuX10_bitsOfUe) := gu_S mw_1173 mw_1174 mw_176 mw_1175
set_option maxRecDepth 20000 in
set_option maxRecDepth 20000 in
theorem gX10_ue_X10_code : GoodIn wuX10_ue (wsV RX10 97 RX10 yX10_code wuX10_code) := gu_V mw_1176 mw_1141 mw_1142 mw_176 mw_1143
theorem dX10_ue_0 : decode cX10_ue 0 = .ok (.aload_n 0, 1) := by decide +kernel
theorem dX10_ue_1 : decode cX10_ue 1 = .ok (.iload_n 1, 1) := by decide +kernel
theorem dX10_ue_2 : decode cX10_ue 2 = .ok (.iload_n 2, 1) := by decide +kernel
theorem dX10_ue_3 : decode cX10_ue 3 = .ok (.i2l, 1) := by decide +kernel
theorem dX10_ue_4 : decode cX10_ue 4 = .ok (.lconst 1, 1) := by decide +kernel
theorem dX10_ue_5 : decode cX10_ue 5 = .ok (.ladd, 1) := by decide +kernel
theorem dX10_ue_6 : decode cX10_ue 6 = .ok (.iload_n 2, 1) := by decide +kernel
theorem dX10_ue_7 : decode cX10_ue 7 = .ok (.invokestatic 101, 3) := by decide +kernel
theorem dX10_ue_10 : decode cX10_ue 10 = .ok (.invokevirtual 97, 3) := by decide +kernel
theorem dX10_ue_13 : decode cX10_ue 13 = .ok (.return_, 1) := by decide +kernel
noncomputable def FX10_ue (G : GG) (M : DD) (a : Nat) (p0 : Int32) (p1 : Int32) : Option (NN × DD) :=
  ltt (p1.toInt64) fun x1 =>
  ltt (x1 + ((1 : Int64))) fun x2 =>
  bnd (FX10_bitsOfUe (xt G []) M p1) fun y3 =>
  bnd (FX10_code (xt G []) y3.1 a p0 x2 y3.2) fun y4 =>
  app y4.1 <|
  ltt ([] ++ y4.1) fun L6 =>
  some ([], y4.2)
set_option maxHeartbeats 4000000 in
set_option maxRecDepth 100000 in
theorem kX10_ue (l : Launch) (D : va_G) (ct : CT) (ad : Nat → Nat) (Z : Nat → Nat) (G : GG) (M : DD) (sz : Nat) (a : Nat) (p0 : Int32) (p1 : Int32) (y : NN × DD) (hc : a < G.1) (hk : G.2.1 a = 10) (hF : FX10_ue G M a p0 p1 = some y) : Met l yX10_ue wuX10_ue ({ frames := 5, cells := y.1.length, slots := wt y.1, locals := 175 }) (va_Pc [.ref (ad a), .int p0, .int p1] (kB D ct ad Z G M sz)) (va_Qv (fun (u : Nat → Nat) => agr G.1 ad u) (fun u t => kE D ct u (xt G y.1) (wA ad G sz) y.2 t) (wA ad G sz)) y.1.length (wt y.1) (wA ad G sz) := by
  refine Met.ofW (cc := cX10_ue) (maxL := 3) (ret := none) (by decide) rfl ?_
  intro p e s m args below meth c s₁ B hml hv
  obtain ⟨rfl, hsz, hP, hK, hD0, hZ, hN⟩ := hv
  have hx := B.exec
  have hb := B.bytes
  have hr := B.returns
  have hts := atoms_spec (ws := wuX10_ue) B.pre
  have hown : s.vm.findClass RX10 = some m.cls := findClass_of_methodNamed B.named
  have hlocks := B.notSynchronized
  subst hsz
  have hD := wD_self (sz := s.heap.size) hD0
  have hA9 : ∀ q, s.heap.size ≤ q → wA ad G s.heap.size q := fun q h => Or.inr h
  generalize hAe : wA ad G s.heap.size = A at hD hA9 hZ ⊢
  have hS : va_S A s.heap s.heap [] := va_S.rf
  have hl := lv_entry ([.ref (ad a), .int p0, .int p1]) (n := 3) (Nat.le_of_ble_eq_true rfl)
  rw [lg_entry_eq]
  generalize (lg_sl ([.ref (ad a), .int p0, .int p1]) ++ List.replicate (3 - (lg_sl ([.ref (ad a), .int p0, .int p1])).length) Slot.unset).toArray = ls at hl ⊢
  have hl : lv_has ls 3 [(0, .ref (ad a)), (1, .int p0), (2, .int p1)] := hl
  unfold FX10_ue at hF
  rw [← wld_0 ct ad G M] at hP hD
  have hk := xt_k0 hc hk
  have hc := xt_l0 hc
  have hag := agr_rf G.1 ad
  obtain ⟨w0, hw0⟩ : ∃ z, z = y := ⟨_, rfl⟩
  rw [← hw0] at hF
  have hT : y.1 = [] ++ w0.1 := by rw [hw0]; rfl
  have h2 : y.2 = w0.2 := by rw [hw0]
  have hbl : y.1.length ≤ y.1.length ∧ wt y.1 ≤ wt y.1 := ⟨Nat.le_refl _, Nat.le_refl _⟩
  refine lv_aload_n hx hb dX10_ue_0 rfl (lv_at hl 0 rfl) ?_
  refine lv_iload_n hx hb dX10_ue_1 rfl (lv_at hl 1 rfl) ?_
  refine lv_iload_n hx hb dX10_ue_2 rfl (lv_at hl 2 rfl) ?_
  refine lv_i2l (v := p1.toInt64) hx hb dX10_ue_3 rfl ?_
  obtain ⟨x1, ex1, hF⟩ := ltt_some hF
  refine lv_topl (fun zx1 ezx1 => ?_)
  obtain rfl : x1 = zx1 := ex1.trans ezx1.symm
  refine lv_lconst (v := (1 : Int64)) hx hb dX10_ue_4 rfl ?_
  refine lv_ladd hx hb dX10_ue_5 ?_
  obtain ⟨x2, ex2, hF⟩ := ltt_some hF
  refine lv_topl (fun zx2 ezx2 => ?_)
  obtain rfl : x2 = zx2 := ex2.trans ezx2.symm
  refine lv_iload_n hx hb dX10_ue_6 rfl (lv_at hl 2 rfl) ?_
  obtain ⟨y3, hy3, hF⟩ := bnd_some hF
  have hf9 := wA_in hD hA9 hS
  refine va_calli (va_runS (As := [.int p1]) (rest := [.long x2, .int p0, .ref (ad a)]) ⟨hx, hb, hml, hown, hts⟩ (kX10_bitsOfUe l D ct ad Z (xt G []) M s.heap.size p1 y3 hy3) (va_cwS 1 hts gX10_ue_X10_bitsOfUe rfl rfl rfl (by decide +kernel) ⟨Nat.le_of_ble_eq_true rfl, Nat.le_of_ble_eq_true rfl⟩) ⟨fun a U g mk q => by obtain ⟨q0, q1, qP, qK, qD, qZ, qN⟩ := q; exact ⟨q0, q1, qP, va_K.moved (u := U) (U := U.calling g mk a) (Vm.Alike.refl U.vm) qK, qD, sF.moved (u := U) (U := U.calling g mk a) (Vm.Alike.refl U.vm) qZ, nF.same rfl qN⟩, fun U hU hW => ⟨rfl, by rw [hU], by rw [hU]; exact hP, va_K.moved hW.alike hK, hD.weaken (fun _ _ _ _ => trivial), by rw [hU]; exact ((hZ.kept hS.2.1).narrow hf9).moved hW.alike, hN.warm hW⟩⟩ rfl rfl hl.1 rfl (lv_room (Nat.le_of_ble_eq_true rfl)) dX10_ue_7 (room_d hT hbl)) hS (fun q _ h => hf9 q h) hf9 (fun r u t H locs ht hvm hw hB hz1 hk1 hS => ?_)
  obtain ⟨hP, hK9, hD9⟩ := hB
  rw [ht] at hP
  try dsimp only at hw
  subst hw
  refine W_cs (k := ([] : NN).length) (n := wt []) rfl rfl ?_
  have hD := hD9.weaken (fun _ q _ h => hf9 q.1 h)
  obtain ⟨y4, hy4, hF⟩ := bnd_some hF
  obtain ⟨w5, hF, ew5⟩ := app_some hF
  obtain ⟨L6, eL6, hF⟩ := ltt_some hF
  have hT6 : y.1 = ([] ++ y4.1) ++ w5.1 := by rw [hT, ew5]; simp only [List.append_assoc]
  have hf9 := wA_in hD hA9 hS
  refine va_callv (va_runV (As := [.int p0, .long x2, .int y3.2]) (rest := []) ⟨hx, hb, hml, hown, hts⟩ (kX10_code l D ct ad Z (xt G []) y3.1 _ a p0 x2 y3.2 y4 hc hk hy4) (cwV 3 hts gX10_ue_X10_code rfl rfl rfl (by decide +kernel) ⟨Nat.le_of_ble_eq_true rfl, Nat.le_of_ble_eq_true rfl⟩) ⟨fun a U g mk q => by obtain ⟨q0, q1, qP, qK, qD, qZ, qN⟩ := q; exact ⟨q0, q1, qP, va_K.moved (u := U) (U := U.calling g mk a) (Vm.Alike.refl U.vm) qK, qD, sF.moved (u := U) (U := U.calling g mk a) (Vm.Alike.refl U.vm) qZ, nF.same rfl qN⟩, va_recv hK hP (ci := 10) (q0 := a) rfl (wld_o ct ad (xt G []) y3.1 hc hk (by decide)), fun U hU hW => ⟨rfl, by rw [hU], by rw [hU]; exact hP, va_K.moved hW.alike hK, hD.weaken (fun _ _ _ _ => trivial), by rw [hU]; exact ((hZ.kept hS.2.1).narrow hf9).moved hW.alike, hN.warm hW⟩⟩ rfl rfl hl.1 rfl (lv_room (Nat.le_of_ble_eq_true rfl)) dX10_ue_10 (room_s hT6 hbl)) hS (fun q _ h => hf9 q h) hf9 (fun ad7 t H locs ht hvm hw hB hz1 hk1 hS => ?_)
  have hn8 := hw
  obtain ⟨hP, hK9, hD9⟩ := hB
  rw [ht] at hP
  have hD := hD9.weaken (fun _ q _ h => hf9 q.1 h)
  rw [xt_xt, ← eL6] at hP hD
  refine W_cs (k := L6.length) (n := wt L6) (by rw [eL6]; exact (len_s [] y4.1).symm) (by rw [eL6]; exact (wt_app [] y4.1).symm) ?_
  have hT : y.1 = L6 ++ w5.1 := by rw [hT6, eL6]
  have h2 : y.2 = w5.2 := by rw [h2, ew5]
  have hl := lv_sub (l' := []) hl [] rfl
  have hk : (xt G L6).2.1 a = 10 := by rw [eL6]; exact xt_k _ hc hk
  have hc : a < (xt G L6).1 := by rw [eL6]; exact xt_l _ hc
  have hag := agr_t (xt_ge _ _) hag hn8
  obtain rfl := Option.some.inj hF
  have e1 : y.1 = L6 := by rw [hT]; exact List.append_nil _
  have e2 : y.2 = y4.2 := h2
  refine W.widen (k := y.1.length) (n := wt y.1) (Nat.le_of_eq (by rw [e1])) (Nat.le_of_eq (by rw [e1])) ?_
  exact W.vret hx hb hr (fun t ht hW => ⟨⟨ad7, rfl, hag, (by unfold kE; rw [e1, e2]; exact ⟨by rw [ht]; exact hP, va_K.moved hW.alike hK, hD⟩)⟩, hS.F ht⟩) hS.2.2 dX10_ue_13
set_option maxRecDepth 20000 in
theorem gX11_paint_X0_isOpen : GoodIn wuX11_paint (wsV RX11 324 RX0 yX0_isOpen wuX0_isOpen) := gu_V mw_2366 mw_2367 mw_2368 mw_175 mw_2369
set_option maxRecDepth 20000 in
set_option maxRecDepth 20000 in
theorem gX11_paint_X0_inputSum : GoodIn wuX11_paint (wsV RX11 347 RX0 yX0_inputSum wuX0_inputSum) := gu_V mw_2402 mw_2403 mw_2404 mw_175 mw_2405
set_option maxRecDepth 20000 in
theorem gX11_paint_X0_paintFlat : GoodIn wuX11_paint (wsV RX11 330 RX0 yX0_paintFlat wuX0_paintFlat) := gu_V mw_2371 mw_1128 mw_1129 mw_175 mw_1130
set_option maxRecDepth 20000 in
set_option maxRecDepth 20000 in
theorem gX11_paint_X0_paintSlope : GoodIn wuX11_paint (wsV RX11 334 RX0 yX0_paintSlope wuX0_paintSlope) := gu_V mw_2372 mw_2373 mw_2374 mw_175 mw_2375
set_option maxRecDepth 20000 in
set_option maxRecDepth 20000 in
theorem gX11_paint_X0_paintNoise : GoodIn wuX11_paint (wsV RX11 337 RX0 yX0_paintNoise wuX0_paintNoise) := gu_V mw_2384 mw_2385 mw_2386 mw_175 mw_2387
set_option maxRecDepth 20000 in
set_option maxRecDepth 20000 in
theorem gX11_paint_X0_paintMoved : GoodIn wuX11_paint (wsV RX11 340 RX0 yX0_paintMoved wuX0_paintMoved) := gu_V mw_2391 mw_2392 mw_2393 mw_175 mw_2394
set_option maxRecDepth 20000 in
set_option maxRecDepth 20000 in
theorem gX11_paint_X0_paintSquare : GoodIn wuX11_paint (wsV RX11 344 RX0 yX0_paintSquare wuX0_paintSquare) := gu_V mw_2398 mw_2399 mw_2400 mw_175 mw_2401
set_option maxRecDepth 20000 in
theorem dX11_paint_0 : decode cX11_paint 0 = .ok (.iload_n 1, 1) := by decide +kernel
theorem dX11_paint_1 : decode cX11_paint 1 = .ok (.ifCond .lt 8, 3) := by decide +kernel
theorem dX11_paint_4 : decode cX11_paint 4 = .ok (.iload_n 1, 1) := by decide +kernel
theorem dX11_paint_5 : decode cX11_paint 5 = .ok (.iconst 4, 1) := by decide +kernel
theorem dX11_paint_6 : decode cX11_paint 6 = .ok (.if_icmp .le 14, 3) := by decide +kernel
theorem dX11_paint_9 : decode cX11_paint 9 = .ok (.new 51, 3) := by decide +kernel
theorem dX11_paint_12 : decode cX11_paint 12 = .ok (.dup, 1) := by decide +kernel
theorem dX11_paint_13 : decode cX11_paint 13 = .ok (.ldc_w 322, 3) := by decide +kernel
theorem dX11_paint_16 : decode cX11_paint 16 = .ok (.invokespecial 55, 3) := by decide +kernel
theorem dX11_paint_19 : decode cX11_paint 19 = .ok (.athrow, 1) := by decide +kernel
theorem dX11_paint_20 : decode cX11_paint 20 = .ok (.aload_n 0, 1) := by decide +kernel
theorem dX11_paint_21 : decode cX11_paint 21 = .ok (.getfield 31, 3) := by decide +kernel
theorem dX11_paint_24 : decode cX11_paint 24 = .ok (.invokevirtual 324, 3) := by decide +kernel
theorem dX11_paint_27 : decode cX11_paint 27 = .ok (.ifCond .ne 14, 3) := by decide +kernel
theorem dX11_paint_30 : decode cX11_paint 30 = .ok (.new 40, 3) := by decide +kernel
theorem dX11_paint_33 : decode cX11_paint 33 = .ok (.dup, 1) := by decide +kernel
theorem dX11_paint_34 : decode cX11_paint 34 = .ok (.ldc_w 328, 3) := by decide +kernel
theorem dX11_paint_37 : decode cX11_paint 37 = .ok (.invokespecial 44, 3) := by decide +kernel
theorem dX11_paint_40 : decode cX11_paint 40 = .ok (.athrow, 1) := by decide +kernel
theorem dX11_paint_41 : decode cX11_paint 41 = .ok (.iload_n 1, 1) := by decide +kernel
theorem dX11_paint_42 : decode cX11_paint 42 = .ok (.tableswitch 84 0 3 #[30, 44, 58, 72], 30) := by decide +kernel
theorem dX11_paint_72 : decode cX11_paint 72 = .ok (.aload_n 0, 1) := by decide +kernel
theorem dX11_paint_73 : decode cX11_paint 73 = .ok (.getfield 31, 3) := by decide +kernel
theorem dX11_paint_76 : decode cX11_paint 76 = .ok (.iload_n 2, 1) := by decide +kernel
theorem dX11_paint_77 : decode cX11_paint 77 = .ok (.iload_n 3, 1) := by decide +kernel
theorem dX11_paint_78 : decode cX11_paint 78 = .ok (.iload 4, 2) := by decide +kernel
theorem dX11_paint_80 : decode cX11_paint 80 = .ok (.invokevirtual 330, 3) := by decide +kernel
theorem dX11_paint_83 : decode cX11_paint 83 = .ok (.goto 64, 3) := by decide +kernel
theorem dX11_paint_86 : decode cX11_paint 86 = .ok (.aload_n 0, 1) := by decide +kernel
theorem dX11_paint_87 : decode cX11_paint 87 = .ok (.getfield 31, 3) := by decide +kernel
theorem dX11_paint_90 : decode cX11_paint 90 = .ok (.iload_n 2, 1) := by decide +kernel
theorem dX11_paint_91 : decode cX11_paint 91 = .ok (.iload_n 3, 1) := by decide +kernel
theorem dX11_paint_92 : decode cX11_paint 92 = .ok (.iload 4, 2) := by decide +kernel
theorem dX11_paint_94 : decode cX11_paint 94 = .ok (.invokevirtual 334, 3) := by decide +kernel
theorem dX11_paint_97 : decode cX11_paint 97 = .ok (.goto 50, 3) := by decide +kernel
theorem dX11_paint_100 : decode cX11_paint 100 = .ok (.aload_n 0, 1) := by decide +kernel
theorem dX11_paint_101 : decode cX11_paint 101 = .ok (.getfield 31, 3) := by decide +kernel
theorem dX11_paint_104 : decode cX11_paint 104 = .ok (.iload_n 2, 1) := by decide +kernel
theorem dX11_paint_105 : decode cX11_paint 105 = .ok (.iload_n 3, 1) := by decide +kernel
theorem dX11_paint_106 : decode cX11_paint 106 = .ok (.iload 4, 2) := by decide +kernel
theorem dX11_paint_108 : decode cX11_paint 108 = .ok (.invokevirtual 337, 3) := by decide +kernel
theorem dX11_paint_111 : decode cX11_paint 111 = .ok (.goto 36, 3) := by decide +kernel
theorem dX11_paint_114 : decode cX11_paint 114 = .ok (.aload_n 0, 1) := by decide +kernel
theorem dX11_paint_115 : decode cX11_paint 115 = .ok (.getfield 31, 3) := by decide +kernel
theorem dX11_paint_118 : decode cX11_paint 118 = .ok (.iload_n 2, 1) := by decide +kernel
theorem dX11_paint_119 : decode cX11_paint 119 = .ok (.iload_n 3, 1) := by decide +kernel
theorem dX11_paint_120 : decode cX11_paint 120 = .ok (.invokevirtual 340, 3) := by decide +kernel
theorem dX11_paint_123 : decode cX11_paint 123 = .ok (.goto 24, 3) := by decide +kernel
theorem dX11_paint_126 : decode cX11_paint 126 = .ok (.aload_n 0, 1) := by decide +kernel
theorem dX11_paint_127 : decode cX11_paint 127 = .ok (.getfield 31, 3) := by decide +kernel
theorem dX11_paint_130 : decode cX11_paint 130 = .ok (.iload_n 2, 1) := by decide +kernel
theorem dX11_paint_131 : decode cX11_paint 131 = .ok (.bipush 127, 2) := by decide +kernel
theorem dX11_paint_133 : decode cX11_paint 133 = .ok (.iand, 1) := by decide +kernel
theorem dX11_paint_134 : decode cX11_paint 134 = .ok (.iload_n 3, 1) := by decide +kernel
theorem dX11_paint_135 : decode cX11_paint 135 = .ok (.bipush 127, 2) := by decide +kernel
theorem dX11_paint_137 : decode cX11_paint 137 = .ok (.iand, 1) := by decide +kernel
theorem dX11_paint_138 : decode cX11_paint 138 = .ok (.iload 4, 2) := by decide +kernel
theorem dX11_paint_140 : decode cX11_paint 140 = .ok (.sipush 255, 3) := by decide +kernel
theorem dX11_paint_143 : decode cX11_paint 143 = .ok (.iand, 1) := by decide +kernel
theorem dX11_paint_144 : decode cX11_paint 144 = .ok (.invokevirtual 344, 3) := by decide +kernel
theorem dX11_paint_147 : decode cX11_paint 147 = .ok (.aload_n 0, 1) := by decide +kernel
theorem dX11_paint_148 : decode cX11_paint 148 = .ok (.getfield 31, 3) := by decide +kernel
theorem dX11_paint_151 : decode cX11_paint 151 = .ok (.invokevirtual 347, 3) := by decide +kernel
theorem dX11_paint_154 : decode cX11_paint 154 = .ok (.ireturn, 1) := by decide +kernel
def FX11_paint (G : GG) (M : DD) (a : Nat) (p0 : Int32) (p1 : Int32) (p2 : Int32) (p3 : Int32) : Option (DD × Int32) :=
  bnd (if p0 < ((0 : Int32)) then (none) else
  (some ())) fun (y1 : Unit) =>
  bnd (if p0 ≤ ((4 : Int32)) then (some ()) else
  (none)) fun (y2 : Unit) =>
  dr G 0 ((M.2 a 4)) fun b3 =>
  bnd (FX0_isOpen G M b3) fun y4 =>
  bnd (if y4.2 = ((0 : Int32)) then (none) else
  (some ())) fun (y5 : Unit) =>
  bnd (if p0 = (0 : Int32) then (dr G 0 ((y4.1.2 a 4)) fun b10 =>
  bnd (FX0_paintFlat G y4.1 b10 p1 p2 p3) fun y11 =>
  some (y11)) else
  (if p0 = (1 : Int32) then (dr G 0 ((y4.1.2 a 4)) fun b13 =>
  bnd (FX0_paintSlope G y4.1 b13 p1 p2 p3) fun y14 =>
  some (y14)) else
  (if p0 = (2 : Int32) then (dr G 0 ((y4.1.2 a 4)) fun b16 =>
  bnd (FX0_paintNoise G y4.1 b16 p1 p2 p3) fun y17 =>
  some (y17)) else
  (if p0 = (3 : Int32) then (dr G 0 ((y4.1.2 a 4)) fun b19 =>
  bnd (FX0_paintMoved G y4.1 b19 p1 p2) fun y20 =>
  some (y20)) else
  (chk (p0.toInt < 0 ∨ 3 < p0.toInt) <|
  ltt ((p1 &&& ((127 : Int32)))) fun x21 =>
  ltt ((p2 &&& ((127 : Int32)))) fun x22 =>
  ltt ((p3 &&& ((255 : Int32)))) fun x23 =>
  dr G 0 ((y4.1.2 a 4)) fun b24 =>
  bnd (FX0_paintSquare G y4.1 b24 x21 x22 x23) fun y25 =>
  some (y25)))))) fun (y6 : DD) =>
  dr G 0 ((y6.2 a 4)) fun b7 =>
  bnd (FX0_inputSum G y6 b7) fun y8 =>
  some (y8.1, y8.2)
set_option maxHeartbeats 4000000 in
set_option maxRecDepth 100000 in
theorem kX11_paint (l : Launch) (D : va_G) (ct : CT) (ad : Nat → Nat) (Z : Nat → Nat) (G : GG) (M : DD) (sz : Nat) (a : Nat) (p0 : Int32) (p1 : Int32) (p2 : Int32) (p3 : Int32) (y : DD × Int32) (hc : a < G.1) (hk : G.2.1 a = 11) (hF : FX11_paint G M a p0 p1 p2 p3 = some y) : Met l yX11_paint wuX11_paint ({ frames := 2, cells := 0, slots := 0, locals := 108 }) (va_Pc [.ref (ad a), .int p0, .int p1, .int p2, .int p3] (kB D ct ad Z G M sz)) (va_Qi (fun (q : Int32) (_ : Unit) => q = y.2) (fun _ t => kE D ct ad G (wA ad G sz) y.1 t) (wA ad G sz)) 0 0 (wA ad G sz) := by
  refine Met.ofW (cc := cX11_paint) (maxL := 5) (ret := (some .int)) (by decide) rfl ?_
  intro p e s m args below meth c s₁ B hml hv
  obtain ⟨rfl, hsz, hP, hK, hD0, hZ, hN⟩ := hv
  have hx := B.exec
  have hb := B.bytes
  have hr := B.returns
  have hts := atoms_spec (ws := wuX11_paint) B.pre
  have hown : s.vm.findClass RX11 = some m.cls := findClass_of_methodNamed B.named
  have hlocks := B.notSynchronized
  subst hsz
  have hD := wD_self (sz := s.heap.size) hD0
  have hA9 : ∀ q, s.heap.size ≤ q → wA ad G s.heap.size q := fun q h => Or.inr h
  generalize hAe : wA ad G s.heap.size = A at hD hA9 hZ ⊢
  have hS : va_S A s.heap s.heap [] := va_S.rf
  have hl := lv_entry ([.ref (ad a), .int p0, .int p1, .int p2, .int p3]) (n := 5) (Nat.le_of_ble_eq_true rfl)
  rw [lg_entry_eq]
  generalize (lg_sl ([.ref (ad a), .int p0, .int p1, .int p2, .int p3]) ++ List.replicate (5 - (lg_sl ([.ref (ad a), .int p0, .int p1, .int p2, .int p3])).length) Slot.unset).toArray = ls at hl ⊢
  have hl : lv_has ls 5 [(0, .ref (ad a)), (1, .int p0), (2, .int p1), (3, .int p2), (4, .int p3)] := hl
  unfold FX11_paint at hF
  refine lv_iload_n hx hb dX11_paint_0 rfl (lv_at hl 1 rfl) ?_
  obtain ⟨y1, hy1, hF⟩ := bnd_some hF
  have J1 : ∀ (H : Heap) (locs : List Loc) (ls : Array Slot), va_P D classes (wld ct ad G M) H → va_D A (wld ct ad G M) → va_S A s.heap H locs → lv_has ls 5 [(0, .ref (ad a)), (1, .int p0), (2, .int p1), (3, .int p2), (4, .int p3)] → W p l e (headSpec wuX11_paint ({ frames := 2, cells := 0, slots := 0, locals := 108 })).room s m ([.ref (ad a), .int p0, .int p1, .int p2, .int p3] : List Value).toArray below meth c H locs 0 0 (MQ below (va_Qi (fun (q : Int32) (_ : Unit) => q = y.2) (fun _ t => kE D ct ad G A y.1 t) A) ([.ref (ad a), .int p0, .int p1, .int p2, .int p3] : List Value).toArray s 0 0 A) (F0 m 4 ls []) := by
    intro H locs ls hP hD hS hl
    refine lv_iload_n hx hb dX11_paint_4 rfl (lv_at hl 1 rfl) ?_
    refine lv_iconst (v := (4 : Int32)) hx hb dX11_paint_5 (by decide) ?_
    obtain ⟨y2, hy2, hF⟩ := bnd_some hF
    have J2 : ∀ (H : Heap) (locs : List Loc) (ls : Array Slot), va_P D classes (wld ct ad G M) H → va_D A (wld ct ad G M) → va_S A s.heap H locs → lv_has ls 5 [(0, .ref (ad a)), (1, .int p0), (2, .int p1), (3, .int p2), (4, .int p3)] → W p l e (headSpec wuX11_paint ({ frames := 2, cells := 0, slots := 0, locals := 108 })).room s m ([.ref (ad a), .int p0, .int p1, .int p2, .int p3] : List Value).toArray below meth c H locs 0 0 (MQ below (va_Qi (fun (q : Int32) (_ : Unit) => q = y.2) (fun _ t => kE D ct ad G A y.1 t) A) ([.ref (ad a), .int p0, .int p1, .int p2, .int p3] : List Value).toArray s 0 0 A) (F0 m 20 ls []) := by
      intro H locs ls hP hD hS hl
      refine lv_aload_n hx hb dX11_paint_20 rfl (lv_at hl 0 rfl) ?_
      refine va_get (D := D) (ci := 11) (v := va_re ad (M.2 a 4)) (C := RX11) (T := TX11) (N := 5) hx hb hts (mus hf_X11) hown hK hP a (wld_o ct ad G M hc hk (by decide)) rfl 4 (by decide) (hts (.fieldLink RX11 31 "VideoSuite" "coder" "LVideoSuite$Coder;") (mu mw_886)) (fun _ h9 => h9) rfl dX11_paint_21 ?_
      obtain ⟨b3, ho3, hc3, hk3, hF⟩ := dr_some hF
      refine W_st (st' := [.ref (ad b3)]) (by rw [va_some ho3]) ?_
      obtain ⟨y4, hy4, hF⟩ := bnd_some hF
      have hf9 := wA_in hD hA9 hS
      refine va_calli (va_runV (As := []) (rest := []) ⟨hx, hb, hml, hown, hts⟩ (kX0_isOpen l D ct ad Z G M H.size b3 y4 hc3 hk3 hy4) (cwV 0 hts gX11_paint_X0_isOpen rfl rfl rfl (by decide +kernel) ⟨Nat.le_of_ble_eq_true rfl, Nat.le_of_ble_eq_true rfl⟩) ⟨fun a U g mk q => by obtain ⟨q0, q1, qP, qK, qD, qZ, qN⟩ := q; exact ⟨q0, q1, qP, va_K.moved (u := U) (U := U.calling g mk a) (Vm.Alike.refl U.vm) qK, qD, sF.moved (u := U) (U := U.calling g mk a) (Vm.Alike.refl U.vm) qZ, nF.same rfl qN⟩, va_recv hK hP (ci := 0) (q0 := b3) rfl (wld_o ct ad G M hc3 hk3 (by decide)), fun U hU hW => ⟨rfl, by rw [hU], by rw [hU]; exact hP, va_K.moved hW.alike hK, hD.weaken (fun _ _ _ _ => trivial), by rw [hU]; exact ((hZ.kept hS.2.1).narrow hf9).moved hW.alike, hN.warm hW⟩⟩ rfl rfl hl.1 rfl (lv_room (Nat.le_of_ble_eq_true rfl)) dX11_paint_24 ⟨(Nat.zero_le _), (Nat.zero_le _)⟩) hS (fun q _ h => hf9 q h) hf9 (fun r u t H locs ht hvm hw hB hz1 hk1 hS => ?_)
      obtain ⟨hP, hK9, hD9⟩ := hB
      rw [ht] at hP
      try dsimp only at hw
      subst hw
      have hD := hD9.weaken (fun _ q _ h => hf9 q.1 h)
      obtain ⟨y5, hy5, hF⟩ := bnd_some hF
      have J5 : ∀ (H : Heap) (locs : List Loc) (ls : Array Slot), va_P D classes (wld ct ad G y4.1) H → va_D A (wld ct ad G y4.1) → va_S A s.heap H locs → lv_has ls 5 [(0, .ref (ad a)), (1, .int p0), (2, .int p1), (3, .int p2), (4, .int p3)] → W p l e (headSpec wuX11_paint ({ frames := 2, cells := 0, slots := 0, locals := 108 })).room s m ([.ref (ad a), .int p0, .int p1, .int p2, .int p3] : List Value).toArray below meth c H locs 0 0 (MQ below (va_Qi (fun (q : Int32) (_ : Unit) => q = y.2) (fun _ t => kE D ct ad G A y.1 t) A) ([.ref (ad a), .int p0, .int p1, .int p2, .int p3] : List Value).toArray s 0 0 A) (F0 m 41 ls []) := by
        intro H locs ls hP hD hS hl
        refine lv_iload_n hx hb dX11_paint_41 rfl (lv_at hl 1 rfl) ?_
        obtain ⟨y6, hy6, hF⟩ := bnd_some hF
        have J6 : ∀ (H : Heap) (locs : List Loc) (ls : Array Slot), va_P D classes (wld ct ad G y6) H → va_D A (wld ct ad G y6) → va_S A s.heap H locs → lv_has ls 5 [(0, .ref (ad a)), (1, .int p0), (2, .int p1), (3, .int p2), (4, .int p3)] → W p l e (headSpec wuX11_paint ({ frames := 2, cells := 0, slots := 0, locals := 108 })).room s m ([.ref (ad a), .int p0, .int p1, .int p2, .int p3] : List Value).toArray below meth c H locs 0 0 (MQ below (va_Qi (fun (q : Int32) (_ : Unit) => q = y.2) (fun _ t => kE D ct ad G A y.1 t) A) ([.ref (ad a), .int p0, .int p1, .int p2, .int p3] : List Value).toArray s 0 0 A) (F0 m 147 ls []) := by
          intro H locs ls hP hD hS hl
          refine lv_aload_n hx hb dX11_paint_147 rfl (lv_at hl 0 rfl) ?_
          refine va_get (D := D) (ci := 11) (v := va_re ad (y6.2 a 4)) (C := RX11) (T := TX11) (N := 5) hx hb hts (mus hf_X11) hown hK hP a (wld_o ct ad G y6 hc hk (by decide)) rfl 4 (by decide) (hts (.fieldLink RX11 31 "VideoSuite" "coder" "LVideoSuite$Coder;") (mu mw_886)) (fun _ h9 => h9) rfl dX11_paint_148 ?_
          obtain ⟨b7, ho7, hc7, hk7, hF⟩ := dr_some hF
          refine W_st (st' := [.ref (ad b7)]) (by rw [va_some ho7]) ?_
          obtain ⟨y8, hy8, hF⟩ := bnd_some hF
          have hf9 := wA_in hD hA9 hS
          refine va_calli (va_runV (As := []) (rest := []) ⟨hx, hb, hml, hown, hts⟩ (kX0_inputSum l D ct ad Z G y6 H.size b7 y8 hc7 hk7 hy8) (cwV 0 hts gX11_paint_X0_inputSum rfl rfl rfl (by decide +kernel) ⟨Nat.le_of_ble_eq_true rfl, Nat.le_of_ble_eq_true rfl⟩) ⟨fun a U g mk q => by obtain ⟨q0, q1, qP, qK, qD, qZ, qN⟩ := q; exact ⟨q0, q1, qP, va_K.moved (u := U) (U := U.calling g mk a) (Vm.Alike.refl U.vm) qK, qD, sF.moved (u := U) (U := U.calling g mk a) (Vm.Alike.refl U.vm) qZ, nF.same rfl qN⟩, va_recv hK hP (ci := 0) (q0 := b7) rfl (wld_o ct ad G y6 hc7 hk7 (by decide)), fun U hU hW => ⟨rfl, by rw [hU], by rw [hU]; exact hP, va_K.moved hW.alike hK, hD.weaken (fun _ _ _ _ => trivial), by rw [hU]; exact ((hZ.kept hS.2.1).narrow hf9).moved hW.alike, hN.warm hW⟩⟩ rfl rfl hl.1 rfl (lv_room (Nat.le_of_ble_eq_true rfl)) dX11_paint_151 ⟨(Nat.zero_le _), (Nat.zero_le _)⟩) hS (fun q _ h => hf9 q h) hf9 (fun r u t H locs ht hvm hw hB hz1 hk1 hS => ?_)
          obtain ⟨hP, hK9, hD9⟩ := hB
          rw [ht] at hP
          try dsimp only at hw
          subst hw
          have hD := hD9.weaken (fun _ q _ h => hf9 q.1 h)
          obtain rfl := Option.some.inj hF
          exact W.iret (v := y8.2) hx hb hr (fun t ht hW => ⟨⟨_, (), rfl, rfl, ⟨by rw [ht]; exact hP, va_K.moved hW.alike hK, hD⟩⟩, hS.F ht⟩) hS.2.2 dX11_paint_154
        clear hF
        have hF := hy6
        clear hy6
        by_cases c9 : p0 = (0 : Int32)
        · rw [if_pos c9] at hF
          refine lv_tableIn (tgt := 72) hx hb dX11_paint_42 (by rw [c9]; decide) (by rw [c9]; decide) (by rw [c9]; rfl) (by decide) ?_
          refine lv_aload_n hx hb dX11_paint_72 rfl (lv_at hl 0 rfl) ?_
          refine va_get (D := D) (ci := 11) (v := va_re ad (y4.1.2 a 4)) (C := RX11) (T := TX11) (N := 5) hx hb hts (mus hf_X11) hown hK hP a (wld_o ct ad G y4.1 hc hk (by decide)) rfl 4 (by decide) (hts (.fieldLink RX11 31 "VideoSuite" "coder" "LVideoSuite$Coder;") (mu mw_886)) (fun _ h9 => h9) rfl dX11_paint_73 ?_
          refine lv_iload_n hx hb dX11_paint_76 rfl (lv_at hl 2 rfl) ?_
          refine lv_iload_n hx hb dX11_paint_77 rfl (lv_at hl 3 rfl) ?_
          refine lv_iload hx hb dX11_paint_78 (lv_at hl 4 rfl) ?_
          obtain ⟨b10, ho10, hc10, hk10, hF⟩ := dr_some hF
          refine W_st (st' := [.int p3, .int p2, .int p1, .ref (ad b10)]) (by rw [va_some ho10]) ?_
          obtain ⟨y11, hy11, hF⟩ := bnd_some hF
          have hf9 := wA_in hD hA9 hS
          refine va_callv (va_runV (As := [.int p1, .int p2, .int p3]) (rest := []) ⟨hx, hb, hml, hown, hts⟩ (kX0_paintFlat l D ct ad Z G y4.1 H.size b10 p1 p2 p3 y11 hc10 hk10 hy11) (cwV 3 hts gX11_paint_X0_paintFlat rfl rfl rfl (by decide +kernel) ⟨Nat.le_of_ble_eq_true rfl, Nat.le_of_ble_eq_true rfl⟩) ⟨fun a U g mk q => by obtain ⟨q0, q1, qP, qK, qD, qZ, qN⟩ := q; exact ⟨q0, q1, qP, va_K.moved (u := U) (U := U.calling g mk a) (Vm.Alike.refl U.vm) qK, qD, sF.moved (u := U) (U := U.calling g mk a) (Vm.Alike.refl U.vm) qZ, nF.same rfl qN⟩, va_recv hK hP (ci := 0) (q0 := b10) rfl (wld_o ct ad G y4.1 hc10 hk10 (by decide)), fun U hU hW => ⟨rfl, by rw [hU], by rw [hU]; exact hP, va_K.moved hW.alike hK, hD.weaken (fun _ _ _ _ => trivial), by rw [hU]; exact ((hZ.kept hS.2.1).narrow hf9).moved hW.alike, hN.warm hW⟩⟩ rfl rfl hl.1 rfl (lv_room (Nat.le_of_ble_eq_true rfl)) dX11_paint_80 ⟨(Nat.zero_le _), (Nat.zero_le _)⟩) hS (fun q _ h => hf9 q h) hf9 (fun u t H locs ht hvm hw hB hz1 hk1 hS => ?_)
          obtain ⟨hP, hK9, hD9⟩ := hB
          rw [ht] at hP
          have hD := hD9.weaken (fun _ q _ h => hf9 q.1 h)
          refine lv_goto (tgt := 147) hx hb dX11_paint_83 (by decide) ?_
          obtain rfl := Option.some.inj hF
          exact J6 _ _ _ hP hD hS (lv_sub hl [0, 1, 2, 3, 4] rfl)
        · rw [if_neg c9] at hF
          by_cases c12 : p0 = (1 : Int32)
          · rw [if_pos c12] at hF
            refine lv_tableIn (tgt := 86) hx hb dX11_paint_42 (by rw [c12]; decide) (by rw [c12]; decide) (by rw [c12]; rfl) (by decide) ?_
            refine lv_aload_n hx hb dX11_paint_86 rfl (lv_at hl 0 rfl) ?_
            refine va_get (D := D) (ci := 11) (v := va_re ad (y4.1.2 a 4)) (C := RX11) (T := TX11) (N := 5) hx hb hts (mus hf_X11) hown hK hP a (wld_o ct ad G y4.1 hc hk (by decide)) rfl 4 (by decide) (hts (.fieldLink RX11 31 "VideoSuite" "coder" "LVideoSuite$Coder;") (mu mw_886)) (fun _ h9 => h9) rfl dX11_paint_87 ?_
            refine lv_iload_n hx hb dX11_paint_90 rfl (lv_at hl 2 rfl) ?_
            refine lv_iload_n hx hb dX11_paint_91 rfl (lv_at hl 3 rfl) ?_
            refine lv_iload hx hb dX11_paint_92 (lv_at hl 4 rfl) ?_
            obtain ⟨b13, ho13, hc13, hk13, hF⟩ := dr_some hF
            refine W_st (st' := [.int p3, .int p2, .int p1, .ref (ad b13)]) (by rw [va_some ho13]) ?_
            obtain ⟨y14, hy14, hF⟩ := bnd_some hF
            have hf9 := wA_in hD hA9 hS
            refine va_callv (va_runV (As := [.int p1, .int p2, .int p3]) (rest := []) ⟨hx, hb, hml, hown, hts⟩ (kX0_paintSlope l D ct ad Z G y4.1 H.size b13 p1 p2 p3 y14 hc13 hk13 hy14) (cwV 3 hts gX11_paint_X0_paintSlope rfl rfl rfl (by decide +kernel) ⟨Nat.le_of_ble_eq_true rfl, Nat.le_of_ble_eq_true rfl⟩) ⟨fun a U g mk q => by obtain ⟨q0, q1, qP, qK, qD, qZ, qN⟩ := q; exact ⟨q0, q1, qP, va_K.moved (u := U) (U := U.calling g mk a) (Vm.Alike.refl U.vm) qK, qD, sF.moved (u := U) (U := U.calling g mk a) (Vm.Alike.refl U.vm) qZ, nF.same rfl qN⟩, va_recv hK hP (ci := 0) (q0 := b13) rfl (wld_o ct ad G y4.1 hc13 hk13 (by decide)), fun U hU hW => ⟨rfl, by rw [hU], by rw [hU]; exact hP, va_K.moved hW.alike hK, hD.weaken (fun _ _ _ _ => trivial), by rw [hU]; exact ((hZ.kept hS.2.1).narrow hf9).moved hW.alike, hN.warm hW⟩⟩ rfl rfl hl.1 rfl (lv_room (Nat.le_of_ble_eq_true rfl)) dX11_paint_94 ⟨(Nat.zero_le _), (Nat.zero_le _)⟩) hS (fun q _ h => hf9 q h) hf9 (fun u t H locs ht hvm hw hB hz1 hk1 hS => ?_)
            obtain ⟨hP, hK9, hD9⟩ := hB
            rw [ht] at hP
            have hD := hD9.weaken (fun _ q _ h => hf9 q.1 h)
            refine lv_goto (tgt := 147) hx hb dX11_paint_97 (by decide) ?_
            obtain rfl := Option.some.inj hF
            exact J6 _ _ _ hP hD hS (lv_sub hl [0, 1, 2, 3, 4] rfl)
          · rw [if_neg c12] at hF
            by_cases c15 : p0 = (2 : Int32)
            · rw [if_pos c15] at hF
              refine lv_tableIn (tgt := 100) hx hb dX11_paint_42 (by rw [c15]; decide) (by rw [c15]; decide) (by rw [c15]; rfl) (by decide) ?_
              refine lv_aload_n hx hb dX11_paint_100 rfl (lv_at hl 0 rfl) ?_
              refine va_get (D := D) (ci := 11) (v := va_re ad (y4.1.2 a 4)) (C := RX11) (T := TX11) (N := 5) hx hb hts (mus hf_X11) hown hK hP a (wld_o ct ad G y4.1 hc hk (by decide)) rfl 4 (by decide) (hts (.fieldLink RX11 31 "VideoSuite" "coder" "LVideoSuite$Coder;") (mu mw_886)) (fun _ h9 => h9) rfl dX11_paint_101 ?_
              refine lv_iload_n hx hb dX11_paint_104 rfl (lv_at hl 2 rfl) ?_
              refine lv_iload_n hx hb dX11_paint_105 rfl (lv_at hl 3 rfl) ?_
              refine lv_iload hx hb dX11_paint_106 (lv_at hl 4 rfl) ?_
              obtain ⟨b16, ho16, hc16, hk16, hF⟩ := dr_some hF
              refine W_st (st' := [.int p3, .int p2, .int p1, .ref (ad b16)]) (by rw [va_some ho16]) ?_
              obtain ⟨y17, hy17, hF⟩ := bnd_some hF
              have hf9 := wA_in hD hA9 hS
              refine va_callv (va_runV (As := [.int p1, .int p2, .int p3]) (rest := []) ⟨hx, hb, hml, hown, hts⟩ (kX0_paintNoise l D ct ad Z G y4.1 H.size b16 p1 p2 p3 y17 hc16 hk16 hy17) (cwV 3 hts gX11_paint_X0_paintNoise rfl rfl rfl (by decide +kernel) ⟨Nat.le_of_ble_eq_true rfl, Nat.le_of_ble_eq_true rfl⟩) ⟨fun a U g mk q => by obtain ⟨q0, q1, qP, qK, qD, qZ, qN⟩ := q; exact ⟨q0, q1, qP, va_K.moved (u := U) (U := U.calling g mk a) (Vm.Alike.refl U.vm) qK, qD, sF.moved (u := U) (U := U.calling g mk a) (Vm.Alike.refl U.vm) qZ, nF.same rfl qN⟩, va_recv hK hP (ci := 0) (q0 := b16) rfl (wld_o ct ad G y4.1 hc16 hk16 (by decide)), fun U hU hW => ⟨rfl, by rw [hU], by rw [hU]; exact hP, va_K.moved hW.alike hK, hD.weaken (fun _ _ _ _ => trivial), by rw [hU]; exact ((hZ.kept hS.2.1).narrow hf9).moved hW.alike, hN.warm hW⟩⟩ rfl rfl hl.1 rfl (lv_room (Nat.le_of_ble_eq_true rfl)) dX11_paint_108 ⟨(Nat.zero_le _), (Nat.zero_le _)⟩) hS (fun q _ h => hf9 q h) hf9 (fun u t H locs ht hvm hw hB hz1 hk1 hS => ?_)
              obtain ⟨hP, hK9, hD9⟩ := hB
              rw [ht] at hP
              have hD := hD9.weaken (fun _ q _ h => hf9 q.1 h)
              refine lv_goto (tgt := 147) hx hb dX11_paint_111 (by decide) ?_
              obtain rfl := Option.some.inj hF
              exact J6 _ _ _ hP hD hS (lv_sub hl [0, 1, 2, 3, 4] rfl)
            · rw [if_neg c15] at hF
              by_cases c18 : p0 = (3 : Int32)
              · rw [if_pos c18] at hF
                refine lv_tableIn (tgt := 114) hx hb dX11_paint_42 (by rw [c18]; decide) (by rw [c18]; decide) (by rw [c18]; rfl) (by decide) ?_
                refine lv_aload_n hx hb dX11_paint_114 rfl (lv_at hl 0 rfl) ?_
                refine va_get (D := D) (ci := 11) (v := va_re ad (y4.1.2 a 4)) (C := RX11) (T := TX11) (N := 5) hx hb hts (mus hf_X11) hown hK hP a (wld_o ct ad G y4.1 hc hk (by decide)) rfl 4 (by decide) (hts (.fieldLink RX11 31 "VideoSuite" "coder" "LVideoSuite$Coder;") (mu mw_886)) (fun _ h9 => h9) rfl dX11_paint_115 ?_
                refine lv_iload_n hx hb dX11_paint_118 rfl (lv_at hl 2 rfl) ?_
                refine lv_iload_n hx hb dX11_paint_119 rfl (lv_at hl 3 rfl) ?_
                obtain ⟨b19, ho19, hc19, hk19, hF⟩ := dr_some hF
                refine W_st (st' := [.int p2, .int p1, .ref (ad b19)]) (by rw [va_some ho19]) ?_
                obtain ⟨y20, hy20, hF⟩ := bnd_some hF
                have hf9 := wA_in hD hA9 hS
                refine va_callv (va_runV (As := [.int p1, .int p2]) (rest := []) ⟨hx, hb, hml, hown, hts⟩ (kX0_paintMoved l D ct ad Z G y4.1 H.size b19 p1 p2 y20 hc19 hk19 hy20) (cwV 2 hts gX11_paint_X0_paintMoved rfl rfl rfl (by decide +kernel) ⟨Nat.le_of_ble_eq_true rfl, Nat.le_of_ble_eq_true rfl⟩) ⟨fun a U g mk q => by obtain ⟨q0, q1, qP, qK, qD, qZ, qN⟩ := q; exact ⟨q0, q1, qP, va_K.moved (u := U) (U := U.calling g mk a) (Vm.Alike.refl U.vm) qK, qD, sF.moved (u := U) (U := U.calling g mk a) (Vm.Alike.refl U.vm) qZ, nF.same rfl qN⟩, va_recv hK hP (ci := 0) (q0 := b19) rfl (wld_o ct ad G y4.1 hc19 hk19 (by decide)), fun U hU hW => ⟨rfl, by rw [hU], by rw [hU]; exact hP, va_K.moved hW.alike hK, hD.weaken (fun _ _ _ _ => trivial), by rw [hU]; exact ((hZ.kept hS.2.1).narrow hf9).moved hW.alike, hN.warm hW⟩⟩ rfl rfl hl.1 rfl (lv_room (Nat.le_of_ble_eq_true rfl)) dX11_paint_120 ⟨(Nat.zero_le _), (Nat.zero_le _)⟩) hS (fun q _ h => hf9 q h) hf9 (fun u t H locs ht hvm hw hB hz1 hk1 hS => ?_)
                obtain ⟨hP, hK9, hD9⟩ := hB
                rw [ht] at hP
                have hD := hD9.weaken (fun _ q _ h => hf9 q.1 h)
                refine lv_goto (tgt := 147) hx hb dX11_paint_123 (by decide) ?_
                obtain rfl := Option.some.inj hF
                exact J6 _ _ _ hP hD hS (lv_sub hl [0, 1, 2, 3, 4] rfl)
              · rw [if_neg c18] at hF
                obtain ⟨hsw, hF⟩ := chk_some hF
                refine lv_tableOut (tgt := 126) hx hb dX11_paint_42 hsw (by decide) ?_
                refine lv_aload_n hx hb dX11_paint_126 rfl (lv_at hl 0 rfl) ?_
                refine va_get (D := D) (ci := 11) (v := va_re ad (y4.1.2 a 4)) (C := RX11) (T := TX11) (N := 5) hx hb hts (mus hf_X11) hown hK hP a (wld_o ct ad G y4.1 hc hk (by decide)) rfl 4 (by decide) (hts (.fieldLink RX11 31 "VideoSuite" "coder" "LVideoSuite$Coder;") (mu mw_886)) (fun _ h9 => h9) rfl dX11_paint_127 ?_
                refine lv_iload_n hx hb dX11_paint_130 rfl (lv_at hl 2 rfl) ?_
                refine lv_bipush (v := (127 : Int32)) hx hb dX11_paint_131 (by decide) ?_
                refine lv_iand hx hb dX11_paint_133 ?_
                obtain ⟨x21, ex21, hF⟩ := ltt_some hF
                refine lv_topi (fun zx21 ezx21 => ?_)
                obtain rfl : x21 = zx21 := ex21.trans ezx21.symm
                refine lv_iload_n hx hb dX11_paint_134 rfl (lv_at hl 3 rfl) ?_
                refine lv_bipush (v := (127 : Int32)) hx hb dX11_paint_135 (by decide) ?_
                refine lv_iand hx hb dX11_paint_137 ?_
                obtain ⟨x22, ex22, hF⟩ := ltt_some hF
                refine lv_topi (fun zx22 ezx22 => ?_)
                obtain rfl : x22 = zx22 := ex22.trans ezx22.symm
                refine lv_iload hx hb dX11_paint_138 (lv_at hl 4 rfl) ?_
                refine lv_sipush (v := (255 : Int32)) hx hb dX11_paint_140 (by decide) ?_
                refine lv_iand hx hb dX11_paint_143 ?_
                obtain ⟨x23, ex23, hF⟩ := ltt_some hF
                refine lv_topi (fun zx23 ezx23 => ?_)
                obtain rfl : x23 = zx23 := ex23.trans ezx23.symm
                obtain ⟨b24, ho24, hc24, hk24, hF⟩ := dr_some hF
                refine W_st (st' := [.int x23, .int x22, .int x21, .ref (ad b24)]) (by rw [va_some ho24]) ?_
                obtain ⟨y25, hy25, hF⟩ := bnd_some hF
                have hf9 := wA_in hD hA9 hS
                refine va_callv (va_runV (As := [.int x21, .int x22, .int x23]) (rest := []) ⟨hx, hb, hml, hown, hts⟩ (kX0_paintSquare l D ct ad Z G y4.1 H.size b24 x21 x22 x23 y25 hc24 hk24 hy25) (cwV 3 hts gX11_paint_X0_paintSquare rfl rfl rfl (by decide +kernel) ⟨Nat.le_of_ble_eq_true rfl, Nat.le_of_ble_eq_true rfl⟩) ⟨fun a U g mk q => by obtain ⟨q0, q1, qP, qK, qD, qZ, qN⟩ := q; exact ⟨q0, q1, qP, va_K.moved (u := U) (U := U.calling g mk a) (Vm.Alike.refl U.vm) qK, qD, sF.moved (u := U) (U := U.calling g mk a) (Vm.Alike.refl U.vm) qZ, nF.same rfl qN⟩, va_recv hK hP (ci := 0) (q0 := b24) rfl (wld_o ct ad G y4.1 hc24 hk24 (by decide)), fun U hU hW => ⟨rfl, by rw [hU], by rw [hU]; exact hP, va_K.moved hW.alike hK, hD.weaken (fun _ _ _ _ => trivial), by rw [hU]; exact ((hZ.kept hS.2.1).narrow hf9).moved hW.alike, hN.warm hW⟩⟩ rfl rfl hl.1 rfl (lv_room (Nat.le_of_ble_eq_true rfl)) dX11_paint_144 ⟨(Nat.zero_le _), (Nat.zero_le _)⟩) hS (fun q _ h => hf9 q h) hf9 (fun u t H locs ht hvm hw hB hz1 hk1 hS => ?_)
                obtain ⟨hP, hK9, hD9⟩ := hB
                rw [ht] at hP
                have hD := hD9.weaken (fun _ q _ h => hf9 q.1 h)
                obtain rfl := Option.some.inj hF
                exact J6 _ _ _ hP hD hS (lv_sub hl [0, 1, 2, 3, 4] rfl)
      clear hF
      have hF := hy5
      clear hy5
      refine lv_if_ne (tgt := 41) hx hb dX11_paint_27 (by decide) (fun c26 => ?_) (fun c26 => ?_)
      · rw [if_neg c26] at hF
        obtain rfl := Option.some.inj hF
        exact J5 _ _ _ hP hD hS (lv_sub hl [0, 1, 2, 3, 4] rfl)
      · rw [if_pos c26] at hF
        cases hF
    clear hF
    have hF := hy2
    clear hy2
    refine lv_icmp_le (tgt := 20) hx hb dX11_paint_6 (by decide) (fun c27 => ?_) (fun c27 => ?_)
    · rw [if_pos c27] at hF
      obtain rfl := Option.some.inj hF
      exact J2 _ _ _ hP hD hS (lv_sub hl [0, 1, 2, 3, 4] rfl)
    · rw [if_neg c27] at hF
      cases hF
  clear hF
  have hF := hy1
  clear hy1
  refine lv_if_lt (tgt := 9) hx hb dX11_paint_1 (by decide) (fun c28 => ?_) (fun c28 => ?_)
  · rw [if_pos c28] at hF
    cases hF
  · rw [if_neg c28] at hF
    obtain rfl := Option.some.inj hF
    exact J1 _ _ _ hP hD hS (lv_sub hl [0, 1, 2, 3, 4] rfl)
set_option maxRecDepth 20000 in
theorem gX11_picture_X7_keeps : GoodIn wuX11_picture (wsV RX11 158 RX7 yX7_keeps wuX7_keeps) := gu_V mw_2299 mw_2300 mw_2301 mw_170 mw_2302
set_option maxRecDepth 20000 in
set_option maxRecDepth 20000 in
theorem gX11_picture_X7_fact : GoodIn wuX11_picture (wsV RX11 163 RX7 yX7_fact wuX7_fact) := gu_V mw_2319 mw_2320 mw_2321 mw_170 mw_2322
theorem dX11_picture_0 : decode cX11_picture 0 = .ok (.iload_n 2, 1) := by decide +kernel
theorem dX11_picture_1 : decode cX11_picture 1 = .ok (.ifCond .lt 9, 3) := by decide +kernel
theorem dX11_picture_4 : decode cX11_picture 4 = .ok (.iload_n 2, 1) := by decide +kernel
theorem dX11_picture_5 : decode cX11_picture 5 = .ok (.bipush 6, 2) := by decide +kernel
theorem dX11_picture_7 : decode cX11_picture 7 = .ok (.if_icmp .le 13, 3) := by decide +kernel
theorem dX11_picture_10 : decode cX11_picture 10 = .ok (.new 51, 3) := by decide +kernel
theorem dX11_picture_13 : decode cX11_picture 13 = .ok (.dup, 1) := by decide +kernel
theorem dX11_picture_14 : decode cX11_picture 14 = .ok (.ldc 85, 2) := by decide +kernel
theorem dX11_picture_16 : decode cX11_picture 16 = .ok (.invokespecial 55, 3) := by decide +kernel
theorem dX11_picture_19 : decode cX11_picture 19 = .ok (.athrow, 1) := by decide +kernel
theorem dX11_picture_20 : decode cX11_picture 20 = .ok (.aload_n 0, 1) := by decide +kernel
theorem dX11_picture_21 : decode cX11_picture 21 = .ok (.getfield 24, 3) := by decide +kernel
theorem dX11_picture_24 : decode cX11_picture 24 = .ok (.getfield 146, 3) := by decide +kernel
theorem dX11_picture_27 : decode cX11_picture 27 = .ok (.iload_n 1, 1) := by decide +kernel
theorem dX11_picture_28 : decode cX11_picture 28 = .ok (.invokevirtual 158, 3) := by decide +kernel
theorem dX11_picture_31 : decode cX11_picture 31 = .ok (.ifCond .ne 13, 3) := by decide +kernel
theorem dX11_picture_34 : decode cX11_picture 34 = .ok (.new 91, 3) := by decide +kernel
theorem dX11_picture_37 : decode cX11_picture 37 = .ok (.dup, 1) := by decide +kernel
theorem dX11_picture_38 : decode cX11_picture 38 = .ok (.ldc 161, 2) := by decide +kernel
theorem dX11_picture_40 : decode cX11_picture 40 = .ok (.invokespecial 95, 3) := by decide +kernel
theorem dX11_picture_43 : decode cX11_picture 43 = .ok (.athrow, 1) := by decide +kernel
theorem dX11_picture_44 : decode cX11_picture 44 = .ok (.aload_n 0, 1) := by decide +kernel
theorem dX11_picture_45 : decode cX11_picture 45 = .ok (.getfield 24, 3) := by decide +kernel
theorem dX11_picture_48 : decode cX11_picture 48 = .ok (.getfield 146, 3) := by decide +kernel
theorem dX11_picture_51 : decode cX11_picture 51 = .ok (.iload_n 1, 1) := by decide +kernel
theorem dX11_picture_52 : decode cX11_picture 52 = .ok (.iload_n 2, 1) := by decide +kernel
theorem dX11_picture_53 : decode cX11_picture 53 = .ok (.invokevirtual 163, 3) := by decide +kernel
theorem dX11_picture_56 : decode cX11_picture 56 = .ok (.ireturn, 1) := by decide +kernel
def FX11_picture (G : GG) (M : DD) (a : Nat) (p0 : Int32) (p1 : Int32) : Option (DD × Int32) :=
  bnd (if p1 < ((0 : Int32)) then (none) else
  (some ())) fun (y1 : Unit) =>
  bnd (if p1 ≤ ((6 : Int32)) then (some ()) else
  (none)) fun (y2 : Unit) =>
  dr G 1 ((M.2 a 3)) fun b3 =>
  dr G 7 ((M.2 b3 1)) fun b4 =>
  bnd (FX7_keeps G M b4 p0) fun y5 =>
  bnd (if y5.2 = ((0 : Int32)) then (none) else
  (some ())) fun (y6 : Unit) =>
  dr G 1 ((y5.1.2 a 3)) fun b7 =>
  dr G 7 ((y5.1.2 b7 1)) fun b8 =>
  bnd (FX7_fact G y5.1 b8 p0 p1) fun y9 =>
  some (y9.1, y9.2)
set_option maxHeartbeats 4000000 in
set_option maxRecDepth 100000 in
theorem kX11_picture (l : Launch) (D : va_G) (ct : CT) (ad : Nat → Nat) (Z : Nat → Nat) (G : GG) (M : DD) (sz : Nat) (a : Nat) (p0 : Int32) (p1 : Int32) (y : DD × Int32) (hc : a < G.1) (hk : G.2.1 a = 11) (hF : FX11_picture G M a p0 p1 = some y) : Met l yX11_picture wuX11_picture ({ frames := 1, cells := 0, slots := 0, locals := 22 }) (va_Pc [.ref (ad a), .int p0, .int p1] (kB D ct ad Z G M sz)) (va_Qi (fun (q : Int32) (_ : Unit) => q = y.2) (fun _ t => kE D ct ad G (wA ad G sz) y.1 t) (wA ad G sz)) 0 0 (wA ad G sz) := by
  refine Met.ofW (cc := cX11_picture) (maxL := 3) (ret := (some .int)) (by decide) rfl ?_
  intro p e s m args below meth c s₁ B hml hv
  obtain ⟨rfl, hsz, hP, hK, hD0, hZ, hN⟩ := hv
  have hx := B.exec
  have hb := B.bytes
  have hr := B.returns
  have hts := atoms_spec (ws := wuX11_picture) B.pre
  have hown : s.vm.findClass RX11 = some m.cls := findClass_of_methodNamed B.named
  have hlocks := B.notSynchronized
  subst hsz
  have hD := wD_self (sz := s.heap.size) hD0
  have hA9 : ∀ q, s.heap.size ≤ q → wA ad G s.heap.size q := fun q h => Or.inr h
  generalize hAe : wA ad G s.heap.size = A at hD hA9 hZ ⊢
  have hS : va_S A s.heap s.heap [] := va_S.rf
  have hl := lv_entry ([.ref (ad a), .int p0, .int p1]) (n := 3) (Nat.le_of_ble_eq_true rfl)
  rw [lg_entry_eq]
  generalize (lg_sl ([.ref (ad a), .int p0, .int p1]) ++ List.replicate (3 - (lg_sl ([.ref (ad a), .int p0, .int p1])).length) Slot.unset).toArray = ls at hl ⊢
  have hl : lv_has ls 3 [(0, .ref (ad a)), (1, .int p0), (2, .int p1)] := hl
  unfold FX11_picture at hF
  refine lv_iload_n hx hb dX11_picture_0 rfl (lv_at hl 2 rfl) ?_
  obtain ⟨y1, hy1, hF⟩ := bnd_some hF
  have J1 : ∀ (H : Heap) (locs : List Loc) (ls : Array Slot), va_P D classes (wld ct ad G M) H → va_D A (wld ct ad G M) → va_S A s.heap H locs → lv_has ls 3 [(0, .ref (ad a)), (1, .int p0), (2, .int p1)] → W p l e (headSpec wuX11_picture ({ frames := 1, cells := 0, slots := 0, locals := 22 })).room s m ([.ref (ad a), .int p0, .int p1] : List Value).toArray below meth c H locs 0 0 (MQ below (va_Qi (fun (q : Int32) (_ : Unit) => q = y.2) (fun _ t => kE D ct ad G A y.1 t) A) ([.ref (ad a), .int p0, .int p1] : List Value).toArray s 0 0 A) (F0 m 4 ls []) := by
    intro H locs ls hP hD hS hl
    refine lv_iload_n hx hb dX11_picture_4 rfl (lv_at hl 2 rfl) ?_
    refine lv_bipush (v := (6 : Int32)) hx hb dX11_picture_5 (by decide) ?_
    obtain ⟨y2, hy2, hF⟩ := bnd_some hF
    have J2 : ∀ (H : Heap) (locs : List Loc) (ls : Array Slot), va_P D classes (wld ct ad G M) H → va_D A (wld ct ad G M) → va_S A s.heap H locs → lv_has ls 3 [(0, .ref (ad a)), (1, .int p0), (2, .int p1)] → W p l e (headSpec wuX11_picture ({ frames := 1, cells := 0, slots := 0, locals := 22 })).room s m ([.ref (ad a), .int p0, .int p1] : List Value).toArray below meth c H locs 0 0 (MQ below (va_Qi (fun (q : Int32) (_ : Unit) => q = y.2) (fun _ t => kE D ct ad G A y.1 t) A) ([.ref (ad a), .int p0, .int p1] : List Value).toArray s 0 0 A) (F0 m 20 ls []) := by
      intro H locs ls hP hD hS hl
      refine lv_aload_n hx hb dX11_picture_20 rfl (lv_at hl 0 rfl) ?_
      refine va_get (D := D) (ci := 11) (v := va_re ad (M.2 a 3)) (C := RX11) (T := TX11) (N := 5) hx hb hts (mus hf_X11) hown hK hP a (wld_o ct ad G M hc hk (by decide)) rfl 3 (by decide) (hts (.fieldLink RX11 24 "VideoSuite" "decoder" "LVideoSuite$Decoder;") (mu mw_885)) (fun _ h9 => h9) rfl dX11_picture_21 ?_
      obtain ⟨b3, ho3, hc3, hk3, hF⟩ := dr_some hF
      refine W_st (st' := [.ref (ad b3)]) (by rw [va_some ho3]) ?_
      refine va_get (D := D) (ci := 1) (v := va_re ad (M.2 b3 1)) (C := RX1) (T := TX1) (N := 22) hx hb hts (mus hf_X1) hown hK hP b3 (wld_o ct ad G M hc3 hk3 (by decide)) rfl 1 (by decide) (hts (.fieldLink RX11 146 "VideoSuite$Decoder" "store" "LVideoSuite$Store;") (mu mw_643)) (fun _ h9 => h9) rfl dX11_picture_24 ?_
      refine lv_iload_n hx hb dX11_picture_27 rfl (lv_at hl 1 rfl) ?_
      obtain ⟨b4, ho4, hc4, hk4, hF⟩ := dr_some hF
      refine W_st (st' := [.int p0, .ref (ad b4)]) (by rw [va_some ho4]) ?_
      obtain ⟨y5, hy5, hF⟩ := bnd_some hF
      have hf9 := wA_in hD hA9 hS
      refine va_calli (va_runV (As := [.int p0]) (rest := []) ⟨hx, hb, hml, hown, hts⟩ (kX7_keeps l D ct ad Z G M H.size b4 p0 y5 hc4 hk4 hy5) (cwV 1 hts gX11_picture_X7_keeps rfl rfl rfl (by decide +kernel) ⟨Nat.le_of_ble_eq_true rfl, Nat.le_of_ble_eq_true rfl⟩) ⟨fun a U g mk q => by obtain ⟨q0, q1, qP, qK, qD, qZ, qN⟩ := q; exact ⟨q0, q1, qP, va_K.moved (u := U) (U := U.calling g mk a) (Vm.Alike.refl U.vm) qK, qD, sF.moved (u := U) (U := U.calling g mk a) (Vm.Alike.refl U.vm) qZ, nF.same rfl qN⟩, va_recv hK hP (ci := 7) (q0 := b4) rfl (wld_o ct ad G M hc4 hk4 (by decide)), fun U hU hW => ⟨rfl, by rw [hU], by rw [hU]; exact hP, va_K.moved hW.alike hK, hD.weaken (fun _ _ _ _ => trivial), by rw [hU]; exact ((hZ.kept hS.2.1).narrow hf9).moved hW.alike, hN.warm hW⟩⟩ rfl rfl hl.1 rfl (lv_room (Nat.le_of_ble_eq_true rfl)) dX11_picture_28 ⟨(Nat.zero_le _), (Nat.zero_le _)⟩) hS (fun q _ h => hf9 q h) hf9 (fun r u t H locs ht hvm hw hB hz1 hk1 hS => ?_)
      obtain ⟨hP, hK9, hD9⟩ := hB
      rw [ht] at hP
      try dsimp only at hw
      subst hw
      have hD := hD9.weaken (fun _ q _ h => hf9 q.1 h)
      obtain ⟨y6, hy6, hF⟩ := bnd_some hF
      have J6 : ∀ (H : Heap) (locs : List Loc) (ls : Array Slot), va_P D classes (wld ct ad G y5.1) H → va_D A (wld ct ad G y5.1) → va_S A s.heap H locs → lv_has ls 3 [(0, .ref (ad a)), (1, .int p0), (2, .int p1)] → W p l e (headSpec wuX11_picture ({ frames := 1, cells := 0, slots := 0, locals := 22 })).room s m ([.ref (ad a), .int p0, .int p1] : List Value).toArray below meth c H locs 0 0 (MQ below (va_Qi (fun (q : Int32) (_ : Unit) => q = y.2) (fun _ t => kE D ct ad G A y.1 t) A) ([.ref (ad a), .int p0, .int p1] : List Value).toArray s 0 0 A) (F0 m 44 ls []) := by
        intro H locs ls hP hD hS hl
        refine lv_aload_n hx hb dX11_picture_44 rfl (lv_at hl 0 rfl) ?_
        refine va_get (D := D) (ci := 11) (v := va_re ad (y5.1.2 a 3)) (C := RX11) (T := TX11) (N := 5) hx hb hts (mus hf_X11) hown hK hP a (wld_o ct ad G y5.1 hc hk (by decide)) rfl 3 (by decide) (hts (.fieldLink RX11 24 "VideoSuite" "decoder" "LVideoSuite$Decoder;") (mu mw_885)) (fun _ h9 => h9) rfl dX11_picture_45 ?_
        obtain ⟨b7, ho7, hc7, hk7, hF⟩ := dr_some hF
        refine W_st (st' := [.ref (ad b7)]) (by rw [va_some ho7]) ?_
        refine va_get (D := D) (ci := 1) (v := va_re ad (y5.1.2 b7 1)) (C := RX1) (T := TX1) (N := 22) hx hb hts (mus hf_X1) hown hK hP b7 (wld_o ct ad G y5.1 hc7 hk7 (by decide)) rfl 1 (by decide) (hts (.fieldLink RX11 146 "VideoSuite$Decoder" "store" "LVideoSuite$Store;") (mu mw_643)) (fun _ h9 => h9) rfl dX11_picture_48 ?_
        refine lv_iload_n hx hb dX11_picture_51 rfl (lv_at hl 1 rfl) ?_
        refine lv_iload_n hx hb dX11_picture_52 rfl (lv_at hl 2 rfl) ?_
        obtain ⟨b8, ho8, hc8, hk8, hF⟩ := dr_some hF
        refine W_st (st' := [.int p1, .int p0, .ref (ad b8)]) (by rw [va_some ho8]) ?_
        obtain ⟨y9, hy9, hF⟩ := bnd_some hF
        have hf9 := wA_in hD hA9 hS
        refine va_calli (va_runV (As := [.int p0, .int p1]) (rest := []) ⟨hx, hb, hml, hown, hts⟩ (kX7_fact l D ct ad Z G y5.1 H.size b8 p0 p1 y9 hc8 hk8 hy9) (cwV 2 hts gX11_picture_X7_fact rfl rfl rfl (by decide +kernel) ⟨Nat.le_of_ble_eq_true rfl, Nat.le_of_ble_eq_true rfl⟩) ⟨fun a U g mk q => by obtain ⟨q0, q1, qP, qK, qD, qZ, qN⟩ := q; exact ⟨q0, q1, qP, va_K.moved (u := U) (U := U.calling g mk a) (Vm.Alike.refl U.vm) qK, qD, sF.moved (u := U) (U := U.calling g mk a) (Vm.Alike.refl U.vm) qZ, nF.same rfl qN⟩, va_recv hK hP (ci := 7) (q0 := b8) rfl (wld_o ct ad G y5.1 hc8 hk8 (by decide)), fun U hU hW => ⟨rfl, by rw [hU], by rw [hU]; exact hP, va_K.moved hW.alike hK, hD.weaken (fun _ _ _ _ => trivial), by rw [hU]; exact ((hZ.kept hS.2.1).narrow hf9).moved hW.alike, hN.warm hW⟩⟩ rfl rfl hl.1 rfl (lv_room (Nat.le_of_ble_eq_true rfl)) dX11_picture_53 ⟨(Nat.zero_le _), (Nat.zero_le _)⟩) hS (fun q _ h => hf9 q h) hf9 (fun r u t H locs ht hvm hw hB hz1 hk1 hS => ?_)
        obtain ⟨hP, hK9, hD9⟩ := hB
        rw [ht] at hP
        try dsimp only at hw
        subst hw
        have hD := hD9.weaken (fun _ q _ h => hf9 q.1 h)
        obtain rfl := Option.some.inj hF
        exact W.iret (v := y9.2) hx hb hr (fun t ht hW => ⟨⟨_, (), rfl, rfl, ⟨by rw [ht]; exact hP, va_K.moved hW.alike hK, hD⟩⟩, hS.F ht⟩) hS.2.2 dX11_picture_56
      clear hF
      have hF := hy6
      clear hy6
      refine lv_if_ne (tgt := 44) hx hb dX11_picture_31 (by decide) (fun c10 => ?_) (fun c10 => ?_)
      · rw [if_neg c10] at hF
        obtain rfl := Option.some.inj hF
        exact J6 _ _ _ hP hD hS (lv_sub hl [0, 1, 2] rfl)
      · rw [if_pos c10] at hF
        cases hF
    clear hF
    have hF := hy2
    clear hy2
    refine lv_icmp_le (tgt := 20) hx hb dX11_picture_7 (by decide) (fun c11 => ?_) (fun c11 => ?_)
    · rw [if_pos c11] at hF
      obtain rfl := Option.some.inj hF
      exact J2 _ _ _ hP hD hS (lv_sub hl [0, 1, 2] rfl)
    · rw [if_neg c11] at hF
      cases hF
  clear hF
  have hF := hy1
  clear hy1
  refine lv_if_lt (tgt := 10) hx hb dX11_picture_1 (by decide) (fun c12 => ?_) (fun c12 => ?_)
  · rw [if_pos c12] at hF
    cases hF
  · rw [if_neg c12] at hF
    obtain rfl := Option.some.inj hF
    exact J1 _ _ _ hP hD hS (lv_sub hl [0, 1, 2] rfl)
set_option maxRecDepth 20000 in
theorem gX1_bridge_X3_isOwn : GoodIn wuX1_bridge (wsV RX1 261 RX3 yX3_isOwn wuX3_isOwn) := gu_V mw_1057 mw_1005 mw_1006 mw_174 mw_1007
set_option maxRecDepth 20000 in
theorem dX1_bridge_0 : decode cX1_bridge 0 = .ok (.iconst 1, 1) := by decide +kernel
theorem dX1_bridge_1 : decode cX1_bridge 1 = .ok (.aload_n 0, 1) := by decide +kernel
theorem dX1_bridge_2 : decode cX1_bridge 2 = .ok (.getfield 54, 3) := by decide +kernel
theorem dX1_bridge_5 : decode cX1_bridge 5 = .ok (.iconst 2, 1) := by decide +kernel
theorem dX1_bridge_6 : decode cX1_bridge 6 = .ok (.iaload, 1) := by decide +kernel
theorem dX1_bridge_7 : decode cX1_bridge 7 = .ok (.ishl, 1) := by decide +kernel
theorem dX1_bridge_8 : decode cX1_bridge 8 = .ok (.istore_n 1, 1) := by decide +kernel
theorem dX1_bridge_9 : decode cX1_bridge 9 = .ok (.aload_n 0, 1) := by decide +kernel
theorem dX1_bridge_10 : decode cX1_bridge 10 = .ok (.getfield 21, 3) := by decide +kernel
theorem dX1_bridge_13 : decode cX1_bridge 13 = .ok (.getfield 258, 3) := by decide +kernel
theorem dX1_bridge_16 : decode cX1_bridge 16 = .ok (.istore_n 2, 1) := by decide +kernel
theorem dX1_bridge_17 : decode cX1_bridge 17 = .ok (.aload_n 0, 1) := by decide +kernel
theorem dX1_bridge_18 : decode cX1_bridge 18 = .ok (.getfield 68, 3) := by decide +kernel
theorem dX1_bridge_21 : decode cX1_bridge 21 = .ok (.getfield 212, 3) := by decide +kernel
theorem dX1_bridge_24 : decode cX1_bridge 24 = .ok (.iconst 3, 1) := by decide +kernel
theorem dX1_bridge_25 : decode cX1_bridge 25 = .ok (.iaload, 1) := by decide +kernel
theorem dX1_bridge_26 : decode cX1_bridge 26 = .ok (.iload_n 2, 1) := by decide +kernel
theorem dX1_bridge_27 : decode cX1_bridge 27 = .ok (.isub, 1) := by decide +kernel
theorem dX1_bridge_28 : decode cX1_bridge 28 = .ok (.iload_n 1, 1) := by decide +kernel
theorem dX1_bridge_29 : decode cX1_bridge 29 = .ok (.iconst 1, 1) := by decide +kernel
theorem dX1_bridge_30 : decode cX1_bridge 30 = .ok (.isub, 1) := by decide +kernel
theorem dX1_bridge_31 : decode cX1_bridge 31 = .ok (.iand, 1) := by decide +kernel
theorem dX1_bridge_32 : decode cX1_bridge 32 = .ok (.istore_n 3, 1) := by decide +kernel
theorem dX1_bridge_33 : decode cX1_bridge 33 = .ok (.aload_n 0, 1) := by decide +kernel
theorem dX1_bridge_34 : decode cX1_bridge 34 = .ok (.getfield 68, 3) := by decide +kernel
theorem dX1_bridge_37 : decode cX1_bridge 37 = .ok (.invokevirtual 261, 3) := by decide +kernel
theorem dX1_bridge_40 : decode cX1_bridge 40 = .ok (.ifCond .ne 8, 3) := by decide +kernel
theorem dX1_bridge_43 : decode cX1_bridge 43 = .ok (.iload_n 3, 1) := by decide +kernel
theorem dX1_bridge_44 : decode cX1_bridge 44 = .ok (.iconst 2, 1) := by decide +kernel
theorem dX1_bridge_45 : decode cX1_bridge 45 = .ok (.if_icmp .ge 4, 3) := by decide +kernel
theorem dX1_bridge_48 : decode cX1_bridge 48 = .ok (.return_, 1) := by decide +kernel
theorem dX1_bridge_49 : decode cX1_bridge 49 = .ok (.aload_n 0, 1) := by decide +kernel
theorem dX1_bridge_50 : decode cX1_bridge 50 = .ok (.getfield 54, 3) := by decide +kernel
theorem dX1_bridge_53 : decode cX1_bridge 53 = .ok (.bipush 6, 2) := by decide +kernel
theorem dX1_bridge_55 : decode cX1_bridge 55 = .ok (.iaload, 1) := by decide +kernel
theorem dX1_bridge_56 : decode cX1_bridge 56 = .ok (.ifCond .ne 21, 3) := by decide +kernel
theorem dX1_bridge_59 : decode cX1_bridge 59 = .ok (.aload_n 0, 1) := by decide +kernel
theorem dX1_bridge_60 : decode cX1_bridge 60 = .ok (.getfield 12, 3) := by decide +kernel
theorem dX1_bridge_63 : decode cX1_bridge 63 = .ok (.iconst 4, 1) := by decide +kernel
theorem dX1_bridge_64 : decode cX1_bridge 64 = .ok (.aload_n 0, 1) := by decide +kernel
theorem dX1_bridge_65 : decode cX1_bridge 65 = .ok (.getfield 68, 3) := by decide +kernel
theorem dX1_bridge_68 : decode cX1_bridge 68 = .ok (.getfield 212, 3) := by decide +kernel
theorem dX1_bridge_71 : decode cX1_bridge 71 = .ok (.bipush 21, 2) := by decide +kernel
theorem dX1_bridge_73 : decode cX1_bridge 73 = .ok (.iaload, 1) := by decide +kernel
theorem dX1_bridge_74 : decode cX1_bridge 74 = .ok (.invokevirtual 197, 3) := by decide +kernel
theorem dX1_bridge_77 : decode cX1_bridge 77 = .ok (.iload_n 3, 1) := by decide +kernel
theorem dX1_bridge_78 : decode cX1_bridge 78 = .ok (.bipush 7, 2) := by decide +kernel
theorem dX1_bridge_80 : decode cX1_bridge 80 = .ok (.if_icmp .le 10, 3) := by decide +kernel
theorem dX1_bridge_83 : decode cX1_bridge 83 = .ok (.iload_n 3, 1) := by decide +kernel
theorem dX1_bridge_84 : decode cX1_bridge 84 = .ok (.bipush 6, 2) := by decide +kernel
theorem dX1_bridge_86 : decode cX1_bridge 86 = .ok (.isub, 1) := by decide +kernel
theorem dX1_bridge_87 : decode cX1_bridge 87 = .ok (.goto 4, 3) := by decide +kernel
theorem dX1_bridge_90 : decode cX1_bridge 90 = .ok (.iconst 1, 1) := by decide +kernel
theorem dX1_bridge_91 : decode cX1_bridge 91 = .ok (.istore 4, 2) := by decide +kernel
theorem dX1_bridge_93 : decode cX1_bridge 93 = .ok (.iload 4, 2) := by decide +kernel
theorem dX1_bridge_95 : decode cX1_bridge 95 = .ok (.iload_n 3, 1) := by decide +kernel
theorem dX1_bridge_96 : decode cX1_bridge 96 = .ok (.if_icmp .ge 28, 3) := by decide +kernel
theorem dX1_bridge_99 : decode cX1_bridge 99 = .ok (.aload_n 0, 1) := by decide +kernel
theorem dX1_bridge_100 : decode cX1_bridge 100 = .ok (.getfield 21, 3) := by decide +kernel
theorem dX1_bridge_103 : decode cX1_bridge 103 = .ok (.iload_n 2, 1) := by decide +kernel
theorem dX1_bridge_104 : decode cX1_bridge 104 = .ok (.iload 4, 2) := by decide +kernel
theorem dX1_bridge_106 : decode cX1_bridge 106 = .ok (.iadd, 1) := by decide +kernel
theorem dX1_bridge_107 : decode cX1_bridge 107 = .ok (.iload_n 1, 1) := by decide +kernel
theorem dX1_bridge_108 : decode cX1_bridge 108 = .ok (.iconst 1, 1) := by decide +kernel
theorem dX1_bridge_109 : decode cX1_bridge 109 = .ok (.isub, 1) := by decide +kernel
theorem dX1_bridge_110 : decode cX1_bridge 110 = .ok (.iand, 1) := by decide +kernel
theorem dX1_bridge_111 : decode cX1_bridge 111 = .ok (.aload_n 0, 1) := by decide +kernel
theorem dX1_bridge_112 : decode cX1_bridge 112 = .ok (.getfield 54, 3) := by decide +kernel
theorem dX1_bridge_115 : decode cX1_bridge 115 = .ok (.invokevirtual 265, 3) := by decide +kernel
theorem dX1_bridge_118 : decode cX1_bridge 118 = .ok (.iinc 4 1, 3) := by decide +kernel
theorem dX1_bridge_121 : decode cX1_bridge 121 = .ok (.goto (-28), 3) := by decide +kernel
theorem dX1_bridge_124 : decode cX1_bridge 124 = .ok (.return_, 1) := by decide +kernel
def FX1_bridge (G : GG) (M : DD) (a : Nat)  : Option (DD) :=
  dr G 13 ((M.2 a 7)) fun b2 =>
  chk (¬ (((2 : Int32)) < 0 ∨ G.2.2 b2 ≤ ((2 : Int32)).toNatClampNeg)) <|
  ltt (M.1 b2 ((2 : Int32)).toNatClampNeg) fun x3 =>
  ltt ((((1 : Int32)) <<< (x3 &&& 31))) fun x4 =>
  dr G 7 ((M.2 a 1)) fun b5 =>
  ltt (M.1 b5 5) fun x6 =>
  dr G 3 ((M.2 a 10)) fun b7 =>
  dr G 13 ((M.2 b7 0)) fun b8 =>
  chk (¬ (((3 : Int32)) < 0 ∨ G.2.2 b8 ≤ ((3 : Int32)).toNatClampNeg)) <|
  ltt (M.1 b8 ((3 : Int32)).toNatClampNeg) fun x9 =>
  ltt ((x9 - x6)) fun x10 =>
  ltt ((x4 - ((1 : Int32)))) fun x11 =>
  ltt ((x10 &&& x11)) fun x12 =>
  bnd (FX3_isOwn G M b7) fun y13 =>
  if y13.2 = ((0 : Int32)) then (if ((2 : Int32)) ≤ x12 then (dr G 13 ((y13.1.2 a 7)) fun b16 =>
  chk (¬ (((6 : Int32)) < 0 ∨ G.2.2 b16 ≤ ((6 : Int32)).toNatClampNeg)) <|
  ltt (y13.1.1 b16 ((6 : Int32)).toNatClampNeg) fun x17 =>
  bnd (if x17 = ((0 : Int32)) then (dr G 3 ((y13.1.2 a 10)) fun b31 =>
  dr G 13 ((y13.1.2 b31 0)) fun b32 =>
  chk (¬ (((21 : Int32)) < 0 ∨ G.2.2 b32 ≤ ((21 : Int32)).toNatClampNeg)) <|
  ltt (y13.1.1 b32 ((21 : Int32)).toNatClampNeg) fun x33 =>
  none) else
  (some (y13.1))) fun (y18 : DD) =>
  bnd (if x12 ≤ ((7 : Int32)) then (some ((1 : Int32))) else
  (ltt ((x12 - ((6 : Int32)))) fun x29 =>
  some (x29))) fun (y19 : Int32) =>
  bnd (itr (fun (s21 : DD) => ((if x12 ≤ y19 then (some (.inr (s21))) else
  (ltt ((x6 + y19)) fun x25 =>
  ltt ((x4 - ((1 : Int32)))) fun x26 =>
  ltt ((x25 &&& x26)) fun x27 =>
  none)) : Option ((DD) ⊕ (DD)))) 1000000 (y18)) fun (y20 : DD) =>
  some y20) else
  (some y13.1)) else
  (some y13.1)
set_option maxHeartbeats 4000000 in
set_option maxRecDepth 100000 in
theorem kX1_bridge (l : Launch) (D : va_G) (ct : CT) (ad : Nat → Nat) (Z : Nat → Nat) (G : GG) (M : DD) (sz : Nat) (a : Nat)  (y : DD) (hc : a < G.1) (hk : G.2.1 a = 1) (hF : FX1_bridge G M a  = some y) : Met l yX1_bridge wuX1_bridge ({ frames := 1, cells := 0, slots := 0, locals := 20 }) (va_Pc [.ref (ad a)] (kB D ct ad Z G M sz)) (va_Qv (fun (_ : Unit) => True) (fun _ t => kE D ct ad G (wA ad G sz) y t) (wA ad G sz)) 0 0 (wA ad G sz) := by
  refine Met.ofW (cc := cX1_bridge) (maxL := 5) (ret := none) (by decide) rfl ?_
  intro p e s m args below meth c s₁ B hml hv
  obtain ⟨rfl, hsz, hP, hK, hD0, hZ, hN⟩ := hv
  have hx := B.exec
  have hb := B.bytes
  have hr := B.returns
  have hts := atoms_spec (ws := wuX1_bridge) B.pre
  have hown : s.vm.findClass RX1 = some m.cls := findClass_of_methodNamed B.named
  have hlocks := B.notSynchronized
  subst hsz
  have hD := wD_self (sz := s.heap.size) hD0
  have hA9 : ∀ q, s.heap.size ≤ q → wA ad G s.heap.size q := fun q h => Or.inr h
  generalize hAe : wA ad G s.heap.size = A at hD hA9 hZ ⊢
  have hS : va_S A s.heap s.heap [] := va_S.rf
  have hl := lv_entry ([.ref (ad a)]) (n := 5) (Nat.le_of_ble_eq_true rfl)
  rw [lg_entry_eq]
  generalize (lg_sl ([.ref (ad a)]) ++ List.replicate (5 - (lg_sl ([.ref (ad a)])).length) Slot.unset).toArray = ls at hl ⊢
  have hl : lv_has ls 5 [(0, .ref (ad a))] := hl
  unfold FX1_bridge at hF
  refine lv_iconst (v := (1 : Int32)) hx hb dX1_bridge_0 (by decide) ?_
  refine lv_aload_n hx hb dX1_bridge_1 rfl (lv_at hl 0 rfl) ?_
  refine va_get (D := D) (ci := 1) (v := va_re ad (M.2 a 7)) (C := RX1) (T := TX1) (N := 22) hx hb hts (mus hf_X1) hown hK hP a (wld_o ct ad G M hc hk (by decide)) rfl 7 (by decide) (hts (.fieldLink RX1 54 "VideoSuite$Decoder" "active" "[I") (mu mw_649)) (fun _ h9 => h9) rfl dX1_bridge_2 ?_
  refine lv_iconst (v := (2 : Int32)) hx hb dX1_bridge_5 (by decide) ?_
  obtain ⟨b2, ho2, hc2, hk2, hF⟩ := dr_some hF
  refine W_st (st' := [.int (2 : Int32), .ref (ad b2), .int (1 : Int32)]) (by rw [va_some ho2]) ?_
  obtain ⟨hvc, hF⟩ := chk_some hF
  refine va_iald hx hb hK hP b2 1 (wld_i ct ad G M hc2 hk2) rfl hvc dX1_bridge_6 ?_
  obtain ⟨x3, ex3, hF⟩ := ltt_some hF
  refine lv_topi (fun zx3 ezx3 => ?_)
  obtain rfl : x3 = zx3 := ex3.trans ezx3.symm
  refine lv_ishl hx hb dX1_bridge_7 ?_
  obtain ⟨x4, ex4, hF⟩ := ltt_some hF
  refine lv_topi (fun zx4 ezx4 => ?_)
  obtain rfl : x4 = zx4 := ex4.trans ezx4.symm
  refine lv_istore_n (lv' := [(1, .int x4), (0, .ref (ad a))]) hx hb dX1_bridge_8 rfl hl (by decide) rfl (fun ls hl => ?_)
  refine lv_aload_n hx hb dX1_bridge_9 rfl (lv_at hl 1 rfl) ?_
  refine va_get (D := D) (ci := 1) (v := va_re ad (M.2 a 1)) (C := RX1) (T := TX1) (N := 22) hx hb hts (mus hf_X1) hown hK hP a (wld_o ct ad G M hc hk (by decide)) rfl 1 (by decide) (hts (.fieldLink RX1 21 "VideoSuite$Decoder" "store" "LVideoSuite$Store;") (mu mw_642)) (fun _ h9 => h9) rfl dX1_bridge_10 ?_
  obtain ⟨b5, ho5, hc5, hk5, hF⟩ := dr_some hF
  refine W_st (st' := [.ref (ad b5)]) (by rw [va_some ho5]) ?_
  refine va_get (D := D) (ci := 7) (v := .int (M.1 b5 5)) (C := RX7) (T := TX7) (N := 17) hx hb hts (mus hf_X7) hown hK hP b5 (wld_o ct ad G M hc5 hk5 (by decide)) rfl 5 (by decide) (hts (.fieldLink RX1 258 "VideoSuite$Store" "last" "I") (mu mw_362)) (fun _ h9 => h9) rfl dX1_bridge_13 ?_
  obtain ⟨x6, ex6, hF⟩ := ltt_some hF
  refine lv_topi (fun zx6 ezx6 => ?_)
  obtain rfl : x6 = zx6 := ex6.trans ezx6.symm
  refine lv_istore_n (lv' := [(2, .int x6), (1, .int x4), (0, .ref (ad a))]) hx hb dX1_bridge_16 rfl hl (by decide) rfl (fun ls hl => ?_)
  refine lv_aload_n hx hb dX1_bridge_17 rfl (lv_at hl 2 rfl) ?_
  refine va_get (D := D) (ci := 1) (v := va_re ad (M.2 a 10)) (C := RX1) (T := TX1) (N := 22) hx hb hts (mus hf_X1) hown hK hP a (wld_o ct ad G M hc hk (by decide)) rfl 10 (by decide) (hts (.fieldLink RX1 68 "VideoSuite$Decoder" "head" "LVideoSuite$Header;") (mu mw_652)) (fun _ h9 => h9) rfl dX1_bridge_18 ?_
  obtain ⟨b7, ho7, hc7, hk7, hF⟩ := dr_some hF
  refine W_st (st' := [.ref (ad b7)]) (by rw [va_some ho7]) ?_
  refine va_get (D := D) (ci := 3) (v := va_re ad (M.2 b7 0)) (C := RX3) (T := TX3) (N := 4) hx hb hts (mus hf_X3) hown hK hP b7 (wld_o ct ad G M hc7 hk7 (by decide)) rfl 0 (by decide) (hts (.fieldLink RX1 212 "VideoSuite$Header" "v" "[I") (mu mw_618)) (fun _ h9 => h9) rfl dX1_bridge_21 ?_
  refine lv_iconst (v := (3 : Int32)) hx hb dX1_bridge_24 (by decide) ?_
  obtain ⟨b8, ho8, hc8, hk8, hF⟩ := dr_some hF
  refine W_st (st' := [.int (3 : Int32), .ref (ad b8)]) (by rw [va_some ho8]) ?_
  obtain ⟨hvc, hF⟩ := chk_some hF
  refine va_iald hx hb hK hP b8 1 (wld_i ct ad G M hc8 hk8) rfl hvc dX1_bridge_25 ?_
  obtain ⟨x9, ex9, hF⟩ := ltt_some hF
  refine lv_topi (fun zx9 ezx9 => ?_)
  obtain rfl : x9 = zx9 := ex9.trans ezx9.symm
  refine lv_iload_n hx hb dX1_bridge_26 rfl (lv_at hl 0 rfl) ?_
  refine lv_isub hx hb dX1_bridge_27 ?_
  obtain ⟨x10, ex10, hF⟩ := ltt_some hF
  refine lv_topi (fun zx10 ezx10 => ?_)
  obtain rfl : x10 = zx10 := ex10.trans ezx10.symm
  refine lv_iload_n hx hb dX1_bridge_28 rfl (lv_at hl 1 rfl) ?_
  refine lv_iconst (v := (1 : Int32)) hx hb dX1_bridge_29 (by decide) ?_
  refine lv_isub hx hb dX1_bridge_30 ?_
  obtain ⟨x11, ex11, hF⟩ := ltt_some hF
  refine lv_topi (fun zx11 ezx11 => ?_)
  obtain rfl : x11 = zx11 := ex11.trans ezx11.symm
  refine lv_iand hx hb dX1_bridge_31 ?_
  obtain ⟨x12, ex12, hF⟩ := ltt_some hF
  refine lv_topi (fun zx12 ezx12 => ?_)
  obtain rfl : x12 = zx12 := ex12.trans ezx12.symm
  refine lv_istore_n (lv' := [(3, .int x12), (2, .int x6), (1, .int x4), (0, .ref (ad a))]) hx hb dX1_bridge_32 rfl hl (by decide) rfl (fun ls hl => ?_)
  refine lv_aload_n hx hb dX1_bridge_33 rfl (lv_at hl 3 rfl) ?_
  refine va_get (D := D) (ci := 1) (v := va_re ad (M.2 a 10)) (C := RX1) (T := TX1) (N := 22) hx hb hts (mus hf_X1) hown hK hP a (wld_o ct ad G M hc hk (by decide)) rfl 10 (by decide) (hts (.fieldLink RX1 68 "VideoSuite$Decoder" "head" "LVideoSuite$Header;") (mu mw_652)) (fun _ h9 => h9) rfl dX1_bridge_34 ?_
  refine W_st (st' := [.ref (ad b7)]) (by rw [va_some ho7]) ?_
  obtain ⟨y13, hy13, hF⟩ := bnd_some hF
  have hf9 := wA_in hD hA9 hS
  refine va_calli (va_runV (As := []) (rest := []) ⟨hx, hb, hml, hown, hts⟩ (kX3_isOwn l D ct ad Z G M s.heap.size b7 y13 hc7 hk7 hy13) (cwV 0 hts gX1_bridge_X3_isOwn rfl rfl rfl (by decide +kernel) ⟨Nat.le_of_ble_eq_true rfl, Nat.le_of_ble_eq_true rfl⟩) ⟨fun a U g mk q => by obtain ⟨q0, q1, qP, qK, qD, qZ, qN⟩ := q; exact ⟨q0, q1, qP, va_K.moved (u := U) (U := U.calling g mk a) (Vm.Alike.refl U.vm) qK, qD, sF.moved (u := U) (U := U.calling g mk a) (Vm.Alike.refl U.vm) qZ, nF.same rfl qN⟩, va_recv hK hP (ci := 3) (q0 := b7) rfl (wld_o ct ad G M hc7 hk7 (by decide)), fun U hU hW => ⟨rfl, by rw [hU], by rw [hU]; exact hP, va_K.moved hW.alike hK, hD.weaken (fun _ _ _ _ => trivial), by rw [hU]; exact ((hZ.kept hS.2.1).narrow hf9).moved hW.alike, hN.warm hW⟩⟩ rfl rfl hl.1 rfl (lv_room (Nat.le_of_ble_eq_true rfl)) dX1_bridge_37 ⟨(Nat.zero_le _), (Nat.zero_le _)⟩) hS (fun q _ h => hf9 q h) hf9 (fun r u t H locs ht hvm hw hB hz1 hk1 hS => ?_)
  obtain ⟨hP, hK9, hD9⟩ := hB
  rw [ht] at hP
  try dsimp only at hw
  subst hw
  have hD := hD9.weaken (fun _ q _ h => hf9 q.1 h)
  refine lv_if_ne (tgt := 48) hx hb dX1_bridge_40 (by decide) (fun c14 => ?_) (fun c14 => ?_)
  · rw [if_neg c14] at hF
    obtain rfl := Option.some.inj hF
    exact W.vret hx hb hr (fun t ht hW => ⟨⟨(), rfl, trivial, ⟨by rw [ht]; exact hP, va_K.moved hW.alike hK, hD⟩⟩, hS.F ht⟩) hS.2.2 dX1_bridge_48
  · rw [if_pos c14] at hF
    refine lv_iload_n hx hb dX1_bridge_43 rfl (lv_at hl 0 rfl) ?_
    refine lv_iconst (v := (2 : Int32)) hx hb dX1_bridge_44 (by decide) ?_
    refine lv_icmp_ge (tgt := 49) hx hb dX1_bridge_45 (by decide) (fun c15 => ?_) (fun c15 => ?_)
    · rw [if_pos c15] at hF
      refine lv_aload_n hx hb dX1_bridge_49 rfl (lv_at hl 3 rfl) ?_
      refine va_get (D := D) (ci := 1) (v := va_re ad (y13.1.2 a 7)) (C := RX1) (T := TX1) (N := 22) hx hb hts (mus hf_X1) hown hK hP a (wld_o ct ad G y13.1 hc hk (by decide)) rfl 7 (by decide) (hts (.fieldLink RX1 54 "VideoSuite$Decoder" "active" "[I") (mu mw_649)) (fun _ h9 => h9) rfl dX1_bridge_50 ?_
      refine lv_bipush (v := (6 : Int32)) hx hb dX1_bridge_53 (by decide) ?_
      obtain ⟨b16, ho16, hc16, hk16, hF⟩ := dr_some hF
      refine W_st (st' := [.int (6 : Int32), .ref (ad b16)]) (by rw [va_some ho16]) ?_
      obtain ⟨hvc, hF⟩ := chk_some hF
      refine va_iald hx hb hK hP b16 1 (wld_i ct ad G y13.1 hc16 hk16) rfl hvc dX1_bridge_55 ?_
      obtain ⟨x17, ex17, hF⟩ := ltt_some hF
      refine lv_topi (fun zx17 ezx17 => ?_)
      obtain rfl : x17 = zx17 := ex17.trans ezx17.symm
      obtain ⟨y18, hy18, hF⟩ := bnd_some hF
      have J18 : ∀ (H : Heap) (locs : List Loc) (ls : Array Slot), va_P D classes (wld ct ad G y18) H → va_D A (wld ct ad G y18) → va_S A s.heap H locs → lv_has ls 5 [(3, .int x12), (2, .int x6), (1, .int x4), (0, .ref (ad a))] → W p l e (headSpec wuX1_bridge ({ frames := 1, cells := 0, slots := 0, locals := 20 })).room s m ([.ref (ad a)] : List Value).toArray below meth c H locs 0 0 (MQ below (va_Qv (fun (_ : Unit) => True) (fun _ t => kE D ct ad G A y t) A) ([.ref (ad a)] : List Value).toArray s 0 0 A) (F0 m 77 ls []) := by
        intro H locs ls hP hD hS hl
        refine lv_iload_n hx hb dX1_bridge_77 rfl (lv_at hl 0 rfl) ?_
        refine lv_bipush (v := (7 : Int32)) hx hb dX1_bridge_78 (by decide) ?_
        obtain ⟨y19, hy19, hF⟩ := bnd_some hF
        have J19 : ∀ (H : Heap) (locs : List Loc) (ls : Array Slot), va_P D classes (wld ct ad G y18) H → va_D A (wld ct ad G y18) → va_S A s.heap H locs → lv_has ls 5 [(3, .int x12), (2, .int x6), (1, .int x4), (0, .ref (ad a))] → W p l e (headSpec wuX1_bridge ({ frames := 1, cells := 0, slots := 0, locals := 20 })).room s m ([.ref (ad a)] : List Value).toArray below meth c H locs 0 0 (MQ below (va_Qv (fun (_ : Unit) => True) (fun _ t => kE D ct ad G A y t) A) ([.ref (ad a)] : List Value).toArray s 0 0 A) (F0 m 91 ls [.int y19]) := by
          intro H locs ls hP hD hS hl
          refine lv_istore (lv' := [(4, .int y19), (3, .int x12), (2, .int x6), (1, .int x4), (0, .ref (ad a))]) hx hb dX1_bridge_91 hl (by decide) rfl (fun ls hl => ?_)
          obtain ⟨y20, hy20, hF⟩ := bnd_some hF
          have K20 : ∀ (H : Heap) (locs : List Loc) (ls : Array Slot), va_P D classes (wld ct ad G y20) H → va_D A (wld ct ad G y20) → va_S A s.heap H locs → lv_has ls 5 [(4, .int y19), (3, .int x12), (2, .int x6), (1, .int x4), (0, .ref (ad a))] → W p l e (headSpec wuX1_bridge ({ frames := 1, cells := 0, slots := 0, locals := 20 })).room s m ([.ref (ad a)] : List Value).toArray below meth c H locs 0 0 (MQ below (va_Qv (fun (_ : Unit) => True) (fun _ t => kE D ct ad G A y t) A) ([.ref (ad a)] : List Value).toArray s 0 0 A) (F0 m 124 ls []) := by
            intro H locs ls hP hD hS hl
            obtain rfl := Option.some.inj hF
            exact W.vret hx hb hr (fun t ht hW => ⟨⟨(), rfl, trivial, ⟨by rw [ht]; exact hP, va_K.moved hW.alike hK, hD⟩⟩, hS.F ht⟩) hS.2.2 dX1_bridge_124
          clear hF
          refine itr_rule (fun (s21 : DD) => ∀ (H : Heap) (locs : List Loc) (ls : Array Slot), va_P D classes (wld ct ad G s21) H → va_D A (wld ct ad G s21) → va_S A s.heap H locs → lv_has ls 5 [(4, .int y19), (3, .int x12), (2, .int x6), (1, .int x4), (0, .ref (ad a))] → W p l e (headSpec wuX1_bridge ({ frames := 1, cells := 0, slots := 0, locals := 20 })).room s m ([.ref (ad a)] : List Value).toArray below meth c H locs 0 0 (MQ below (va_Qv (fun (_ : Unit) => True) (fun _ t => kE D ct ad G A y t) A) ([.ref (ad a)] : List Value).toArray s 0 0 A) (F0 m 93 ls [])) ?_ _ _ hy20 _ _ _ hP hD hS (lv_sub hl [0, 1, 2, 3, 4] rfl)
          rintro s21 ⟨z23, hF, hwz23⟩ H locs ls hP hD hS hl
          try dsimp only at hF
          refine lv_iload hx hb dX1_bridge_93 (lv_at hl 0 rfl) ?_
          refine lv_iload_n hx hb dX1_bridge_95 rfl (lv_at hl 1 rfl) ?_
          refine lv_icmp_ge (tgt := 124) hx hb dX1_bridge_96 (by decide) (fun c24 => ?_) (fun c24 => ?_)
          · rw [if_pos c24] at hF
            obtain rfl := Option.some.inj hF
            subst hwz23
            exact K20 _ _ _ hP hD hS (lv_sub hl [0, 1, 2, 3, 4] rfl)
          · rw [if_neg c24] at hF
            refine lv_aload_n hx hb dX1_bridge_99 rfl (lv_at hl 4 rfl) ?_
            refine va_get (D := D) (ci := 1) (v := va_re ad (s21.2 a 1)) (C := RX1) (T := TX1) (N := 22) hx hb hts (mus hf_X1) hown hK hP a (wld_o ct ad G s21 hc hk (by decide)) rfl 1 (by decide) (hts (.fieldLink RX1 21 "VideoSuite$Decoder" "store" "LVideoSuite$Store;") (mu mw_642)) (fun _ h9 => h9) rfl dX1_bridge_100 ?_
            refine lv_iload_n hx hb dX1_bridge_103 rfl (lv_at hl 2 rfl) ?_
            refine lv_iload hx hb dX1_bridge_104 (lv_at hl 0 rfl) ?_
            refine lv_iadd hx hb dX1_bridge_106 ?_
            obtain ⟨x25, ex25, hF⟩ := ltt_some hF
            refine lv_topi (fun zx25 ezx25 => ?_)
            obtain rfl : x25 = zx25 := ex25.trans ezx25.symm
            refine lv_iload_n hx hb dX1_bridge_107 rfl (lv_at hl 3 rfl) ?_
            refine lv_iconst (v := (1 : Int32)) hx hb dX1_bridge_108 (by decide) ?_
            refine lv_isub hx hb dX1_bridge_109 ?_
            obtain ⟨x26, ex26, hF⟩ := ltt_some hF
            refine lv_topi (fun zx26 ezx26 => ?_)
            obtain rfl : x26 = zx26 := ex26.trans ezx26.symm
            refine lv_iand hx hb dX1_bridge_110 ?_
            obtain ⟨x27, ex27, hF⟩ := ltt_some hF
            refine lv_topi (fun zx27 ezx27 => ?_)
            obtain rfl : x27 = zx27 := ex27.trans ezx27.symm
            refine lv_aload_n hx hb dX1_bridge_111 rfl (lv_at hl 4 rfl) ?_
            refine va_get (D := D) (ci := 1) (v := va_re ad (s21.2 a 7)) (C := RX1) (T := TX1) (N := 22) hx hb hts (mus hf_X1) hown hK hP a (wld_o ct ad G s21 hc hk (by decide)) rfl 7 (by decide) (hts (.fieldLink RX1 54 "VideoSuite$Decoder" "active" "[I") (mu mw_649)) (fun _ h9 => h9) rfl dX1_bridge_112 ?_
            cases hF
        clear hF
        have hF := hy19
        clear hy19
        refine lv_icmp_le (tgt := 90) hx hb dX1_bridge_80 (by decide) (fun c28 => ?_) (fun c28 => ?_)
        · rw [if_pos c28] at hF
          refine lv_iconst (v := (1 : Int32)) hx hb dX1_bridge_90 (by decide) ?_
          obtain rfl := Option.some.inj hF
          exact J19 _ _ _ hP hD hS (lv_sub hl [0, 1, 2, 3] rfl)
        · rw [if_neg c28] at hF
          refine lv_iload_n hx hb dX1_bridge_83 rfl (lv_at hl 0 rfl) ?_
          refine lv_bipush (v := (6 : Int32)) hx hb dX1_bridge_84 (by decide) ?_
          refine lv_isub hx hb dX1_bridge_86 ?_
          obtain ⟨x29, ex29, hF⟩ := ltt_some hF
          refine lv_topi (fun zx29 ezx29 => ?_)
          obtain rfl : x29 = zx29 := ex29.trans ezx29.symm
          refine lv_goto (tgt := 91) hx hb dX1_bridge_87 (by decide) ?_
          obtain rfl := Option.some.inj hF
          exact J19 _ _ _ hP hD hS (lv_sub hl [0, 1, 2, 3] rfl)
      clear hF
      have hF := hy18
      clear hy18
      refine lv_if_ne (tgt := 77) hx hb dX1_bridge_56 (by decide) (fun c30 => ?_) (fun c30 => ?_)
      · rw [if_neg c30] at hF
        obtain rfl := Option.some.inj hF
        exact J18 _ _ _ hP hD hS (lv_sub hl [0, 1, 2, 3] rfl)
      · rw [if_pos c30] at hF
        refine lv_aload_n hx hb dX1_bridge_59 rfl (lv_at hl 3 rfl) ?_
        refine va_get (D := D) (ci := 1) (v := va_re ad (y13.1.2 a 0)) (C := RX1) (T := TX1) (N := 22) hx hb hts (mus hf_X1) hown hK hP a (wld_o ct ad G y13.1 hc hk (by decide)) rfl 0 (by decide) (hts (.fieldLink RX1 12 "VideoSuite$Decoder" "reader" "LVideoSuite$Reader;") (mu mw_640)) (fun _ h9 => h9) rfl dX1_bridge_60 ?_
        refine lv_iconst (v := (4 : Int32)) hx hb dX1_bridge_63 (by decide) ?_
        refine lv_aload_n hx hb dX1_bridge_64 rfl (lv_at hl 3 rfl) ?_
        refine va_get (D := D) (ci := 1) (v := va_re ad (y13.1.2 a 10)) (C := RX1) (T := TX1) (N := 22) hx hb hts (mus hf_X1) hown hK hP a (wld_o ct ad G y13.1 hc hk (by decide)) rfl 10 (by decide) (hts (.fieldLink RX1 68 "VideoSuite$Decoder" "head" "LVideoSuite$Header;") (mu mw_652)) (fun _ h9 => h9) rfl dX1_bridge_65 ?_
        obtain ⟨b31, ho31, hc31, hk31, hF⟩ := dr_some hF
        refine W_st (st' := [.ref (ad b31), .int (4 : Int32), va_re ad (y13.1.2 a 0)]) (by rw [va_some ho31]) ?_
        refine va_get (D := D) (ci := 3) (v := va_re ad (y13.1.2 b31 0)) (C := RX3) (T := TX3) (N := 4) hx hb hts (mus hf_X3) hown hK hP b31 (wld_o ct ad G y13.1 hc31 hk31 (by decide)) rfl 0 (by decide) (hts (.fieldLink RX1 212 "VideoSuite$Header" "v" "[I") (mu mw_618)) (fun _ h9 => h9) rfl dX1_bridge_68 ?_
        refine lv_bipush (v := (21 : Int32)) hx hb dX1_bridge_71 (by decide) ?_
        obtain ⟨b32, ho32, hc32, hk32, hF⟩ := dr_some hF
        refine W_st (st' := [.int (21 : Int32), .ref (ad b32), .int (4 : Int32), va_re ad (y13.1.2 a 0)]) (by rw [va_some ho32]) ?_
        obtain ⟨hvc, hF⟩ := chk_some hF
        refine va_iald hx hb hK hP b32 1 (wld_i ct ad G y13.1 hc32 hk32) rfl hvc dX1_bridge_73 ?_
        obtain ⟨x33, ex33, hF⟩ := ltt_some hF
        refine lv_topi (fun zx33 ezx33 => ?_)
        obtain rfl : x33 = zx33 := ex33.trans ezx33.symm
        cases hF
    · rw [if_neg c15] at hF
      obtain rfl := Option.some.inj hF
      exact W.vret hx hb hr (fun t ht hW => ⟨⟨(), rfl, trivial, ⟨by rw [ht]; exact hP, va_K.moved hW.alike hK, hD⟩⟩, hS.F ht⟩) hS.2.2 dX1_bridge_48
set_option maxRecDepth 20000 in
theorem gX1_claim_X4_blocks : GoodIn wuX1_claim (wsV RX1 304 RX4 yX4_blocks wuX4_blocks) := gu_V mw_1803 mw_911 mw_912 mw_185 mw_913
set_option maxRecDepth 20000 in
theorem dX1_claim_0 : decode cX1_claim 0 = .ok (.aload_n 0, 1) := by decide +kernel
theorem dX1_claim_1 : decode cX1_claim 1 = .ok (.iconst (-1), 1) := by decide +kernel
theorem dX1_claim_2 : decode cX1_claim 2 = .ok (.putfield 130, 3) := by decide +kernel
theorem dX1_claim_5 : decode cX1_claim 5 = .ok (.iload_n 1, 1) := by decide +kernel
theorem dX1_claim_6 : decode cX1_claim 6 = .ok (.aload_n 0, 1) := by decide +kernel
theorem dX1_claim_7 : decode cX1_claim 7 = .ok (.getfield 28, 3) := by decide +kernel
theorem dX1_claim_10 : decode cX1_claim 10 = .ok (.getfield 84, 3) := by decide +kernel
theorem dX1_claim_13 : decode cX1_claim 13 = .ok (.invokevirtual 304, 3) := by decide +kernel
theorem dX1_claim_16 : decode cX1_claim 16 = .ok (.if_icmp .ge 21, 3) := by decide +kernel
theorem dX1_claim_19 : decode cX1_claim 19 = .ok (.aload_n 0, 1) := by decide +kernel
theorem dX1_claim_20 : decode cX1_claim 20 = .ok (.getfield 28, 3) := by decide +kernel
theorem dX1_claim_23 : decode cX1_claim 23 = .ok (.getfield 355, 3) := by decide +kernel
theorem dX1_claim_26 : decode cX1_claim 26 = .ok (.bipush 8, 2) := by decide +kernel
theorem dX1_claim_28 : decode cX1_claim 28 = .ok (.iload_n 1, 1) := by decide +kernel
theorem dX1_claim_29 : decode cX1_claim 29 = .ok (.imul, 1) := by decide +kernel
theorem dX1_claim_30 : decode cX1_claim 30 = .ok (.iconst 0, 1) := by decide +kernel
theorem dX1_claim_31 : decode cX1_claim 31 = .ok (.iadd, 1) := by decide +kernel
theorem dX1_claim_32 : decode cX1_claim 32 = .ok (.iaload, 1) := by decide +kernel
theorem dX1_claim_33 : decode cX1_claim 33 = .ok (.iconst (-1), 1) := by decide +kernel
theorem dX1_claim_34 : decode cX1_claim 34 = .ok (.if_icmp .eq 11, 3) := by decide +kernel
theorem dX1_claim_37 : decode cX1_claim 37 = .ok (.aload_n 0, 1) := by decide +kernel
theorem dX1_claim_38 : decode cX1_claim 38 = .ok (.getfield 12, 3) := by decide +kernel
theorem dX1_claim_41 : decode cX1_claim 41 = .ok (.iconst 4, 1) := by decide +kernel
theorem dX1_claim_42 : decode cX1_claim 42 = .ok (.invokevirtual 325, 3) := by decide +kernel
theorem dX1_claim_45 : decode cX1_claim 45 = .ok (.return_, 1) := by decide +kernel
def FX1_claim (G : GG) (M : DD) (a : Nat) (p0 : Int32) : Option (DD) :=
  ltt (uI M a 21 ((-1 : Int32))) fun M1 =>
  dr G 9 ((M1.2 a 2)) fun b2 =>
  dr G 4 ((M1.2 b2 0)) fun b3 =>
  bnd (FX4_blocks G M1 b3) fun y4 =>
  bnd (if y4.2 ≤ p0 then (none) else
  (some (y4.1))) fun (y5 : DD) =>
  dr G 9 ((y5.2 a 2)) fun b6 =>
  ltt ((((8 : Int32)) * p0)) fun x7 =>
  ltt ((x7 + ((0 : Int32)))) fun x8 =>
  dr G 13 ((y5.2 b6 6)) fun b9 =>
  chk (¬ (x8 < 0 ∨ G.2.2 b9 ≤ x8.toNatClampNeg)) <|
  ltt (y5.1 b9 x8.toNatClampNeg) fun x10 =>
  bnd (if x10 = ((-1 : Int32)) then (some (y5)) else
  (none)) fun (y11 : DD) =>
  some y11
set_option maxHeartbeats 4000000 in
set_option maxRecDepth 100000 in
theorem kX1_claim (l : Launch) (D : va_G) (ct : CT) (ad : Nat → Nat) (Z : Nat → Nat) (G : GG) (M : DD) (sz : Nat) (a : Nat) (p0 : Int32) (y : DD) (hc : a < G.1) (hk : G.2.1 a = 1) (hF : FX1_claim G M a p0 = some y) : Met l yX1_claim wuX1_claim ({ frames := 1, cells := 0, slots := 0, locals := 20 }) (va_Pc [.ref (ad a), .int p0] (kB D ct ad Z G M sz)) (va_Qv (fun (_ : Unit) => True) (fun _ t => kE D ct ad G (wA ad G sz) y t) (wA ad G sz)) 0 0 (wA ad G sz) := by
  refine Met.ofW (cc := cX1_claim) (maxL := 2) (ret := none) (by decide) rfl ?_
  intro p e s m args below meth c s₁ B hml hv
  obtain ⟨rfl, hsz, hP, hK, hD0, hZ, hN⟩ := hv
  have hx := B.exec
  have hb := B.bytes
  have hr := B.returns
  have hts := atoms_spec (ws := wuX1_claim) B.pre
  have hown : s.vm.findClass RX1 = some m.cls := findClass_of_methodNamed B.named
  have hlocks := B.notSynchronized
  subst hsz
  have hD := wD_self (sz := s.heap.size) hD0
  have hA9 : ∀ q, s.heap.size ≤ q → wA ad G s.heap.size q := fun q h => Or.inr h
  generalize hAe : wA ad G s.heap.size = A at hD hA9 hZ ⊢
  have hS : va_S A s.heap s.heap [] := va_S.rf
  have hl := lv_entry ([.ref (ad a), .int p0]) (n := 2) (Nat.le_of_ble_eq_true rfl)
  rw [lg_entry_eq]
  generalize (lg_sl ([.ref (ad a), .int p0]) ++ List.replicate (2 - (lg_sl ([.ref (ad a), .int p0])).length) Slot.unset).toArray = ls at hl ⊢
  have hl : lv_has ls 2 [(0, .ref (ad a)), (1, .int p0)] := hl
  unfold FX1_claim at hF
  refine lv_aload_n hx hb dX1_claim_0 rfl (lv_at hl 0 rfl) ?_
  refine lv_iconst (v := (-1 : Int32)) hx hb dX1_claim_1 (by decide) ?_
  refine va_put (D := D) (ci := 1) (v := .int (-1 : Int32)) (ty := .int) (C := RX1) (T := TX1) (N := 22) hx hb hts (mus hf_X1) tyX1 tyX1_ok nmX1 hown hK hP hD hS a (wld_o ct ad G M hc hk (by decide)) rfl 21 (by decide) (hts (.fieldLink RX1 130 "VideoSuite$Decoder" "current" "I") (mu mw_668)) (fun _ h9 => h9) rfl (by decide +kernel) rfl rfl (Nat.le_of_ble_eq_true rfl) dX1_claim_2 (fun H locs hP hD hS => ?_)
  obtain ⟨M1, eM1, hF⟩ := ltt_some hF
  rw [set_oI ct ad G M hc hk (by decide) (by rfl), ← eM1] at hP hD
  refine lv_iload_n hx hb dX1_claim_5 rfl (lv_at hl 1 rfl) ?_
  refine lv_aload_n hx hb dX1_claim_6 rfl (lv_at hl 0 rfl) ?_
  refine va_get (D := D) (ci := 1) (v := va_re ad (M1.2 a 2)) (C := RX1) (T := TX1) (N := 22) hx hb hts (mus hf_X1) hown hK hP a (wld_o ct ad G M1 hc hk (by decide)) rfl 2 (by decide) (hts (.fieldLink RX1 28 "VideoSuite$Decoder" "work" "LVideoSuite$Work;") (mu mw_644)) (fun _ h9 => h9) rfl dX1_claim_7 ?_
  obtain ⟨b2, ho2, hc2, hk2, hF⟩ := dr_some hF
  refine W_st (st' := [.ref (ad b2), .int p0]) (by rw [va_some ho2]) ?_
  refine va_get (D := D) (ci := 9) (v := va_re ad (M1.2 b2 0)) (C := RX9) (T := TX9) (N := 20) hx hb hts (mus hf_X9) hown hK hP b2 (wld_o ct ad G M1 hc2 hk2 (by decide)) rfl 0 (by decide) (hts (.fieldLink RX1 84 "VideoSuite$Work" "pic" "LVideoSuite$Picture;") (mu mw_420)) (fun _ h9 => h9) rfl dX1_claim_10 ?_
  obtain ⟨b3, ho3, hc3, hk3, hF⟩ := dr_some hF
  refine W_st (st' := [.ref (ad b3), .int p0]) (by rw [va_some ho3]) ?_
  obtain ⟨y4, hy4, hF⟩ := bnd_some hF
  have hf9 := wA_in hD hA9 hS
  refine va_calli (va_runV (As := []) (rest := [.int p0]) ⟨hx, hb, hml, hown, hts⟩ (kX4_blocks l D ct ad Z G M1 H.size b3 y4 hc3 hk3 hy4) (cwV 0 hts gX1_claim_X4_blocks rfl rfl rfl (by decide +kernel) ⟨Nat.le_of_ble_eq_true rfl, Nat.le_of_ble_eq_true rfl⟩) ⟨fun a U g mk q => by obtain ⟨q0, q1, qP, qK, qD, qZ, qN⟩ := q; exact ⟨q0, q1, qP, va_K.moved (u := U) (U := U.calling g mk a) (Vm.Alike.refl U.vm) qK, qD, sF.moved (u := U) (U := U.calling g mk a) (Vm.Alike.refl U.vm) qZ, nF.same rfl qN⟩, va_recv hK hP (ci := 4) (q0 := b3) rfl (wld_o ct ad G M1 hc3 hk3 (by decide)), fun U hU hW => ⟨rfl, by rw [hU], by rw [hU]; exact hP, va_K.moved hW.alike hK, hD.weaken (fun _ _ _ _ => trivial), by rw [hU]; exact ((hZ.kept hS.2.1).narrow hf9).moved hW.alike, hN.warm hW⟩⟩ rfl rfl hl.1 rfl (lv_room (Nat.le_of_ble_eq_true rfl)) dX1_claim_13 ⟨(Nat.zero_le _), (Nat.zero_le _)⟩) hS (fun q _ h => hf9 q h) hf9 (fun r u t H locs ht hvm hw hB hz1 hk1 hS => ?_)
  obtain ⟨hP, hK9, hD9⟩ := hB
  rw [ht] at hP
  try dsimp only at hw
  subst hw
  have hD := hD9.weaken (fun _ q _ h => hf9 q.1 h)
  obtain ⟨y5, hy5, hF⟩ := bnd_some hF
  have J5 : ∀ (H : Heap) (locs : List Loc) (ls : Array Slot), va_P D classes (wld ct ad G y5) H → va_D A (wld ct ad G y5) → va_S A s.heap H locs → lv_has ls 2 [(0, .ref (ad a)), (1, .int p0)] → W p l e (headSpec wuX1_claim ({ frames := 1, cells := 0, slots := 0, locals := 20 })).room s m ([.ref (ad a), .int p0] : List Value).toArray below meth c H locs 0 0 (MQ below (va_Qv (fun (_ : Unit) => True) (fun _ t => kE D ct ad G A y t) A) ([.ref (ad a), .int p0] : List Value).toArray s 0 0 A) (F0 m 19 ls []) := by
    intro H locs ls hP hD hS hl
    refine lv_aload_n hx hb dX1_claim_19 rfl (lv_at hl 0 rfl) ?_
    refine va_get (D := D) (ci := 1) (v := va_re ad (y5.2 a 2)) (C := RX1) (T := TX1) (N := 22) hx hb hts (mus hf_X1) hown hK hP a (wld_o ct ad G y5 hc hk (by decide)) rfl 2 (by decide) (hts (.fieldLink RX1 28 "VideoSuite$Decoder" "work" "LVideoSuite$Work;") (mu mw_644)) (fun _ h9 => h9) rfl dX1_claim_20 ?_
    obtain ⟨b6, ho6, hc6, hk6, hF⟩ := dr_some hF
    refine W_st (st' := [.ref (ad b6)]) (by rw [va_some ho6]) ?_
    refine va_get (D := D) (ci := 9) (v := va_re ad (y5.2 b6 6)) (C := RX9) (T := TX9) (N := 20) hx hb hts (mus hf_X9) hown hK hP b6 (wld_o ct ad G y5 hc6 hk6 (by decide)) rfl 6 (by decide) (hts (.fieldLink RX1 355 "VideoSuite$Work" "info" "[I") (mu mw_444)) (fun _ h9 => h9) rfl dX1_claim_23 ?_
    refine lv_bipush (v := (8 : Int32)) hx hb dX1_claim_26 (by decide) ?_
    refine lv_iload_n hx hb dX1_claim_28 rfl (lv_at hl 1 rfl) ?_
    refine lv_imul hx hb dX1_claim_29 ?_
    obtain ⟨x7, ex7, hF⟩ := ltt_some hF
    refine lv_topi (fun zx7 ezx7 => ?_)
    obtain rfl : x7 = zx7 := ex7.trans ezx7.symm
    refine lv_iconst (v := (0 : Int32)) hx hb dX1_claim_30 (by decide) ?_
    refine lv_iadd hx hb dX1_claim_31 ?_
    obtain ⟨x8, ex8, hF⟩ := ltt_some hF
    refine lv_topi (fun zx8 ezx8 => ?_)
    obtain rfl : x8 = zx8 := ex8.trans ezx8.symm
    obtain ⟨b9, ho9, hc9, hk9, hF⟩ := dr_some hF
    refine W_st (st' := [.int x8, .ref (ad b9)]) (by rw [va_some ho9]) ?_
    obtain ⟨hvc, hF⟩ := chk_some hF
    refine va_iald hx hb hK hP b9 1 (wld_i ct ad G y5 hc9 hk9) rfl hvc dX1_claim_32 ?_
    obtain ⟨x10, ex10, hF⟩ := ltt_some hF
    refine lv_topi (fun zx10 ezx10 => ?_)
    obtain rfl : x10 = zx10 := ex10.trans ezx10.symm
    refine lv_iconst (v := (-1 : Int32)) hx hb dX1_claim_33 (by decide) ?_
    obtain ⟨y11, hy11, hF⟩ := bnd_some hF
    have J11 : ∀ (H : Heap) (locs : List Loc) (ls : Array Slot), va_P D classes (wld ct ad G y11) H → va_D A (wld ct ad G y11) → va_S A s.heap H locs → lv_has ls 2 [(0, .ref (ad a)), (1, .int p0)] → W p l e (headSpec wuX1_claim ({ frames := 1, cells := 0, slots := 0, locals := 20 })).room s m ([.ref (ad a), .int p0] : List Value).toArray below meth c H locs 0 0 (MQ below (va_Qv (fun (_ : Unit) => True) (fun _ t => kE D ct ad G A y t) A) ([.ref (ad a), .int p0] : List Value).toArray s 0 0 A) (F0 m 45 ls []) := by
      intro H locs ls hP hD hS hl
      obtain rfl := Option.some.inj hF
      exact W.vret hx hb hr (fun t ht hW => ⟨⟨(), rfl, trivial, ⟨by rw [ht]; exact hP, va_K.moved hW.alike hK, hD⟩⟩, hS.F ht⟩) hS.2.2 dX1_claim_45
    clear hF
    have hF := hy11
    clear hy11
    refine lv_icmp_eq (tgt := 45) hx hb dX1_claim_34 (by decide) (fun c12 => ?_) (fun c12 => ?_)
    · rw [if_pos c12] at hF
      obtain rfl := Option.some.inj hF
      exact J11 _ _ _ hP hD hS (lv_sub hl [0, 1] rfl)
    · rw [if_neg c12] at hF
      refine lv_aload_n hx hb dX1_claim_37 rfl (lv_at hl 0 rfl) ?_
      refine va_get (D := D) (ci := 1) (v := va_re ad (y5.2 a 0)) (C := RX1) (T := TX1) (N := 22) hx hb hts (mus hf_X1) hown hK hP a (wld_o ct ad G y5 hc hk (by decide)) rfl 0 (by decide) (hts (.fieldLink RX1 12 "VideoSuite$Decoder" "reader" "LVideoSuite$Reader;") (mu mw_640)) (fun _ h9 => h9) rfl dX1_claim_38 ?_
      refine lv_iconst (v := (4 : Int32)) hx hb dX1_claim_41 (by decide) ?_
      cases hF
  clear hF
  have hF := hy5
  clear hy5
  refine lv_icmp_ge (tgt := 37) hx hb dX1_claim_16 (by decide) (fun c13 => ?_) (fun c13 => ?_)
  · rw [if_pos c13] at hF
    refine lv_aload_n hx hb dX1_claim_37 rfl (lv_at hl 0 rfl) ?_
    refine va_get (D := D) (ci := 1) (v := va_re ad (y4.1.2 a 0)) (C := RX1) (T := TX1) (N := 22) hx hb hts (mus hf_X1) hown hK hP a (wld_o ct ad G y4.1 hc hk (by decide)) rfl 0 (by decide) (hts (.fieldLink RX1 12 "VideoSuite$Decoder" "reader" "LVideoSuite$Reader;") (mu mw_640)) (fun _ h9 => h9) rfl dX1_claim_38 ?_
    refine lv_iconst (v := (4 : Int32)) hx hb dX1_claim_41 (by decide) ?_
    cases hF
  · rw [if_neg c13] at hF
    obtain rfl := Option.some.inj hF
    exact J5 _ _ _ hP hD hS (lv_sub hl [0, 1] rfl)
set_option maxRecDepth 20000 in
theorem gX1_endBlock_X9_endBlock : GoodIn wuX1_endBlock (wsV RX1 379 RX9 yX9_endBlock wuX9_endBlock) := gu_V mw_2151 mw_2152 mw_2153 mw_171 mw_2154
theorem dX1_endBlock_0 : decode cX1_endBlock 0 = .ok (.aload_n 0, 1) := by decide +kernel
theorem dX1_endBlock_1 : decode cX1_endBlock 1 = .ok (.getfield 28, 3) := by decide +kernel
theorem dX1_endBlock_4 : decode cX1_endBlock 4 = .ok (.iload_n 1, 1) := by decide +kernel
theorem dX1_endBlock_5 : decode cX1_endBlock 5 = .ok (.invokevirtual 379, 3) := by decide +kernel
theorem dX1_endBlock_8 : decode cX1_endBlock 8 = .ok (.aload_n 0, 1) := by decide +kernel
theorem dX1_endBlock_9 : decode cX1_endBlock 9 = .ok (.getfield 72, 3) := by decide +kernel
theorem dX1_endBlock_12 : decode cX1_endBlock 12 = .ok (.getfield 212, 3) := by decide +kernel
theorem dX1_endBlock_15 : decode cX1_endBlock 15 = .ok (.bipush 16, 2) := by decide +kernel
theorem dX1_endBlock_17 : decode cX1_endBlock 17 = .ok (.dup2, 1) := by decide +kernel
theorem dX1_endBlock_18 : decode cX1_endBlock 18 = .ok (.iaload, 1) := by decide +kernel
theorem dX1_endBlock_19 : decode cX1_endBlock 19 = .ok (.iconst 1, 1) := by decide +kernel
theorem dX1_endBlock_20 : decode cX1_endBlock 20 = .ok (.iadd, 1) := by decide +kernel
theorem dX1_endBlock_21 : decode cX1_endBlock 21 = .ok (.iastore, 1) := by decide +kernel
theorem dX1_endBlock_22 : decode cX1_endBlock 22 = .ok (.aload_n 0, 1) := by decide +kernel
theorem dX1_endBlock_23 : decode cX1_endBlock 23 = .ok (.iconst (-1), 1) := by decide +kernel
theorem dX1_endBlock_24 : decode cX1_endBlock 24 = .ok (.putfield 130, 3) := by decide +kernel
theorem dX1_endBlock_27 : decode cX1_endBlock 27 = .ok (.return_, 1) := by decide +kernel
def FX1_endBlock (G : GG) (M : DD) (a : Nat) (p0 : Int32) : Option (DD) :=
  dr G 9 ((M.2 a 2)) fun b2 =>
  bnd (FX9_endBlock G M b2 p0) fun y3 =>
  dr G 3 ((y3.2 a 11)) fun b4 =>
  dr G 13 ((y3.2 b4 0)) fun b5 =>
  chk (¬ (((16 : Int32)) < 0 ∨ G.2.2 b5 ≤ ((16 : Int32)).toNatClampNeg)) <|
  ltt (y3.1 b5 ((16 : Int32)).toNatClampNeg) fun x6 =>
  ltt ((x6 + ((1 : Int32)))) fun x7 =>
  chk (¬ (((16 : Int32)) < 0 ∨ G.2.2 b5 ≤ ((16 : Int32)).toNatClampNeg)) <|
  ltt (uI y3 b5 ((16 : Int32)).toNatClampNeg x7) fun M8 =>
  ltt (uI M8 a 21 ((-1 : Int32))) fun M9 =>
  some M9
set_option maxHeartbeats 4000000 in
set_option maxRecDepth 100000 in
theorem kX1_endBlock (l : Launch) (D : va_G) (ct : CT) (ad : Nat → Nat) (Z : Nat → Nat) (G : GG) (M : DD) (sz : Nat) (a : Nat) (p0 : Int32) (y : DD) (hc : a < G.1) (hk : G.2.1 a = 1) (hF : FX1_endBlock G M a p0 = some y) : Met l yX1_endBlock wuX1_endBlock ({ frames := 2, cells := 0, slots := 0, locals := 45 }) (va_Pc [.ref (ad a), .int p0] (kB D ct ad Z G M sz)) (va_Qv (fun (_ : Unit) => True) (fun _ t => kE D ct ad G (wA ad G sz) y t) (wA ad G sz)) 0 0 (wA ad G sz) := by
  refine Met.ofW (cc := cX1_endBlock) (maxL := 2) (ret := none) (by decide) rfl ?_
  intro p e s m args below meth c s₁ B hml hv
  obtain ⟨rfl, hsz, hP, hK, hD0, hZ, hN⟩ := hv
  have hx := B.exec
  have hb := B.bytes
  have hr := B.returns
  have hts := atoms_spec (ws := wuX1_endBlock) B.pre
  have hown : s.vm.findClass RX1 = some m.cls := findClass_of_methodNamed B.named
  have hlocks := B.notSynchronized
  subst hsz
  have hD := wD_self (sz := s.heap.size) hD0
  have hA9 : ∀ q, s.heap.size ≤ q → wA ad G s.heap.size q := fun q h => Or.inr h
  generalize hAe : wA ad G s.heap.size = A at hD hA9 hZ ⊢
  have hS : va_S A s.heap s.heap [] := va_S.rf
  have hl := lv_entry ([.ref (ad a), .int p0]) (n := 2) (Nat.le_of_ble_eq_true rfl)
  rw [lg_entry_eq]
  generalize (lg_sl ([.ref (ad a), .int p0]) ++ List.replicate (2 - (lg_sl ([.ref (ad a), .int p0])).length) Slot.unset).toArray = ls at hl ⊢
  have hl : lv_has ls 2 [(0, .ref (ad a)), (1, .int p0)] := hl
  unfold FX1_endBlock at hF
  refine lv_aload_n hx hb dX1_endBlock_0 rfl (lv_at hl 0 rfl) ?_
  refine va_get (D := D) (ci := 1) (v := va_re ad (M.2 a 2)) (C := RX1) (T := TX1) (N := 22) hx hb hts (mus hf_X1) hown hK hP a (wld_o ct ad G M hc hk (by decide)) rfl 2 (by decide) (hts (.fieldLink RX1 28 "VideoSuite$Decoder" "work" "LVideoSuite$Work;") (mu mw_644)) (fun _ h9 => h9) rfl dX1_endBlock_1 ?_
  refine lv_iload_n hx hb dX1_endBlock_4 rfl (lv_at hl 1 rfl) ?_
  obtain ⟨b2, ho2, hc2, hk2, hF⟩ := dr_some hF
  refine W_st (st' := [.int p0, .ref (ad b2)]) (by rw [va_some ho2]) ?_
  obtain ⟨y3, hy3, hF⟩ := bnd_some hF
  have hf9 := wA_in hD hA9 hS
  refine va_callv (va_runV (As := [.int p0]) (rest := []) ⟨hx, hb, hml, hown, hts⟩ (kX9_endBlock l D ct ad Z G M s.heap.size b2 p0 y3 hc2 hk2 hy3) (cwV 1 hts gX1_endBlock_X9_endBlock rfl rfl rfl (by decide +kernel) ⟨Nat.le_of_ble_eq_true rfl, Nat.le_of_ble_eq_true rfl⟩) ⟨fun a U g mk q => by obtain ⟨q0, q1, qP, qK, qD, qZ, qN⟩ := q; exact ⟨q0, q1, qP, va_K.moved (u := U) (U := U.calling g mk a) (Vm.Alike.refl U.vm) qK, qD, sF.moved (u := U) (U := U.calling g mk a) (Vm.Alike.refl U.vm) qZ, nF.same rfl qN⟩, va_recv hK hP (ci := 9) (q0 := b2) rfl (wld_o ct ad G M hc2 hk2 (by decide)), fun U hU hW => ⟨rfl, by rw [hU], by rw [hU]; exact hP, va_K.moved hW.alike hK, hD.weaken (fun _ _ _ _ => trivial), by rw [hU]; exact ((hZ.kept hS.2.1).narrow hf9).moved hW.alike, hN.warm hW⟩⟩ rfl rfl hl.1 rfl (lv_room (Nat.le_of_ble_eq_true rfl)) dX1_endBlock_5 ⟨(Nat.zero_le _), (Nat.zero_le _)⟩) hS (fun q _ h => hf9 q h) hf9 (fun u t H locs ht hvm hw hB hz1 hk1 hS => ?_)
  obtain ⟨hP, hK9, hD9⟩ := hB
  rw [ht] at hP
  have hD := hD9.weaken (fun _ q _ h => hf9 q.1 h)
  refine lv_aload_n hx hb dX1_endBlock_8 rfl (lv_at hl 0 rfl) ?_
  refine va_get (D := D) (ci := 1) (v := va_re ad (y3.2 a 11)) (C := RX1) (T := TX1) (N := 22) hx hb hts (mus hf_X1) hown hK hP a (wld_o ct ad G y3 hc hk (by decide)) rfl 11 (by decide) (hts (.fieldLink RX1 72 "VideoSuite$Decoder" "latest" "LVideoSuite$Header;") (mu mw_653)) (fun _ h9 => h9) rfl dX1_endBlock_9 ?_
  obtain ⟨b4, ho4, hc4, hk4, hF⟩ := dr_some hF
  refine W_st (st' := [.ref (ad b4)]) (by rw [va_some ho4]) ?_
  refine va_get (D := D) (ci := 3) (v := va_re ad (y3.2 b4 0)) (C := RX3) (T := TX3) (N := 4) hx hb hts (mus hf_X3) hown hK hP b4 (wld_o ct ad G y3 hc4 hk4 (by decide)) rfl 0 (by decide) (hts (.fieldLink RX1 212 "VideoSuite$Header" "v" "[I") (mu mw_618)) (fun _ h9 => h9) rfl dX1_endBlock_12 ?_
  refine lv_bipush (v := (16 : Int32)) hx hb dX1_endBlock_15 (by decide) ?_
  refine lv_dup2_11 hx hb dX1_endBlock_17 rfl (va_re_cat _ _) ?_
  obtain ⟨b5, ho5, hc5, hk5, hF⟩ := dr_some hF
  refine W_st (st' := [.int (16 : Int32), .ref (ad b5), .int (16 : Int32), .ref (ad b5)]) (by rw [va_some ho5]) ?_
  obtain ⟨hvc, hF⟩ := chk_some hF
  refine va_iald hx hb hK hP b5 1 (wld_i ct ad G y3 hc5 hk5) rfl hvc dX1_endBlock_18 ?_
  obtain ⟨x6, ex6, hF⟩ := ltt_some hF
  refine lv_topi (fun zx6 ezx6 => ?_)
  obtain rfl : x6 = zx6 := ex6.trans ezx6.symm
  refine lv_iconst (v := (1 : Int32)) hx hb dX1_endBlock_19 (by decide) ?_
  refine lv_iadd hx hb dX1_endBlock_20 ?_
  obtain ⟨x7, ex7, hF⟩ := ltt_some hF
  refine lv_topi (fun zx7 ezx7 => ?_)
  obtain rfl : x7 = zx7 := ex7.trans ezx7.symm
  obtain ⟨hvc, hF⟩ := chk_some hF
  refine va_iast hx hb hK hP hD hS b5 1 (wld_i ct ad G y3 hc5 hk5) rfl hvc dX1_endBlock_21 (fun H locs hP hD hS => ?_)
  obtain ⟨M8, eM8, hF⟩ := ltt_some hF
  rw [set_i ct ad G y3 hc5 hk5, ← eM8] at hP hD
  refine lv_aload_n hx hb dX1_endBlock_22 rfl (lv_at hl 0 rfl) ?_
  refine lv_iconst (v := (-1 : Int32)) hx hb dX1_endBlock_23 (by decide) ?_
  refine va_put (D := D) (ci := 1) (v := .int (-1 : Int32)) (ty := .int) (C := RX1) (T := TX1) (N := 22) hx hb hts (mus hf_X1) tyX1 tyX1_ok nmX1 hown hK hP hD hS a (wld_o ct ad G M8 hc hk (by decide)) rfl 21 (by decide) (hts (.fieldLink RX1 130 "VideoSuite$Decoder" "current" "I") (mu mw_668)) (fun _ h9 => h9) rfl (by decide +kernel) rfl rfl (Nat.le_of_ble_eq_true rfl) dX1_endBlock_24 (fun H locs hP hD hS => ?_)
  obtain ⟨M9, eM9, hF⟩ := ltt_some hF
  rw [set_oI ct ad G M8 hc hk (by decide) (by rfl), ← eM9] at hP hD
  obtain rfl := Option.some.inj hF
  exact W.vret hx hb hr (fun t ht hW => ⟨⟨(), rfl, trivial, ⟨by rw [ht]; exact hP, va_K.moved hW.alike hK, hD⟩⟩, hS.F ht⟩) hS.2.2 dX1_endBlock_27
set_option maxRecDepth 20000 in
theorem gX1_restart_X7_clear : GoodIn wuX1_restart (wsV RX1 81 RX7 yX7_clear wuX7_clear) := gu_V mw_2766 mw_1117 mw_1118 mw_170 mw_1119
set_option maxRecDepth 20000 in
set_option maxRecDepth 20000 in
theorem gX1_restart_J7_fill_53178 : GoodIn wuX1_restart (va_wsS RX1 91 yJ7_fill_53178 wuJ7_fill_53178) := gu_S mw_1325 mw_1125 mw_182 mw_1126
theorem dX1_restart_0 : decode cX1_restart 0 = .ok (.iconst 0, 1) := by decide +kernel
theorem dX1_restart_1 : decode cX1_restart 1 = .ok (.istore_n 1, 1) := by decide +kernel
theorem dX1_restart_2 : decode cX1_restart 2 = .ok (.iload_n 1, 1) := by decide +kernel
theorem dX1_restart_3 : decode cX1_restart 3 = .ok (.iconst 4, 1) := by decide +kernel
theorem dX1_restart_4 : decode cX1_restart 4 = .ok (.if_icmp .ge 29, 3) := by decide +kernel
theorem dX1_restart_7 : decode cX1_restart 7 = .ok (.aload_n 0, 1) := by decide +kernel
theorem dX1_restart_8 : decode cX1_restart 8 = .ok (.getfield 48, 3) := by decide +kernel
theorem dX1_restart_11 : decode cX1_restart 11 = .ok (.iload_n 1, 1) := by decide +kernel
theorem dX1_restart_12 : decode cX1_restart 12 = .ok (.aaload, 1) := by decide +kernel
theorem dX1_restart_13 : decode cX1_restart 13 = .ok (.bipush 23, 2) := by decide +kernel
theorem dX1_restart_15 : decode cX1_restart 15 = .ok (.iconst 0, 1) := by decide +kernel
theorem dX1_restart_16 : decode cX1_restart 16 = .ok (.iastore, 1) := by decide +kernel
theorem dX1_restart_17 : decode cX1_restart 17 = .ok (.aload_n 0, 1) := by decide +kernel
theorem dX1_restart_18 : decode cX1_restart 18 = .ok (.getfield 51, 3) := by decide +kernel
theorem dX1_restart_21 : decode cX1_restart 21 = .ok (.iload_n 1, 1) := by decide +kernel
theorem dX1_restart_22 : decode cX1_restart 22 = .ok (.aaload, 1) := by decide +kernel
theorem dX1_restart_23 : decode cX1_restart 23 = .ok (.bipush 11, 2) := by decide +kernel
theorem dX1_restart_25 : decode cX1_restart 25 = .ok (.iconst 0, 1) := by decide +kernel
theorem dX1_restart_26 : decode cX1_restart 26 = .ok (.iastore, 1) := by decide +kernel
theorem dX1_restart_27 : decode cX1_restart 27 = .ok (.iinc 1 1, 3) := by decide +kernel
theorem dX1_restart_30 : decode cX1_restart 30 = .ok (.goto (-28), 3) := by decide +kernel
theorem dX1_restart_33 : decode cX1_restart 33 = .ok (.aload_n 0, 1) := by decide +kernel
theorem dX1_restart_34 : decode cX1_restart 34 = .ok (.iconst (-1), 1) := by decide +kernel
theorem dX1_restart_35 : decode cX1_restart 35 = .ok (.putfield 58, 3) := by decide +kernel
theorem dX1_restart_38 : decode cX1_restart 38 = .ok (.aload_n 0, 1) := by decide +kernel
theorem dX1_restart_39 : decode cX1_restart 39 = .ok (.getfield 21, 3) := by decide +kernel
theorem dX1_restart_42 : decode cX1_restart 42 = .ok (.invokevirtual 81, 3) := by decide +kernel
theorem dX1_restart_45 : decode cX1_restart 45 = .ok (.aload_n 0, 1) := by decide +kernel
theorem dX1_restart_46 : decode cX1_restart 46 = .ok (.getfield 28, 3) := by decide +kernel
theorem dX1_restart_49 : decode cX1_restart 49 = .ok (.aconst_null, 1) := by decide +kernel
theorem dX1_restart_50 : decode cX1_restart 50 = .ok (.putfield 84, 3) := by decide +kernel
theorem dX1_restart_53 : decode cX1_restart 53 = .ok (.aload_n 0, 1) := by decide +kernel
theorem dX1_restart_54 : decode cX1_restart 54 = .ok (.getfield 28, 3) := by decide +kernel
theorem dX1_restart_57 : decode cX1_restart 57 = .ok (.getfield 88, 3) := by decide +kernel
theorem dX1_restart_60 : decode cX1_restart 60 = .ok (.iconst 0, 1) := by decide +kernel
theorem dX1_restart_61 : decode cX1_restart 61 = .ok (.invokestatic 91, 3) := by decide +kernel
theorem dX1_restart_64 : decode cX1_restart 64 = .ok (.aload_n 0, 1) := by decide +kernel
theorem dX1_restart_65 : decode cX1_restart 65 = .ok (.getfield 42, 3) := by decide +kernel
theorem dX1_restart_68 : decode cX1_restart 68 = .ok (.iconst 0, 1) := by decide +kernel
theorem dX1_restart_69 : decode cX1_restart 69 = .ok (.putfield 97, 3) := by decide +kernel
theorem dX1_restart_72 : decode cX1_restart 72 = .ok (.aload_n 0, 1) := by decide +kernel
theorem dX1_restart_73 : decode cX1_restart 73 = .ok (.getfield 12, 3) := by decide +kernel
theorem dX1_restart_76 : decode cX1_restart 76 = .ok (.iconst 0, 1) := by decide +kernel
theorem dX1_restart_77 : decode cX1_restart 77 = .ok (.putfield 100, 3) := by decide +kernel
theorem dX1_restart_80 : decode cX1_restart 80 = .ok (.aload_n 0, 1) := by decide +kernel
theorem dX1_restart_81 : decode cX1_restart 81 = .ok (.iconst 0, 1) := by decide +kernel
theorem dX1_restart_82 : decode cX1_restart 82 = .ok (.putfield 103, 3) := by decide +kernel
theorem dX1_restart_85 : decode cX1_restart 85 = .ok (.aload_n 0, 1) := by decide +kernel
theorem dX1_restart_86 : decode cX1_restart 86 = .ok (.iconst 0, 1) := by decide +kernel
theorem dX1_restart_87 : decode cX1_restart 87 = .ok (.putfield 106, 3) := by decide +kernel
theorem dX1_restart_90 : decode cX1_restart 90 = .ok (.aload_n 0, 1) := by decide +kernel
theorem dX1_restart_91 : decode cX1_restart 91 = .ok (.iconst 0, 1) := by decide +kernel
theorem dX1_restart_92 : decode cX1_restart 92 = .ok (.putfield 109, 3) := by decide +kernel
theorem dX1_restart_95 : decode cX1_restart 95 = .ok (.aload_n 0, 1) := by decide +kernel
theorem dX1_restart_96 : decode cX1_restart 96 = .ok (.iconst 0, 1) := by decide +kernel
theorem dX1_restart_97 : decode cX1_restart 97 = .ok (.putfield 113, 3) := by decide +kernel
theorem dX1_restart_100 : decode cX1_restart 100 = .ok (.return_, 1) := by decide +kernel
def FX1_restart (G : GG) (M : DD) (a : Nat)  : Option (DD) :=
  bnd (itr (fun (s2 : Int32 × DD) => ((if ((4 : Int32)) ≤ s2.1 then (some (.inr (s2.1, s2.2))) else
  (dr G 15 ((s2.2.2 a 5)) fun b21 =>
  chk (¬ (s2.1 < 0 ∨ G.2.2 b21 ≤ s2.1.toNatClampNeg)) <|
  dr G 13 ((s2.2.2 b21 s2.1.toNatClampNeg)) fun b22 =>
  chk (¬ (((23 : Int32)) < 0 ∨ G.2.2 b22 ≤ ((23 : Int32)).toNatClampNeg)) <|
  ltt (uI s2.2 b22 ((23 : Int32)).toNatClampNeg ((0 : Int32))) fun M23 =>
  dr G 15 ((M23.2 a 6)) fun b24 =>
  chk (¬ (s2.1 < 0 ∨ G.2.2 b24 ≤ s2.1.toNatClampNeg)) <|
  dr G 13 ((M23.2 b24 s2.1.toNatClampNeg)) fun b25 =>
  chk (¬ (((11 : Int32)) < 0 ∨ G.2.2 b25 ≤ ((11 : Int32)).toNatClampNeg)) <|
  ltt (uI M23 b25 ((11 : Int32)).toNatClampNeg ((0 : Int32))) fun M26 =>
  ltt (s2.1 + (1 : Int32)) fun x27 =>
  some (.inl (x27, M26)))) : Option ((Int32 × DD) ⊕ (Int32 × DD)))) 1000000 ((0 : Int32), M)) fun (y1 : Int32 × DD) =>
  ltt (uI y1.2 a 8 ((-1 : Int32))) fun M4 =>
  dr G 7 ((M4.2 a 1)) fun b5 =>
  bnd (FX7_clear G M4 b5) fun y6 =>
  dr G 9 ((y6.2 a 2)) fun b7 =>
  ltt (uP y6 b7 0 none) fun M8 =>
  dr G 9 ((M8.2 a 2)) fun b9 =>
  bnd (FJ7_fill_53178 G M8 ((M8.2 b9 4)) ((0 : Int32))) fun y10 =>
  dr G 2 ((y10.2 a 4)) fun b11 =>
  ltt (uI y10 b11 1 ((0 : Int32))) fun M12 =>
  dr G 5 ((M12.2 a 0)) fun b13 =>
  ltt (uI M12 b13 12 ((0 : Int32))) fun M14 =>
  ltt (uI M14 a 14 ((0 : Int32))) fun M15 =>
  ltt (uI M15 a 15 ((0 : Int32))) fun M16 =>
  chk (((0 : Int32)) = 0 ∨ ((0 : Int32)) = 1) <|
  ltt (uI M16 a 16 ((0 : Int32))) fun M17 =>
  ltt (uI M17 a 18 ((0 : Int32))) fun M18 =>
  some M18
set_option maxHeartbeats 4000000 in
set_option maxRecDepth 100000 in
theorem kX1_restart (l : Launch) (D : va_G) (ct : CT) (ad : Nat → Nat) (Z : Nat → Nat) (G : GG) (M : DD) (sz : Nat) (a : Nat)  (y : DD) (hc : a < G.1) (hk : G.2.1 a = 1) (hF : FX1_restart G M a  = some y) : Met l yX1_restart wuX1_restart ({ frames := 1, cells := 0, slots := 0, locals := 23 }) (va_Pc [.ref (ad a)] (kB D ct ad Z G M sz)) (va_Qv (fun (_ : Unit) => True) (fun _ t => kE D ct ad G (wA ad G sz) y t) (wA ad G sz)) 0 0 (wA ad G sz) := by
  refine Met.ofW (cc := cX1_restart) (maxL := 2) (ret := none) (by decide) rfl ?_
  intro p e s m args below meth c s₁ B hml hv
  obtain ⟨rfl, hsz, hP, hK, hD0, hZ, hN⟩ := hv
  have hx := B.exec
  have hb := B.bytes
  have hr := B.returns
  have hts := atoms_spec (ws := wuX1_restart) B.pre
  have hown : s.vm.findClass RX1 = some m.cls := findClass_of_methodNamed B.named
  have hlocks := B.notSynchronized
  subst hsz
  have hD := wD_self (sz := s.heap.size) hD0
  have hA9 : ∀ q, s.heap.size ≤ q → wA ad G s.heap.size q := fun q h => Or.inr h
  generalize hAe : wA ad G s.heap.size = A at hD hA9 hZ ⊢
  have hS : va_S A s.heap s.heap [] := va_S.rf
  have hl := lv_entry ([.ref (ad a)]) (n := 2) (Nat.le_of_ble_eq_true rfl)
  rw [lg_entry_eq]
  generalize (lg_sl ([.ref (ad a)]) ++ List.replicate (2 - (lg_sl ([.ref (ad a)])).length) Slot.unset).toArray = ls at hl ⊢
  have hl : lv_has ls 2 [(0, .ref (ad a))] := hl
  unfold FX1_restart at hF
  refine lv_iconst (v := (0 : Int32)) hx hb dX1_restart_0 (by decide) ?_
  refine lv_istore_n (lv' := [(1, .int (0 : Int32)), (0, .ref (ad a))]) hx hb dX1_restart_1 rfl hl (by decide) rfl (fun ls hl => ?_)
  obtain ⟨y1, hy1, hF⟩ := bnd_some hF
  have K1 : ∀ (H : Heap) (locs : List Loc) (ls : Array Slot), va_P D classes (wld ct ad G y1.2) H → va_D A (wld ct ad G y1.2) → va_S A s.heap H locs → lv_has ls 2 [(1, .int y1.1), (0, .ref (ad a))] → W p l e (headSpec wuX1_restart ({ frames := 1, cells := 0, slots := 0, locals := 23 })).room s m ([.ref (ad a)] : List Value).toArray below meth c H locs 0 0 (MQ below (va_Qv (fun (_ : Unit) => True) (fun _ t => kE D ct ad G A y t) A) ([.ref (ad a)] : List Value).toArray s 0 0 A) (F0 m 33 ls []) := by
    intro H locs ls hP hD hS hl
    refine lv_aload_n hx hb dX1_restart_33 rfl (lv_at hl 1 rfl) ?_
    refine lv_iconst (v := (-1 : Int32)) hx hb dX1_restart_34 (by decide) ?_
    refine va_put (D := D) (ci := 1) (v := .int (-1 : Int32)) (ty := .int) (C := RX1) (T := TX1) (N := 22) hx hb hts (mus hf_X1) tyX1 tyX1_ok nmX1 hown hK hP hD hS a (wld_o ct ad G y1.2 hc hk (by decide)) rfl 8 (by decide) (hts (.fieldLink RX1 58 "VideoSuite$Decoder" "activeId" "I") (mu mw_650)) (fun _ h9 => h9) rfl (by decide +kernel) rfl rfl (Nat.le_of_ble_eq_true rfl) dX1_restart_35 (fun H locs hP hD hS => ?_)
    obtain ⟨M4, eM4, hF⟩ := ltt_some hF
    rw [set_oI ct ad G y1.2 hc hk (by decide) (by rfl), ← eM4] at hP hD
    refine lv_aload_n hx hb dX1_restart_38 rfl (lv_at hl 1 rfl) ?_
    refine va_get (D := D) (ci := 1) (v := va_re ad (M4.2 a 1)) (C := RX1) (T := TX1) (N := 22) hx hb hts (mus hf_X1) hown hK hP a (wld_o ct ad G M4 hc hk (by decide)) rfl 1 (by decide) (hts (.fieldLink RX1 21 "VideoSuite$Decoder" "store" "LVideoSuite$Store;") (mu mw_642)) (fun _ h9 => h9) rfl dX1_restart_39 ?_
    obtain ⟨b5, ho5, hc5, hk5, hF⟩ := dr_some hF
    refine W_st (st' := [.ref (ad b5)]) (by rw [va_some ho5]) ?_
    obtain ⟨y6, hy6, hF⟩ := bnd_some hF
    have hf9 := wA_in hD hA9 hS
    refine va_callv (va_runV (As := []) (rest := []) ⟨hx, hb, hml, hown, hts⟩ (kX7_clear l D ct ad Z G M4 H.size b5 y6 hc5 hk5 hy6) (cwV 0 hts gX1_restart_X7_clear rfl rfl rfl (by decide +kernel) ⟨Nat.le_of_ble_eq_true rfl, Nat.le_of_ble_eq_true rfl⟩) ⟨fun a U g mk q => by obtain ⟨q0, q1, qP, qK, qD, qZ, qN⟩ := q; exact ⟨q0, q1, qP, va_K.moved (u := U) (U := U.calling g mk a) (Vm.Alike.refl U.vm) qK, qD, sF.moved (u := U) (U := U.calling g mk a) (Vm.Alike.refl U.vm) qZ, nF.same rfl qN⟩, va_recv hK hP (ci := 7) (q0 := b5) rfl (wld_o ct ad G M4 hc5 hk5 (by decide)), fun U hU hW => ⟨rfl, by rw [hU], by rw [hU]; exact hP, va_K.moved hW.alike hK, hD.weaken (fun _ _ _ _ => trivial), by rw [hU]; exact ((hZ.kept hS.2.1).narrow hf9).moved hW.alike, hN.warm hW⟩⟩ rfl rfl hl.1 rfl (lv_room (Nat.le_of_ble_eq_true rfl)) dX1_restart_42 ⟨(Nat.zero_le _), (Nat.zero_le _)⟩) hS (fun q _ h => hf9 q h) hf9 (fun u t H locs ht hvm hw hB hz1 hk1 hS => ?_)
    obtain ⟨hP, hK9, hD9⟩ := hB
    rw [ht] at hP
    have hD := hD9.weaken (fun _ q _ h => hf9 q.1 h)
    refine lv_aload_n hx hb dX1_restart_45 rfl (lv_at hl 1 rfl) ?_
    refine va_get (D := D) (ci := 1) (v := va_re ad (y6.2 a 2)) (C := RX1) (T := TX1) (N := 22) hx hb hts (mus hf_X1) hown hK hP a (wld_o ct ad G y6 hc hk (by decide)) rfl 2 (by decide) (hts (.fieldLink RX1 28 "VideoSuite$Decoder" "work" "LVideoSuite$Work;") (mu mw_644)) (fun _ h9 => h9) rfl dX1_restart_46 ?_
    refine lv_nullq (ad := ad) hx hb dX1_restart_49 ?_
    obtain ⟨b7, ho7, hc7, hk7, hF⟩ := dr_some hF
    refine W_st (st' := [va_re ad none, .ref (ad b7)]) (by rw [va_some ho7]) ?_
    refine va_put (D := D) (ci := 9) (v := va_re ad none) (ty := (.object "VideoSuite$Picture")) (C := RX9) (T := TX9) (N := 20) hx hb hts (mus hf_X9) tyX9 tyX9_ok nmX9 hown hK hP hD hS b7 (wld_o ct ad G y6 hc7 hk7 (by decide)) rfl 0 (by decide) (hts (.fieldLink RX1 84 "VideoSuite$Work" "pic" "LVideoSuite$Picture;") (mu mw_420)) (fun _ h9 => h9) rfl (by decide +kernel) (nar_q ad (Or.inl ⟨_, rfl⟩) none).1 (nar_q ad (Or.inl ⟨_, rfl⟩) none).2 (Nat.le_of_ble_eq_true rfl) dX1_restart_50 (fun H locs hP hD hS => ?_)
    obtain ⟨M8, eM8, hF⟩ := ltt_some hF
    rw [set_oP ct ad G y6 hc7 hk7 (by decide) (by rfl), ← eM8] at hP hD
    refine lv_aload_n hx hb dX1_restart_53 rfl (lv_at hl 1 rfl) ?_
    refine va_get (D := D) (ci := 1) (v := va_re ad (M8.2 a 2)) (C := RX1) (T := TX1) (N := 22) hx hb hts (mus hf_X1) hown hK hP a (wld_o ct ad G M8 hc hk (by decide)) rfl 2 (by decide) (hts (.fieldLink RX1 28 "VideoSuite$Decoder" "work" "LVideoSuite$Work;") (mu mw_644)) (fun _ h9 => h9) rfl dX1_restart_54 ?_
    obtain ⟨b9, ho9, hc9, hk9, hF⟩ := dr_some hF
    refine W_st (st' := [.ref (ad b9)]) (by rw [va_some ho9]) ?_
    refine va_get (D := D) (ci := 9) (v := va_re ad (M8.2 b9 4)) (C := RX9) (T := TX9) (N := 20) hx hb hts (mus hf_X9) hown hK hP b9 (wld_o ct ad G M8 hc9 hk9 (by decide)) rfl 4 (by decide) (hts (.fieldLink RX1 88 "VideoSuite$Work" "entryThere" "[I") (mu mw_440)) (fun _ h9 => h9) rfl dX1_restart_57 ?_
    refine lv_iconst (v := (0 : Int32)) hx hb dX1_restart_60 (by decide) ?_
    obtain ⟨y10, hy10, hF⟩ := bnd_some hF
    have hf9 := wA_in hD hA9 hS
    refine va_callv (va_runS (As := [va_re ad (M8.2 b9 4), .int (0 : Int32)]) (rest := []) ⟨hx, hb, hml, hown, hts⟩ (kJ7_fill_53178 l D ct ad Z G M8 H.size ((M8.2 b9 4)) ((0 : Int32)) y10 hy10) (va_cwS 2 hts gX1_restart_J7_fill_53178 rfl rfl rfl (by decide +kernel) ⟨Nat.le_of_ble_eq_true rfl, Nat.le_of_ble_eq_true rfl⟩) ⟨fun a U g mk q => by obtain ⟨q0, q1, qP, qK, qD, qZ, qN⟩ := q; exact ⟨q0, q1, qP, va_K.moved (u := U) (U := U.calling g mk a) (Vm.Alike.refl U.vm) qK, qD, sF.moved (u := U) (U := U.calling g mk a) (Vm.Alike.refl U.vm) qZ, nF.same rfl qN⟩, fun U hU hW => ⟨rfl, by rw [hU], by rw [hU]; exact hP, va_K.moved hW.alike hK, hD.weaken (fun _ _ _ _ => trivial), by rw [hU]; exact ((hZ.kept hS.2.1).narrow hf9).moved hW.alike, hN.warm hW⟩⟩ rfl rfl hl.1 rfl (lv_room (Nat.le_of_ble_eq_true rfl)) dX1_restart_61 ⟨(Nat.zero_le _), (Nat.zero_le _)⟩) hS (fun q _ h => hf9 q h) hf9 (fun u t H locs ht hvm hw hB hz1 hk1 hS => ?_)
    obtain ⟨hP, hK9, hD9⟩ := hB
    rw [ht] at hP
    have hD := hD9.weaken (fun _ q _ h => hf9 q.1 h)
    refine lv_aload_n hx hb dX1_restart_64 rfl (lv_at hl 1 rfl) ?_
    refine va_get (D := D) (ci := 1) (v := va_re ad (y10.2 a 4)) (C := RX1) (T := TX1) (N := 22) hx hb hts (mus hf_X1) hown hK hP a (wld_o ct ad G y10 hc hk (by decide)) rfl 4 (by decide) (hts (.fieldLink RX1 42 "VideoSuite$Decoder" "edges" "LVideoSuite$Edges;") (mu mw_646)) (fun _ h9 => h9) rfl dX1_restart_65 ?_
    refine lv_iconst (v := (0 : Int32)) hx hb dX1_restart_68 (by decide) ?_
    obtain ⟨b11, ho11, hc11, hk11, hF⟩ := dr_some hF
    refine W_st (st' := [.int (0 : Int32), .ref (ad b11)]) (by rw [va_some ho11]) ?_
    refine va_put (D := D) (ci := 2) (v := .int (0 : Int32)) (ty := .int) (C := RX2) (T := TX2) (N := 7) hx hb hts (mus hf_X2) tyX2 tyX2_ok nmX2 hown hK hP hD hS b11 (wld_o ct ad G y10 hc11 hk11 (by decide)) rfl 1 (by decide) (hts (.fieldLink RX1 97 "VideoSuite$Edges" "blocks" "I") (mu mw_586)) (fun _ h9 => h9) rfl (by decide +kernel) rfl rfl (Nat.le_of_ble_eq_true rfl) dX1_restart_69 (fun H locs hP hD hS => ?_)
    obtain ⟨M12, eM12, hF⟩ := ltt_some hF
    rw [set_oI ct ad G y10 hc11 hk11 (by decide) (by rfl), ← eM12] at hP hD
    refine lv_aload_n hx hb dX1_restart_72 rfl (lv_at hl 1 rfl) ?_
    refine va_get (D := D) (ci := 1) (v := va_re ad (M12.2 a 0)) (C := RX1) (T := TX1) (N := 22) hx hb hts (mus hf_X1) hown hK hP a (wld_o ct ad G M12 hc hk (by decide)) rfl 0 (by decide) (hts (.fieldLink RX1 12 "VideoSuite$Decoder" "reader" "LVideoSuite$Reader;") (mu mw_640)) (fun _ h9 => h9) rfl dX1_restart_73 ?_
    refine lv_iconst (v := (0 : Int32)) hx hb dX1_restart_76 (by decide) ?_
    obtain ⟨b13, ho13, hc13, hk13, hF⟩ := dr_some hF
    refine W_st (st' := [.int (0 : Int32), .ref (ad b13)]) (by rw [va_some ho13]) ?_
    refine va_put (D := D) (ci := 5) (v := .int (0 : Int32)) (ty := .int) (C := RX5) (T := TX5) (N := 17) hx hb hts (mus hf_X5) tyX5 tyX5_ok nmX5 hown hK hP hD hS b13 (wld_o ct ad G M12 hc13 hk13 (by decide)) rfl 12 (by decide) (hts (.fieldLink RX1 100 "VideoSuite$Reader" "elementCount" "I") (mu mw_301)) (fun _ h9 => h9) rfl (by decide +kernel) rfl rfl (Nat.le_of_ble_eq_true rfl) dX1_restart_77 (fun H locs hP hD hS => ?_)
    obtain ⟨M14, eM14, hF⟩ := ltt_some hF
    rw [set_oI ct ad G M12 hc13 hk13 (by decide) (by rfl), ← eM14] at hP hD
    refine lv_aload_n hx hb dX1_restart_80 rfl (lv_at hl 1 rfl) ?_
    refine lv_iconst (v := (0 : Int32)) hx hb dX1_restart_81 (by decide) ?_
    refine va_put (D := D) (ci := 1) (v := .int (0 : Int32)) (ty := .int) (C := RX1) (T := TX1) (N := 22) hx hb hts (mus hf_X1) tyX1 tyX1_ok nmX1 hown hK hP hD hS a (wld_o ct ad G M14 hc hk (by decide)) rfl 14 (by decide) (hts (.fieldLink RX1 103 "VideoSuite$Decoder" "faultCount" "I") (mu mw_656)) (fun _ h9 => h9) rfl (by decide +kernel) rfl rfl (Nat.le_of_ble_eq_true rfl) dX1_restart_82 (fun H locs hP hD hS => ?_)
    obtain ⟨M15, eM15, hF⟩ := ltt_some hF
    rw [set_oI ct ad G M14 hc hk (by decide) (by rfl), ← eM15] at hP hD
    refine lv_aload_n hx hb dX1_restart_85 rfl (lv_at hl 1 rfl) ?_
    refine lv_iconst (v := (0 : Int32)) hx hb dX1_restart_86 (by decide) ?_
    refine va_put (D := D) (ci := 1) (v := .int (0 : Int32)) (ty := .int) (C := RX1) (T := TX1) (N := 22) hx hb hts (mus hf_X1) tyX1 tyX1_ok nmX1 hown hK hP hD hS a (wld_o ct ad G M15 hc hk (by decide)) rfl 15 (by decide) (hts (.fieldLink RX1 106 "VideoSuite$Decoder" "slices" "I") (mu mw_658)) (fun _ h9 => h9) rfl (by decide +kernel) rfl rfl (Nat.le_of_ble_eq_true rfl) dX1_restart_87 (fun H locs hP hD hS => ?_)
    obtain ⟨M16, eM16, hF⟩ := ltt_some hF
    rw [set_oI ct ad G M15 hc hk (by decide) (by rfl), ← eM16] at hP hD
    refine lv_aload_n hx hb dX1_restart_90 rfl (lv_at hl 1 rfl) ?_
    refine lv_iconst (v := (0 : Int32)) hx hb dX1_restart_91 (by decide) ?_
    obtain ⟨hz9, hF⟩ := chk_some hF
    refine va_put (D := D) (ci := 1) (v := .int (0 : Int32)) (ty := .boolean) (C := RX1) (T := TX1) (N := 22) hx hb hts (mus hf_X1) tyX1 tyX1_ok nmX1 hown hK hP hD hS a (wld_o ct ad G M16 hc hk (by decide)) rfl 16 (by decide) (hts (.fieldLink RX1 109 "VideoSuite$Decoder" "underWay" "Z") (mu mw_660)) (fun _ h9 => h9) rfl (by decide +kernel) (nar_z hz9).1 (nar_z hz9).2 (Nat.le_of_ble_eq_true rfl) dX1_restart_92 (fun H locs hP hD hS => ?_)
    obtain ⟨M17, eM17, hF⟩ := ltt_some hF
    rw [set_oI ct ad G M16 hc hk (by decide) (by rfl), ← eM17] at hP hD
    refine lv_aload_n hx hb dX1_restart_95 rfl (lv_at hl 1 rfl) ?_
    refine lv_iconst (v := (0 : Int32)) hx hb dX1_restart_96 (by decide) ?_
    refine va_put (D := D) (ci := 1) (v := .int (0 : Int32)) (ty := .int) (C := RX1) (T := TX1) (N := 22) hx hb hts (mus hf_X1) tyX1 tyX1_ok nmX1 hown hK hP hD hS a (wld_o ct ad G M17 hc hk (by decide)) rfl 18 (by decide) (hts (.fieldLink RX1 113 "VideoSuite$Decoder" "mended" "I") (mu mw_663)) (fun _ h9 => h9) rfl (by decide +kernel) rfl rfl (Nat.le_of_ble_eq_true rfl) dX1_restart_97 (fun H locs hP hD hS => ?_)
    obtain ⟨M18, eM18, hF⟩ := ltt_some hF
    rw [set_oI ct ad G M17 hc hk (by decide) (by rfl), ← eM18] at hP hD
    obtain rfl := Option.some.inj hF
    exact W.vret hx hb hr (fun t ht hW => ⟨⟨(), rfl, trivial, ⟨by rw [ht]; exact hP, va_K.moved hW.alike hK, hD⟩⟩, hS.F ht⟩) hS.2.2 dX1_restart_100
  clear hF
  refine itr_rule (fun (s2 : Int32 × DD) => ∀ (H : Heap) (locs : List Loc) (ls : Array Slot), va_P D classes (wld ct ad G s2.2) H → va_D A (wld ct ad G s2.2) → va_S A s.heap H locs → lv_has ls 2 [(1, .int s2.1), (0, .ref (ad a))] → W p l e (headSpec wuX1_restart ({ frames := 1, cells := 0, slots := 0, locals := 23 })).room s m ([.ref (ad a)] : List Value).toArray below meth c H locs 0 0 (MQ below (va_Qv (fun (_ : Unit) => True) (fun _ t => kE D ct ad G A y t) A) ([.ref (ad a)] : List Value).toArray s 0 0 A) (F0 m 2 ls [])) ?_ _ _ hy1 _ _ _ hP hD hS (lv_sub hl [0, 1] rfl)
  rintro s2 ⟨z19, hF, hwz19⟩ H locs ls hP hD hS hl
  try dsimp only at hF
  refine lv_iload_n hx hb dX1_restart_2 rfl (lv_at hl 0 rfl) ?_
  refine lv_iconst (v := (4 : Int32)) hx hb dX1_restart_3 (by decide) ?_
  refine lv_icmp_ge (tgt := 33) hx hb dX1_restart_4 (by decide) (fun c20 => ?_) (fun c20 => ?_)
  · rw [if_pos c20] at hF
    obtain rfl := Option.some.inj hF
    subst hwz19
    exact K1 _ _ _ hP hD hS (lv_sub hl [0, 1] rfl)
  · rw [if_neg c20] at hF
    refine lv_aload_n hx hb dX1_restart_7 rfl (lv_at hl 1 rfl) ?_
    refine va_get (D := D) (ci := 1) (v := va_re ad (s2.2.2 a 5)) (C := RX1) (T := TX1) (N := 22) hx hb hts (mus hf_X1) hown hK hP a (wld_o ct ad G s2.2 hc hk (by decide)) rfl 5 (by decide) (hts (.fieldLink RX1 48 "VideoSuite$Decoder" "sequences" "[[I") (mu mw_647)) (fun _ h9 => h9) rfl dX1_restart_8 ?_
    refine lv_iload_n hx hb dX1_restart_11 rfl (lv_at hl 0 rfl) ?_
    obtain ⟨b21, ho21, hc21, hk21, hF⟩ := dr_some hF
    refine W_st (st' := [.int s2.1, .ref (ad b21)]) (by rw [va_some ho21]) ?_
    obtain ⟨hvc, hF⟩ := chk_some hF
    refine ld_g hx hb hK hP hc21 hk21 hvc dX1_restart_12 ?_
    refine lv_bipush (v := (23 : Int32)) hx hb dX1_restart_13 (by decide) ?_
    refine lv_iconst (v := (0 : Int32)) hx hb dX1_restart_15 (by decide) ?_
    obtain ⟨b22, ho22, hc22, hk22, hF⟩ := dr_some hF
    refine W_st (st' := [.int (0 : Int32), .int (23 : Int32), .ref (ad b22)]) (by rw [va_some ho22]) ?_
    obtain ⟨hvc, hF⟩ := chk_some hF
    refine va_iast hx hb hK hP hD hS b22 1 (wld_i ct ad G s2.2 hc22 hk22) rfl hvc dX1_restart_16 (fun H locs hP hD hS => ?_)
    obtain ⟨M23, eM23, hF⟩ := ltt_some hF
    rw [set_i ct ad G s2.2 hc22 hk22, ← eM23] at hP hD
    refine lv_aload_n hx hb dX1_restart_17 rfl (lv_at hl 1 rfl) ?_
    refine va_get (D := D) (ci := 1) (v := va_re ad (M23.2 a 6)) (C := RX1) (T := TX1) (N := 22) hx hb hts (mus hf_X1) hown hK hP a (wld_o ct ad G M23 hc hk (by decide)) rfl 6 (by decide) (hts (.fieldLink RX1 51 "VideoSuite$Decoder" "parameters" "[[I") (mu mw_648)) (fun _ h9 => h9) rfl dX1_restart_18 ?_
    refine lv_iload_n hx hb dX1_restart_21 rfl (lv_at hl 0 rfl) ?_
    obtain ⟨b24, ho24, hc24, hk24, hF⟩ := dr_some hF
    refine W_st (st' := [.int s2.1, .ref (ad b24)]) (by rw [va_some ho24]) ?_
    obtain ⟨hvc, hF⟩ := chk_some hF
    refine ld_g hx hb hK hP hc24 hk24 hvc dX1_restart_22 ?_
    refine lv_bipush (v := (11 : Int32)) hx hb dX1_restart_23 (by decide) ?_
    refine lv_iconst (v := (0 : Int32)) hx hb dX1_restart_25 (by decide) ?_
    obtain ⟨b25, ho25, hc25, hk25, hF⟩ := dr_some hF
    refine W_st (st' := [.int (0 : Int32), .int (11 : Int32), .ref (ad b25)]) (by rw [va_some ho25]) ?_
    obtain ⟨hvc, hF⟩ := chk_some hF
    refine va_iast hx hb hK hP hD hS b25 1 (wld_i ct ad G M23 hc25 hk25) rfl hvc dX1_restart_26 (fun H locs hP hD hS => ?_)
    obtain ⟨M26, eM26, hF⟩ := ltt_some hF
    rw [set_i ct ad G M23 hc25 hk25, ← eM26] at hP hD
    obtain ⟨x27, ex27, hF⟩ := ltt_some hF
    refine lv_iinc (v := x27) (lv' := [(1, .int x27), (0, .ref (ad a))]) hx hb dX1_restart_27 hl (k := 0) rfl (by rw [ex27]; rfl) (by decide) rfl (fun ls hl => ?_)
    refine lv_goto (tgt := 2) hx hb dX1_restart_30 (by decide) ?_
    obtain rfl := Option.some.inj hF
    exact hwz19 _ _ _ hP hD hS (lv_sub hl [0, 1] rfl)
set_option maxRecDepth 20000 in
theorem gX2_filterLine_X11_clip_n143 : GoodIn wuX2_filterLine wuX11_clip := gu_P mw_999
set_option maxRecDepth 20000 in
theorem gX2_filterLine_X2_smooth : GoodIn wuX2_filterLine (va_wsS RX2 136 yX2_smooth wuX2_smooth) := gu_S mw_992 mw_993 mw_173 mw_994
set_option maxRecDepth 20000 in
theorem dX2_filterLine_0 : decode cX2_filterLine 0 = .ok (.aload_n 1, 1) := by decide +kernel
theorem dX2_filterLine_1 : decode cX2_filterLine 1 = .ok (.iload_n 2, 1) := by decide +kernel
theorem dX2_filterLine_2 : decode cX2_filterLine 2 = .ok (.iload_n 3, 1) := by decide +kernel
theorem dX2_filterLine_3 : decode cX2_filterLine 3 = .ok (.isub, 1) := by decide +kernel
theorem dX2_filterLine_4 : decode cX2_filterLine 4 = .ok (.iaload, 1) := by decide +kernel
theorem dX2_filterLine_5 : decode cX2_filterLine 5 = .ok (.istore 6, 2) := by decide +kernel
theorem dX2_filterLine_7 : decode cX2_filterLine 7 = .ok (.aload_n 1, 1) := by decide +kernel
theorem dX2_filterLine_8 : decode cX2_filterLine 8 = .ok (.iload_n 2, 1) := by decide +kernel
theorem dX2_filterLine_9 : decode cX2_filterLine 9 = .ok (.iconst 2, 1) := by decide +kernel
theorem dX2_filterLine_10 : decode cX2_filterLine 10 = .ok (.iload_n 3, 1) := by decide +kernel
theorem dX2_filterLine_11 : decode cX2_filterLine 11 = .ok (.imul, 1) := by decide +kernel
theorem dX2_filterLine_12 : decode cX2_filterLine 12 = .ok (.isub, 1) := by decide +kernel
theorem dX2_filterLine_13 : decode cX2_filterLine 13 = .ok (.iaload, 1) := by decide +kernel
theorem dX2_filterLine_14 : decode cX2_filterLine 14 = .ok (.istore 7, 2) := by decide +kernel
theorem dX2_filterLine_16 : decode cX2_filterLine 16 = .ok (.aload_n 1, 1) := by decide +kernel
theorem dX2_filterLine_17 : decode cX2_filterLine 17 = .ok (.iload_n 2, 1) := by decide +kernel
theorem dX2_filterLine_18 : decode cX2_filterLine 18 = .ok (.iaload, 1) := by decide +kernel
theorem dX2_filterLine_19 : decode cX2_filterLine 19 = .ok (.istore 8, 2) := by decide +kernel
theorem dX2_filterLine_21 : decode cX2_filterLine 21 = .ok (.aload_n 1, 1) := by decide +kernel
theorem dX2_filterLine_22 : decode cX2_filterLine 22 = .ok (.iload_n 2, 1) := by decide +kernel
theorem dX2_filterLine_23 : decode cX2_filterLine 23 = .ok (.iload_n 3, 1) := by decide +kernel
theorem dX2_filterLine_24 : decode cX2_filterLine 24 = .ok (.iadd, 1) := by decide +kernel
theorem dX2_filterLine_25 : decode cX2_filterLine 25 = .ok (.iaload, 1) := by decide +kernel
theorem dX2_filterLine_26 : decode cX2_filterLine 26 = .ok (.istore 9, 2) := by decide +kernel
theorem dX2_filterLine_28 : decode cX2_filterLine 28 = .ok (.iload 6, 2) := by decide +kernel
theorem dX2_filterLine_30 : decode cX2_filterLine 30 = .ok (.iload 8, 2) := by decide +kernel
theorem dX2_filterLine_32 : decode cX2_filterLine 32 = .ok (.isub, 1) := by decide +kernel
theorem dX2_filterLine_33 : decode cX2_filterLine 33 = .ok (.invokestatic 131, 3) := by decide +kernel
theorem dX2_filterLine_36 : decode cX2_filterLine 36 = .ok (.aload_n 0, 1) := by decide +kernel
theorem dX2_filterLine_37 : decode cX2_filterLine 37 = .ok (.getfield 122, 3) := by decide +kernel
theorem dX2_filterLine_40 : decode cX2_filterLine 40 = .ok (.if_icmp .ge 33, 3) := by decide +kernel
theorem dX2_filterLine_43 : decode cX2_filterLine 43 = .ok (.iload 7, 2) := by decide +kernel
theorem dX2_filterLine_45 : decode cX2_filterLine 45 = .ok (.iload 6, 2) := by decide +kernel
theorem dX2_filterLine_47 : decode cX2_filterLine 47 = .ok (.isub, 1) := by decide +kernel
theorem dX2_filterLine_48 : decode cX2_filterLine 48 = .ok (.invokestatic 131, 3) := by decide +kernel
theorem dX2_filterLine_51 : decode cX2_filterLine 51 = .ok (.aload_n 0, 1) := by decide +kernel
theorem dX2_filterLine_52 : decode cX2_filterLine 52 = .ok (.getfield 128, 3) := by decide +kernel
theorem dX2_filterLine_55 : decode cX2_filterLine 55 = .ok (.if_icmp .ge 18, 3) := by decide +kernel
theorem dX2_filterLine_58 : decode cX2_filterLine 58 = .ok (.iload 9, 2) := by decide +kernel
theorem dX2_filterLine_60 : decode cX2_filterLine 60 = .ok (.iload 8, 2) := by decide +kernel
theorem dX2_filterLine_62 : decode cX2_filterLine 62 = .ok (.isub, 1) := by decide +kernel
theorem dX2_filterLine_63 : decode cX2_filterLine 63 = .ok (.invokestatic 131, 3) := by decide +kernel
theorem dX2_filterLine_66 : decode cX2_filterLine 66 = .ok (.aload_n 0, 1) := by decide +kernel
theorem dX2_filterLine_67 : decode cX2_filterLine 67 = .ok (.getfield 128, 3) := by decide +kernel
theorem dX2_filterLine_70 : decode cX2_filterLine 70 = .ok (.if_icmp .lt 4, 3) := by decide +kernel
theorem dX2_filterLine_73 : decode cX2_filterLine 73 = .ok (.return_, 1) := by decide +kernel
theorem dX2_filterLine_74 : decode cX2_filterLine 74 = .ok (.iload 5, 2) := by decide +kernel
theorem dX2_filterLine_76 : decode cX2_filterLine 76 = .ok (.ifCond .eq 27, 3) := by decide +kernel
theorem dX2_filterLine_79 : decode cX2_filterLine 79 = .ok (.aload_n 1, 1) := by decide +kernel
theorem dX2_filterLine_80 : decode cX2_filterLine 80 = .ok (.iload_n 2, 1) := by decide +kernel
theorem dX2_filterLine_81 : decode cX2_filterLine 81 = .ok (.iconst 3, 1) := by decide +kernel
theorem dX2_filterLine_82 : decode cX2_filterLine 82 = .ok (.iload_n 3, 1) := by decide +kernel
theorem dX2_filterLine_83 : decode cX2_filterLine 83 = .ok (.imul, 1) := by decide +kernel
theorem dX2_filterLine_84 : decode cX2_filterLine 84 = .ok (.isub, 1) := by decide +kernel
theorem dX2_filterLine_85 : decode cX2_filterLine 85 = .ok (.iaload, 1) := by decide +kernel
theorem dX2_filterLine_86 : decode cX2_filterLine 86 = .ok (.iload 6, 2) := by decide +kernel
theorem dX2_filterLine_88 : decode cX2_filterLine 88 = .ok (.isub, 1) := by decide +kernel
theorem dX2_filterLine_89 : decode cX2_filterLine 89 = .ok (.invokestatic 131, 3) := by decide +kernel
theorem dX2_filterLine_92 : decode cX2_filterLine 92 = .ok (.aload_n 0, 1) := by decide +kernel
theorem dX2_filterLine_93 : decode cX2_filterLine 93 = .ok (.getfield 128, 3) := by decide +kernel
theorem dX2_filterLine_96 : decode cX2_filterLine 96 = .ok (.if_icmp .ge 7, 3) := by decide +kernel
theorem dX2_filterLine_99 : decode cX2_filterLine 99 = .ok (.iconst 1, 1) := by decide +kernel
theorem dX2_filterLine_100 : decode cX2_filterLine 100 = .ok (.goto 4, 3) := by decide +kernel
theorem dX2_filterLine_103 : decode cX2_filterLine 103 = .ok (.iconst 0, 1) := by decide +kernel
theorem dX2_filterLine_104 : decode cX2_filterLine 104 = .ok (.istore 10, 2) := by decide +kernel
theorem dX2_filterLine_106 : decode cX2_filterLine 106 = .ok (.iload 5, 2) := by decide +kernel
theorem dX2_filterLine_108 : decode cX2_filterLine 108 = .ok (.ifCond .eq 27, 3) := by decide +kernel
theorem dX2_filterLine_111 : decode cX2_filterLine 111 = .ok (.aload_n 1, 1) := by decide +kernel
theorem dX2_filterLine_112 : decode cX2_filterLine 112 = .ok (.iload_n 2, 1) := by decide +kernel
theorem dX2_filterLine_113 : decode cX2_filterLine 113 = .ok (.iconst 2, 1) := by decide +kernel
theorem dX2_filterLine_114 : decode cX2_filterLine 114 = .ok (.iload_n 3, 1) := by decide +kernel
theorem dX2_filterLine_115 : decode cX2_filterLine 115 = .ok (.imul, 1) := by decide +kernel
theorem dX2_filterLine_116 : decode cX2_filterLine 116 = .ok (.iadd, 1) := by decide +kernel
theorem dX2_filterLine_117 : decode cX2_filterLine 117 = .ok (.iaload, 1) := by decide +kernel
theorem dX2_filterLine_118 : decode cX2_filterLine 118 = .ok (.iload 8, 2) := by decide +kernel
theorem dX2_filterLine_120 : decode cX2_filterLine 120 = .ok (.isub, 1) := by decide +kernel
theorem dX2_filterLine_121 : decode cX2_filterLine 121 = .ok (.invokestatic 131, 3) := by decide +kernel
theorem dX2_filterLine_124 : decode cX2_filterLine 124 = .ok (.aload_n 0, 1) := by decide +kernel
theorem dX2_filterLine_125 : decode cX2_filterLine 125 = .ok (.getfield 128, 3) := by decide +kernel
theorem dX2_filterLine_128 : decode cX2_filterLine 128 = .ok (.if_icmp .ge 7, 3) := by decide +kernel
theorem dX2_filterLine_131 : decode cX2_filterLine 131 = .ok (.iconst 1, 1) := by decide +kernel
theorem dX2_filterLine_132 : decode cX2_filterLine 132 = .ok (.goto 4, 3) := by decide +kernel
theorem dX2_filterLine_135 : decode cX2_filterLine 135 = .ok (.iconst 0, 1) := by decide +kernel
theorem dX2_filterLine_136 : decode cX2_filterLine 136 = .ok (.istore 11, 2) := by decide +kernel
theorem dX2_filterLine_138 : decode cX2_filterLine 138 = .ok (.iload 4, 2) := by decide +kernel
theorem dX2_filterLine_140 : decode cX2_filterLine 140 = .ok (.iconst 4, 1) := by decide +kernel
theorem dX2_filterLine_141 : decode cX2_filterLine 141 = .ok (.if_icmp .ne 83, 3) := by decide +kernel
theorem dX2_filterLine_144 : decode cX2_filterLine 144 = .ok (.iload 6, 2) := by decide +kernel
theorem dX2_filterLine_146 : decode cX2_filterLine 146 = .ok (.iload 8, 2) := by decide +kernel
theorem dX2_filterLine_148 : decode cX2_filterLine 148 = .ok (.isub, 1) := by decide +kernel
theorem dX2_filterLine_149 : decode cX2_filterLine 149 = .ok (.invokestatic 131, 3) := by decide +kernel
theorem dX2_filterLine_152 : decode cX2_filterLine 152 = .ok (.aload_n 0, 1) := by decide +kernel
theorem dX2_filterLine_153 : decode cX2_filterLine 153 = .ok (.getfield 122, 3) := by decide +kernel
theorem dX2_filterLine_156 : decode cX2_filterLine 156 = .ok (.iconst 2, 1) := by decide +kernel
theorem dX2_filterLine_157 : decode cX2_filterLine 157 = .ok (.ishr, 1) := by decide +kernel
theorem dX2_filterLine_158 : decode cX2_filterLine 158 = .ok (.iconst 2, 1) := by decide +kernel
theorem dX2_filterLine_159 : decode cX2_filterLine 159 = .ok (.iadd, 1) := by decide +kernel
theorem dX2_filterLine_160 : decode cX2_filterLine 160 = .ok (.if_icmp .ge 7, 3) := by decide +kernel
theorem dX2_filterLine_163 : decode cX2_filterLine 163 = .ok (.iconst 1, 1) := by decide +kernel
theorem dX2_filterLine_164 : decode cX2_filterLine 164 = .ok (.goto 4, 3) := by decide +kernel
theorem dX2_filterLine_167 : decode cX2_filterLine 167 = .ok (.iconst 0, 1) := by decide +kernel
theorem dX2_filterLine_168 : decode cX2_filterLine 168 = .ok (.istore 12, 2) := by decide +kernel
theorem dX2_filterLine_170 : decode cX2_filterLine 170 = .ok (.aload_n 1, 1) := by decide +kernel
theorem dX2_filterLine_171 : decode cX2_filterLine 171 = .ok (.iload_n 2, 1) := by decide +kernel
theorem dX2_filterLine_172 : decode cX2_filterLine 172 = .ok (.iload_n 3, 1) := by decide +kernel
theorem dX2_filterLine_173 : decode cX2_filterLine 173 = .ok (.isub, 1) := by decide +kernel
theorem dX2_filterLine_174 : decode cX2_filterLine 174 = .ok (.iload_n 3, 1) := by decide +kernel
theorem dX2_filterLine_175 : decode cX2_filterLine 175 = .ok (.ineg, 1) := by decide +kernel
theorem dX2_filterLine_176 : decode cX2_filterLine 176 = .ok (.iload 10, 2) := by decide +kernel
theorem dX2_filterLine_178 : decode cX2_filterLine 178 = .ok (.ifCond .eq 12, 3) := by decide +kernel
theorem dX2_filterLine_181 : decode cX2_filterLine 181 = .ok (.iload 12, 2) := by decide +kernel
theorem dX2_filterLine_183 : decode cX2_filterLine 183 = .ok (.ifCond .eq 7, 3) := by decide +kernel
theorem dX2_filterLine_186 : decode cX2_filterLine 186 = .ok (.iconst 1, 1) := by decide +kernel
theorem dX2_filterLine_187 : decode cX2_filterLine 187 = .ok (.goto 4, 3) := by decide +kernel
theorem dX2_filterLine_190 : decode cX2_filterLine 190 = .ok (.iconst 0, 1) := by decide +kernel
theorem dX2_filterLine_191 : decode cX2_filterLine 191 = .ok (.iload 8, 2) := by decide +kernel
theorem dX2_filterLine_193 : decode cX2_filterLine 193 = .ok (.iload 9, 2) := by decide +kernel
theorem dX2_filterLine_195 : decode cX2_filterLine 195 = .ok (.invokestatic 136, 3) := by decide +kernel
theorem dX2_filterLine_198 : decode cX2_filterLine 198 = .ok (.aload_n 1, 1) := by decide +kernel
theorem dX2_filterLine_199 : decode cX2_filterLine 199 = .ok (.iload_n 2, 1) := by decide +kernel
theorem dX2_filterLine_200 : decode cX2_filterLine 200 = .ok (.iload_n 3, 1) := by decide +kernel
theorem dX2_filterLine_201 : decode cX2_filterLine 201 = .ok (.iload 11, 2) := by decide +kernel
theorem dX2_filterLine_203 : decode cX2_filterLine 203 = .ok (.ifCond .eq 12, 3) := by decide +kernel
theorem dX2_filterLine_206 : decode cX2_filterLine 206 = .ok (.iload 12, 2) := by decide +kernel
theorem dX2_filterLine_208 : decode cX2_filterLine 208 = .ok (.ifCond .eq 7, 3) := by decide +kernel
theorem dX2_filterLine_211 : decode cX2_filterLine 211 = .ok (.iconst 1, 1) := by decide +kernel
theorem dX2_filterLine_212 : decode cX2_filterLine 212 = .ok (.goto 4, 3) := by decide +kernel
theorem dX2_filterLine_215 : decode cX2_filterLine 215 = .ok (.iconst 0, 1) := by decide +kernel
theorem dX2_filterLine_216 : decode cX2_filterLine 216 = .ok (.iload 6, 2) := by decide +kernel
theorem dX2_filterLine_218 : decode cX2_filterLine 218 = .ok (.iload 7, 2) := by decide +kernel
theorem dX2_filterLine_220 : decode cX2_filterLine 220 = .ok (.invokestatic 136, 3) := by decide +kernel
theorem dX2_filterLine_223 : decode cX2_filterLine 223 = .ok (.return_, 1) := by decide +kernel
theorem dX2_filterLine_224 : decode cX2_filterLine 224 = .ok (.aload_n 0, 1) := by decide +kernel
theorem dX2_filterLine_225 : decode cX2_filterLine 225 = .ok (.getfield 116, 3) := by decide +kernel
theorem dX2_filterLine_228 : decode cX2_filterLine 228 = .ok (.bipush 17, 2) := by decide +kernel
theorem dX2_filterLine_230 : decode cX2_filterLine 230 = .ok (.if_icmp .ge 7, 3) := by decide +kernel
theorem dX2_filterLine_233 : decode cX2_filterLine 233 = .ok (.iconst 0, 1) := by decide +kernel
theorem dX2_filterLine_234 : decode cX2_filterLine 234 = .ok (.goto 21, 3) := by decide +kernel
theorem dX2_filterLine_237 : decode cX2_filterLine 237 = .ok (.getstatic 140, 3) := by decide +kernel
theorem dX2_filterLine_240 : decode cX2_filterLine 240 = .ok (.iconst 3, 1) := by decide +kernel
theorem dX2_filterLine_241 : decode cX2_filterLine 241 = .ok (.aload_n 0, 1) := by decide +kernel
theorem dX2_filterLine_242 : decode cX2_filterLine 242 = .ok (.getfield 116, 3) := by decide +kernel
theorem dX2_filterLine_245 : decode cX2_filterLine 245 = .ok (.bipush 17, 2) := by decide +kernel
theorem dX2_filterLine_247 : decode cX2_filterLine 247 = .ok (.isub, 1) := by decide +kernel
theorem dX2_filterLine_248 : decode cX2_filterLine 248 = .ok (.imul, 1) := by decide +kernel
theorem dX2_filterLine_249 : decode cX2_filterLine 249 = .ok (.iload 4, 2) := by decide +kernel
theorem dX2_filterLine_251 : decode cX2_filterLine 251 = .ok (.iadd, 1) := by decide +kernel
theorem dX2_filterLine_252 : decode cX2_filterLine 252 = .ok (.iconst 1, 1) := by decide +kernel
theorem dX2_filterLine_253 : decode cX2_filterLine 253 = .ok (.isub, 1) := by decide +kernel
theorem dX2_filterLine_254 : decode cX2_filterLine 254 = .ok (.iaload, 1) := by decide +kernel
theorem dX2_filterLine_255 : decode cX2_filterLine 255 = .ok (.istore 12, 2) := by decide +kernel
theorem dX2_filterLine_257 : decode cX2_filterLine 257 = .ok (.iload 5, 2) := by decide +kernel
theorem dX2_filterLine_259 : decode cX2_filterLine 259 = .ok (.ifCond .eq 30, 3) := by decide +kernel
theorem dX2_filterLine_262 : decode cX2_filterLine 262 = .ok (.iload 12, 2) := by decide +kernel
theorem dX2_filterLine_264 : decode cX2_filterLine 264 = .ok (.iload 10, 2) := by decide +kernel
theorem dX2_filterLine_266 : decode cX2_filterLine 266 = .ok (.ifCond .eq 7, 3) := by decide +kernel
theorem dX2_filterLine_269 : decode cX2_filterLine 269 = .ok (.iconst 1, 1) := by decide +kernel
theorem dX2_filterLine_270 : decode cX2_filterLine 270 = .ok (.goto 4, 3) := by decide +kernel
theorem dX2_filterLine_273 : decode cX2_filterLine 273 = .ok (.iconst 0, 1) := by decide +kernel
theorem dX2_filterLine_274 : decode cX2_filterLine 274 = .ok (.iadd, 1) := by decide +kernel
theorem dX2_filterLine_275 : decode cX2_filterLine 275 = .ok (.iload 11, 2) := by decide +kernel
theorem dX2_filterLine_277 : decode cX2_filterLine 277 = .ok (.ifCond .eq 7, 3) := by decide +kernel
theorem dX2_filterLine_280 : decode cX2_filterLine 280 = .ok (.iconst 1, 1) := by decide +kernel
theorem dX2_filterLine_281 : decode cX2_filterLine 281 = .ok (.goto 4, 3) := by decide +kernel
theorem dX2_filterLine_284 : decode cX2_filterLine 284 = .ok (.iconst 0, 1) := by decide +kernel
theorem dX2_filterLine_285 : decode cX2_filterLine 285 = .ok (.iadd, 1) := by decide +kernel
theorem dX2_filterLine_286 : decode cX2_filterLine 286 = .ok (.goto 7, 3) := by decide +kernel
theorem dX2_filterLine_289 : decode cX2_filterLine 289 = .ok (.iload 12, 2) := by decide +kernel
theorem dX2_filterLine_291 : decode cX2_filterLine 291 = .ok (.iconst 1, 1) := by decide +kernel
theorem dX2_filterLine_292 : decode cX2_filterLine 292 = .ok (.iadd, 1) := by decide +kernel
theorem dX2_filterLine_293 : decode cX2_filterLine 293 = .ok (.istore 13, 2) := by decide +kernel
theorem dX2_filterLine_295 : decode cX2_filterLine 295 = .ok (.iload 8, 2) := by decide +kernel
theorem dX2_filterLine_297 : decode cX2_filterLine 297 = .ok (.iload 6, 2) := by decide +kernel
theorem dX2_filterLine_299 : decode cX2_filterLine 299 = .ok (.isub, 1) := by decide +kernel
theorem dX2_filterLine_300 : decode cX2_filterLine 300 = .ok (.iconst 4, 1) := by decide +kernel
theorem dX2_filterLine_301 : decode cX2_filterLine 301 = .ok (.imul, 1) := by decide +kernel
theorem dX2_filterLine_302 : decode cX2_filterLine 302 = .ok (.iload 7, 2) := by decide +kernel
theorem dX2_filterLine_304 : decode cX2_filterLine 304 = .ok (.iload 9, 2) := by decide +kernel
theorem dX2_filterLine_306 : decode cX2_filterLine 306 = .ok (.isub, 1) := by decide +kernel
theorem dX2_filterLine_307 : decode cX2_filterLine 307 = .ok (.iadd, 1) := by decide +kernel
theorem dX2_filterLine_308 : decode cX2_filterLine 308 = .ok (.iconst 4, 1) := by decide +kernel
theorem dX2_filterLine_309 : decode cX2_filterLine 309 = .ok (.iadd, 1) := by decide +kernel
theorem dX2_filterLine_310 : decode cX2_filterLine 310 = .ok (.iconst 3, 1) := by decide +kernel
theorem dX2_filterLine_311 : decode cX2_filterLine 311 = .ok (.ishr, 1) := by decide +kernel
theorem dX2_filterLine_312 : decode cX2_filterLine 312 = .ok (.istore 14, 2) := by decide +kernel
theorem dX2_filterLine_314 : decode cX2_filterLine 314 = .ok (.iload 14, 2) := by decide +kernel
theorem dX2_filterLine_316 : decode cX2_filterLine 316 = .ok (.iload 13, 2) := by decide +kernel
theorem dX2_filterLine_318 : decode cX2_filterLine 318 = .ok (.ineg, 1) := by decide +kernel
theorem dX2_filterLine_319 : decode cX2_filterLine 319 = .ok (.if_icmp .ge 9, 3) := by decide +kernel
theorem dX2_filterLine_322 : decode cX2_filterLine 322 = .ok (.iload 13, 2) := by decide +kernel
theorem dX2_filterLine_324 : decode cX2_filterLine 324 = .ok (.ineg, 1) := by decide +kernel
theorem dX2_filterLine_325 : decode cX2_filterLine 325 = .ok (.goto 17, 3) := by decide +kernel
theorem dX2_filterLine_328 : decode cX2_filterLine 328 = .ok (.iload 14, 2) := by decide +kernel
theorem dX2_filterLine_330 : decode cX2_filterLine 330 = .ok (.iload 13, 2) := by decide +kernel
theorem dX2_filterLine_332 : decode cX2_filterLine 332 = .ok (.if_icmp .le 8, 3) := by decide +kernel
theorem dX2_filterLine_335 : decode cX2_filterLine 335 = .ok (.iload 13, 2) := by decide +kernel
theorem dX2_filterLine_337 : decode cX2_filterLine 337 = .ok (.goto 5, 3) := by decide +kernel
theorem dX2_filterLine_340 : decode cX2_filterLine 340 = .ok (.iload 14, 2) := by decide +kernel
theorem dX2_filterLine_342 : decode cX2_filterLine 342 = .ok (.istore 14, 2) := by decide +kernel
theorem dX2_filterLine_344 : decode cX2_filterLine 344 = .ok (.iload 6, 2) := by decide +kernel
theorem dX2_filterLine_346 : decode cX2_filterLine 346 = .ok (.iload 8, 2) := by decide +kernel
theorem dX2_filterLine_348 : decode cX2_filterLine 348 = .ok (.iadd, 1) := by decide +kernel
theorem dX2_filterLine_349 : decode cX2_filterLine 349 = .ok (.iconst 1, 1) := by decide +kernel
theorem dX2_filterLine_350 : decode cX2_filterLine 350 = .ok (.iadd, 1) := by decide +kernel
theorem dX2_filterLine_351 : decode cX2_filterLine 351 = .ok (.iconst 1, 1) := by decide +kernel
theorem dX2_filterLine_352 : decode cX2_filterLine 352 = .ok (.ishr, 1) := by decide +kernel
theorem dX2_filterLine_353 : decode cX2_filterLine 353 = .ok (.istore 15, 2) := by decide +kernel
theorem dX2_filterLine_355 : decode cX2_filterLine 355 = .ok (.iload 10, 2) := by decide +kernel
theorem dX2_filterLine_357 : decode cX2_filterLine 357 = .ok (.ifCond .eq 60, 3) := by decide +kernel
theorem dX2_filterLine_360 : decode cX2_filterLine 360 = .ok (.aload_n 1, 1) := by decide +kernel
theorem dX2_filterLine_361 : decode cX2_filterLine 361 = .ok (.iload_n 2, 1) := by decide +kernel
theorem dX2_filterLine_362 : decode cX2_filterLine 362 = .ok (.iconst 3, 1) := by decide +kernel
theorem dX2_filterLine_363 : decode cX2_filterLine 363 = .ok (.iload_n 3, 1) := by decide +kernel
theorem dX2_filterLine_364 : decode cX2_filterLine 364 = .ok (.imul, 1) := by decide +kernel
theorem dX2_filterLine_365 : decode cX2_filterLine 365 = .ok (.isub, 1) := by decide +kernel
theorem dX2_filterLine_366 : decode cX2_filterLine 366 = .ok (.iaload, 1) := by decide +kernel
theorem dX2_filterLine_367 : decode cX2_filterLine 367 = .ok (.iload 15, 2) := by decide +kernel
theorem dX2_filterLine_369 : decode cX2_filterLine 369 = .ok (.iadd, 1) := by decide +kernel
theorem dX2_filterLine_370 : decode cX2_filterLine 370 = .ok (.iconst 2, 1) := by decide +kernel
theorem dX2_filterLine_371 : decode cX2_filterLine 371 = .ok (.iload 7, 2) := by decide +kernel
theorem dX2_filterLine_373 : decode cX2_filterLine 373 = .ok (.imul, 1) := by decide +kernel
theorem dX2_filterLine_374 : decode cX2_filterLine 374 = .ok (.isub, 1) := by decide +kernel
theorem dX2_filterLine_375 : decode cX2_filterLine 375 = .ok (.iconst 1, 1) := by decide +kernel
theorem dX2_filterLine_376 : decode cX2_filterLine 376 = .ok (.ishr, 1) := by decide +kernel
theorem dX2_filterLine_377 : decode cX2_filterLine 377 = .ok (.istore 16, 2) := by decide +kernel
theorem dX2_filterLine_379 : decode cX2_filterLine 379 = .ok (.aload_n 1, 1) := by decide +kernel
theorem dX2_filterLine_380 : decode cX2_filterLine 380 = .ok (.iload_n 2, 1) := by decide +kernel
theorem dX2_filterLine_381 : decode cX2_filterLine 381 = .ok (.iconst 2, 1) := by decide +kernel
theorem dX2_filterLine_382 : decode cX2_filterLine 382 = .ok (.iload_n 3, 1) := by decide +kernel
theorem dX2_filterLine_383 : decode cX2_filterLine 383 = .ok (.imul, 1) := by decide +kernel
theorem dX2_filterLine_384 : decode cX2_filterLine 384 = .ok (.isub, 1) := by decide +kernel
theorem dX2_filterLine_385 : decode cX2_filterLine 385 = .ok (.iload 7, 2) := by decide +kernel
theorem dX2_filterLine_387 : decode cX2_filterLine 387 = .ok (.iload 16, 2) := by decide +kernel
theorem dX2_filterLine_389 : decode cX2_filterLine 389 = .ok (.iload 12, 2) := by decide +kernel
theorem dX2_filterLine_391 : decode cX2_filterLine 391 = .ok (.ineg, 1) := by decide +kernel
theorem dX2_filterLine_392 : decode cX2_filterLine 392 = .ok (.if_icmp .ge 9, 3) := by decide +kernel
theorem dX2_filterLine_395 : decode cX2_filterLine 395 = .ok (.iload 12, 2) := by decide +kernel
theorem dX2_filterLine_397 : decode cX2_filterLine 397 = .ok (.ineg, 1) := by decide +kernel
theorem dX2_filterLine_398 : decode cX2_filterLine 398 = .ok (.goto 17, 3) := by decide +kernel
theorem dX2_filterLine_401 : decode cX2_filterLine 401 = .ok (.iload 16, 2) := by decide +kernel
theorem dX2_filterLine_403 : decode cX2_filterLine 403 = .ok (.iload 12, 2) := by decide +kernel
theorem dX2_filterLine_405 : decode cX2_filterLine 405 = .ok (.if_icmp .le 8, 3) := by decide +kernel
theorem dX2_filterLine_408 : decode cX2_filterLine 408 = .ok (.iload 12, 2) := by decide +kernel
theorem dX2_filterLine_410 : decode cX2_filterLine 410 = .ok (.goto 5, 3) := by decide +kernel
theorem dX2_filterLine_413 : decode cX2_filterLine 413 = .ok (.iload 16, 2) := by decide +kernel
theorem dX2_filterLine_415 : decode cX2_filterLine 415 = .ok (.iadd, 1) := by decide +kernel
theorem dX2_filterLine_416 : decode cX2_filterLine 416 = .ok (.iastore, 1) := by decide +kernel
theorem dX2_filterLine_417 : decode cX2_filterLine 417 = .ok (.iload 11, 2) := by decide +kernel
theorem dX2_filterLine_419 : decode cX2_filterLine 419 = .ok (.ifCond .eq 58, 3) := by decide +kernel
theorem dX2_filterLine_422 : decode cX2_filterLine 422 = .ok (.aload_n 1, 1) := by decide +kernel
theorem dX2_filterLine_423 : decode cX2_filterLine 423 = .ok (.iload_n 2, 1) := by decide +kernel
theorem dX2_filterLine_424 : decode cX2_filterLine 424 = .ok (.iconst 2, 1) := by decide +kernel
theorem dX2_filterLine_425 : decode cX2_filterLine 425 = .ok (.iload_n 3, 1) := by decide +kernel
theorem dX2_filterLine_426 : decode cX2_filterLine 426 = .ok (.imul, 1) := by decide +kernel
theorem dX2_filterLine_427 : decode cX2_filterLine 427 = .ok (.iadd, 1) := by decide +kernel
theorem dX2_filterLine_428 : decode cX2_filterLine 428 = .ok (.iaload, 1) := by decide +kernel
theorem dX2_filterLine_429 : decode cX2_filterLine 429 = .ok (.iload 15, 2) := by decide +kernel
theorem dX2_filterLine_431 : decode cX2_filterLine 431 = .ok (.iadd, 1) := by decide +kernel
theorem dX2_filterLine_432 : decode cX2_filterLine 432 = .ok (.iconst 2, 1) := by decide +kernel
theorem dX2_filterLine_433 : decode cX2_filterLine 433 = .ok (.iload 9, 2) := by decide +kernel
theorem dX2_filterLine_435 : decode cX2_filterLine 435 = .ok (.imul, 1) := by decide +kernel
theorem dX2_filterLine_436 : decode cX2_filterLine 436 = .ok (.isub, 1) := by decide +kernel
theorem dX2_filterLine_437 : decode cX2_filterLine 437 = .ok (.iconst 1, 1) := by decide +kernel
theorem dX2_filterLine_438 : decode cX2_filterLine 438 = .ok (.ishr, 1) := by decide +kernel
theorem dX2_filterLine_439 : decode cX2_filterLine 439 = .ok (.istore 16, 2) := by decide +kernel
theorem dX2_filterLine_441 : decode cX2_filterLine 441 = .ok (.aload_n 1, 1) := by decide +kernel
theorem dX2_filterLine_442 : decode cX2_filterLine 442 = .ok (.iload_n 2, 1) := by decide +kernel
theorem dX2_filterLine_443 : decode cX2_filterLine 443 = .ok (.iload_n 3, 1) := by decide +kernel
theorem dX2_filterLine_444 : decode cX2_filterLine 444 = .ok (.iadd, 1) := by decide +kernel
theorem dX2_filterLine_445 : decode cX2_filterLine 445 = .ok (.iload 9, 2) := by decide +kernel
theorem dX2_filterLine_447 : decode cX2_filterLine 447 = .ok (.iload 16, 2) := by decide +kernel
theorem dX2_filterLine_449 : decode cX2_filterLine 449 = .ok (.iload 12, 2) := by decide +kernel
theorem dX2_filterLine_451 : decode cX2_filterLine 451 = .ok (.ineg, 1) := by decide +kernel
theorem dX2_filterLine_452 : decode cX2_filterLine 452 = .ok (.if_icmp .ge 9, 3) := by decide +kernel
theorem dX2_filterLine_455 : decode cX2_filterLine 455 = .ok (.iload 12, 2) := by decide +kernel
theorem dX2_filterLine_457 : decode cX2_filterLine 457 = .ok (.ineg, 1) := by decide +kernel
theorem dX2_filterLine_458 : decode cX2_filterLine 458 = .ok (.goto 17, 3) := by decide +kernel
theorem dX2_filterLine_461 : decode cX2_filterLine 461 = .ok (.iload 16, 2) := by decide +kernel
theorem dX2_filterLine_463 : decode cX2_filterLine 463 = .ok (.iload 12, 2) := by decide +kernel
theorem dX2_filterLine_465 : decode cX2_filterLine 465 = .ok (.if_icmp .le 8, 3) := by decide +kernel
theorem dX2_filterLine_468 : decode cX2_filterLine 468 = .ok (.iload 12, 2) := by decide +kernel
theorem dX2_filterLine_470 : decode cX2_filterLine 470 = .ok (.goto 5, 3) := by decide +kernel
theorem dX2_filterLine_473 : decode cX2_filterLine 473 = .ok (.iload 16, 2) := by decide +kernel
theorem dX2_filterLine_475 : decode cX2_filterLine 475 = .ok (.iadd, 1) := by decide +kernel
theorem dX2_filterLine_476 : decode cX2_filterLine 476 = .ok (.iastore, 1) := by decide +kernel
theorem dX2_filterLine_477 : decode cX2_filterLine 477 = .ok (.aload_n 1, 1) := by decide +kernel
theorem dX2_filterLine_478 : decode cX2_filterLine 478 = .ok (.iload_n 2, 1) := by decide +kernel
theorem dX2_filterLine_479 : decode cX2_filterLine 479 = .ok (.iload_n 3, 1) := by decide +kernel
theorem dX2_filterLine_480 : decode cX2_filterLine 480 = .ok (.isub, 1) := by decide +kernel
theorem dX2_filterLine_481 : decode cX2_filterLine 481 = .ok (.iload 6, 2) := by decide +kernel
theorem dX2_filterLine_483 : decode cX2_filterLine 483 = .ok (.iload 14, 2) := by decide +kernel
theorem dX2_filterLine_485 : decode cX2_filterLine 485 = .ok (.iadd, 1) := by decide +kernel
theorem dX2_filterLine_486 : decode cX2_filterLine 486 = .ok (.invokestatic 143, 3) := by decide +kernel
theorem dX2_filterLine_489 : decode cX2_filterLine 489 = .ok (.iastore, 1) := by decide +kernel
theorem dX2_filterLine_490 : decode cX2_filterLine 490 = .ok (.aload_n 1, 1) := by decide +kernel
theorem dX2_filterLine_491 : decode cX2_filterLine 491 = .ok (.iload_n 2, 1) := by decide +kernel
theorem dX2_filterLine_492 : decode cX2_filterLine 492 = .ok (.iload 8, 2) := by decide +kernel
theorem dX2_filterLine_494 : decode cX2_filterLine 494 = .ok (.iload 14, 2) := by decide +kernel
theorem dX2_filterLine_496 : decode cX2_filterLine 496 = .ok (.isub, 1) := by decide +kernel
theorem dX2_filterLine_497 : decode cX2_filterLine 497 = .ok (.invokestatic 143, 3) := by decide +kernel
theorem dX2_filterLine_500 : decode cX2_filterLine 500 = .ok (.iastore, 1) := by decide +kernel
theorem dX2_filterLine_501 : decode cX2_filterLine 501 = .ok (.return_, 1) := by decide +kernel
def FX2_filterLine (G : GG) (M : DD) (a : Nat) (p0 : Option Nat) (p1 : Int32) (p2 : Int32) (p3 : Int32) (p4 : Int32) : Option (DD) :=
  ltt ((p1 - p2)) fun x1 =>
  dr G 13 p0 fun b2 =>
  chk (¬ (x1 < 0 ∨ G.2.2 b2 ≤ x1.toNatClampNeg)) <|
  ltt (M.1 b2 x1.toNatClampNeg) fun x3 =>
  ltt ((((2 : Int32)) * p2)) fun x4 =>
  ltt ((p1 - x4)) fun x5 =>
  chk (¬ (x5 < 0 ∨ G.2.2 b2 ≤ x5.toNatClampNeg)) <|
  ltt (M.1 b2 x5.toNatClampNeg) fun x6 =>
  chk (¬ (p1 < 0 ∨ G.2.2 b2 ≤ p1.toNatClampNeg)) <|
  ltt (M.1 b2 p1.toNatClampNeg) fun x7 =>
  ltt ((p1 + p2)) fun x8 =>
  chk (¬ (x8 < 0 ∨ G.2.2 b2 ≤ x8.toNatClampNeg)) <|
  ltt (M.1 b2 x8.toNatClampNeg) fun x9 =>
  ltt ((x3 - x7)) fun x10 =>
  ltt (if (0 : Int32) ≤ x10 then x10 else 0 - x10) fun x11 =>
  ltt (M.1 a 2) fun x12 =>
  if x12 ≤ x11 then (some M) else
  (ltt ((x6 - x3)) fun x14 =>
  ltt (if (0 : Int32) ≤ x14 then x14 else 0 - x14) fun x15 =>
  ltt (M.1 a 3) fun x16 =>
  if x16 ≤ x15 then (some M) else
  (ltt ((x9 - x7)) fun x18 =>
  ltt (if (0 : Int32) ≤ x18 then x18 else 0 - x18) fun x19 =>
  ltt (M.1 a 3) fun x20 =>
  if x19 < x20 then (bnd (if p4 = ((0 : Int32)) then (some ((0 : Int32), M)) else
  (ltt ((((3 : Int32)) * p2)) fun x131 =>
  ltt ((p1 - x131)) fun x132 =>
  chk (¬ (x132 < 0 ∨ G.2.2 b2 ≤ x132.toNatClampNeg)) <|
  ltt (M.1 b2 x132.toNatClampNeg) fun x133 =>
  ltt ((x133 - x3)) fun x134 =>
  ltt (if (0 : Int32) ≤ x134 then x134 else 0 - x134) fun x135 =>
  ltt (M.1 a 3) fun x136 =>
  bnd (if x136 ≤ x135 then (some ((0 : Int32))) else
  (some ((1 : Int32)))) fun (y137 : Int32) =>
  some (y137, M))) fun (y22 : Int32 × DD) =>
  bnd (if p4 = ((0 : Int32)) then (some ((0 : Int32), y22.2)) else
  (ltt ((((2 : Int32)) * p2)) fun x122 =>
  ltt ((p1 + x122)) fun x123 =>
  chk (¬ (x123 < 0 ∨ G.2.2 b2 ≤ x123.toNatClampNeg)) <|
  ltt (y22.2.1 b2 x123.toNatClampNeg) fun x124 =>
  ltt ((x124 - x7)) fun x125 =>
  ltt (if (0 : Int32) ≤ x125 then x125 else 0 - x125) fun x126 =>
  ltt (y22.2.1 a 3) fun x127 =>
  bnd (if x127 ≤ x126 then (some ((0 : Int32))) else
  (some ((1 : Int32)))) fun (y128 : Int32) =>
  some (y128, y22.2))) fun (y23 : Int32 × DD) =>
  if p3 = ((4 : Int32)) then (ltt ((x3 - x7)) fun x102 =>
  ltt (if (0 : Int32) ≤ x102 then x102 else 0 - x102) fun x103 =>
  ltt (y23.2.1 a 2) fun x104 =>
  ltt ((x104 >>> (((2 : Int32)) &&& 31))) fun x105 =>
  ltt ((x105 + ((2 : Int32)))) fun x106 =>
  bnd (if x106 ≤ x103 then (some ((0 : Int32))) else
  (some ((1 : Int32)))) fun (y107 : Int32) =>
  ltt ((p1 - p2)) fun x108 =>
  ltt (-p2) fun x109 =>
  bnd (if y22.1 = ((0 : Int32)) then (some ((0 : Int32))) else
  (bnd (if y107 = ((0 : Int32)) then (some ((0 : Int32))) else
  (some ((1 : Int32)))) fun (y118 : Int32) =>
  some (y118))) fun (y110 : Int32) =>
  bnd (FX2_smooth G y23.2 p0 x108 x109 y110 x7 x9) fun y111 =>
  bnd (if y23.1 = ((0 : Int32)) then (some ((0 : Int32))) else
  (bnd (if y107 = ((0 : Int32)) then (some ((0 : Int32))) else
  (some ((1 : Int32)))) fun (y115 : Int32) =>
  some (y115))) fun (y112 : Int32) =>
  bnd (FX2_smooth G y111 p0 p1 p2 y112 x3 x6) fun y113 =>
  some y113) else
  (ltt (y23.2.1 a 4) fun x25 =>
  bnd (if ((17 : Int32)) ≤ x25 then (ltt (y23.2.1 a 4) fun x96 =>
  ltt ((x96 - ((17 : Int32)))) fun x97 =>
  ltt ((((3 : Int32)) * x97)) fun x98 =>
  ltt ((x98 + p3)) fun x99 =>
  ltt ((x99 - ((1 : Int32)))) fun x100 =>
  chk (¬ (x100 < 0 ∨ 105 ≤ x100.toNatClampNeg)) <|
  ltt ((sT 5).getD x100.toNatClampNeg 0) fun x101 =>
  some (x101)) else
  (some ((0 : Int32)))) fun (y26 : Int32) =>
  bnd (if p4 = ((0 : Int32)) then (ltt ((y26 + ((1 : Int32)))) fun x88 =>
  some (x88)) else
  (bnd (if y22.1 = ((0 : Int32)) then (some ((0 : Int32))) else
  (some ((1 : Int32)))) fun (y89 : Int32) =>
  ltt ((y26 + y89)) fun x90 =>
  bnd (if y23.1 = ((0 : Int32)) then (some ((0 : Int32))) else
  (some ((1 : Int32)))) fun (y91 : Int32) =>
  ltt ((x90 + y91)) fun x92 =>
  some (x92))) fun (y27 : Int32) =>
  ltt ((x7 - x3)) fun x28 =>
  ltt ((x28 * ((4 : Int32)))) fun x29 =>
  ltt ((x6 - x9)) fun x30 =>
  ltt ((x29 + x30)) fun x31 =>
  ltt ((x31 + ((4 : Int32)))) fun x32 =>
  ltt ((x32 >>> (((3 : Int32)) &&& 31))) fun x33 =>
  ltt (-y27) fun x34 =>
  bnd (if x34 ≤ x33 then (bnd (if x33 ≤ y27 then (some (x33)) else
  (some (y27))) fun (y84 : Int32) =>
  some (y84)) else
  (ltt (-y27) fun x86 =>
  some (x86))) fun (y35 : Int32) =>
  ltt ((x3 + x7)) fun x36 =>
  ltt ((x36 + ((1 : Int32)))) fun x37 =>
  ltt ((x37 >>> (((1 : Int32)) &&& 31))) fun x38 =>
  bnd (if y22.1 = ((0 : Int32)) then (some (y23.2)) else
  (ltt ((((3 : Int32)) * p2)) fun x66 =>
  ltt ((p1 - x66)) fun x67 =>
  chk (¬ (x67 < 0 ∨ G.2.2 b2 ≤ x67.toNatClampNeg)) <|
  ltt (y23.2.1 b2 x67.toNatClampNeg) fun x68 =>
  ltt ((x68 + x38)) fun x69 =>
  ltt ((((2 : Int32)) * x6)) fun x70 =>
  ltt ((x69 - x70)) fun x71 =>
  ltt ((x71 >>> (((1 : Int32)) &&& 31))) fun x72 =>
  ltt ((((2 : Int32)) * p2)) fun x73 =>
  ltt ((p1 - x73)) fun x74 =>
  ltt (-y26) fun x75 =>
  bnd (if x75 ≤ x72 then (bnd (if x72 ≤ y26 then (some (x72)) else
  (some (y26))) fun (y80 : Int32) =>
  some (y80)) else
  (ltt (-y26) fun x82 =>
  some (x82))) fun (y76 : Int32) =>
  ltt ((x6 + y76)) fun x77 =>
  chk (¬ (x74 < 0 ∨ G.2.2 b2 ≤ x74.toNatClampNeg)) <|
  ltt (uI y23.2 b2 x74.toNatClampNeg x77) fun M78 =>
  some (M78))) fun (y39 : DD) =>
  bnd (if y23.1 = ((0 : Int32)) then (some (y39)) else
  (ltt ((((2 : Int32)) * p2)) fun x49 =>
  ltt ((p1 + x49)) fun x50 =>
  chk (¬ (x50 < 0 ∨ G.2.2 b2 ≤ x50.toNatClampNeg)) <|
  ltt (y39.1 b2 x50.toNatClampNeg) fun x51 =>
  ltt ((x51 + x38)) fun x52 =>
  ltt ((((2 : Int32)) * x9)) fun x53 =>
  ltt ((x52 - x53)) fun x54 =>
  ltt ((x54 >>> (((1 : Int32)) &&& 31))) fun x55 =>
  ltt ((p1 + p2)) fun x56 =>
  ltt (-y26) fun x57 =>
  bnd (if x57 ≤ x55 then (bnd (if x55 ≤ y26 then (some (x55)) else
  (some (y26))) fun (y62 : Int32) =>
  some (y62)) else
  (ltt (-y26) fun x64 =>
  some (x64))) fun (y58 : Int32) =>
  ltt ((x9 + y58)) fun x59 =>
  chk (¬ (x56 < 0 ∨ G.2.2 b2 ≤ x56.toNatClampNeg)) <|
  ltt (uI y39 b2 x56.toNatClampNeg x59) fun M60 =>
  some (M60))) fun (y40 : DD) =>
  ltt ((p1 - p2)) fun x41 =>
  ltt ((x3 + y35)) fun x42 =>
  bnd (FX11_clip G y40 x42) fun y43 =>
  chk (¬ (x41 < 0 ∨ G.2.2 b2 ≤ x41.toNatClampNeg)) <|
  ltt (uI y43.1 b2 x41.toNatClampNeg y43.2) fun M44 =>
  ltt ((x7 - y35)) fun x45 =>
  bnd (FX11_clip G M44 x45) fun y46 =>
  chk (¬ (p1 < 0 ∨ G.2.2 b2 ≤ p1.toNatClampNeg)) <|
  ltt (uI y46.1 b2 p1.toNatClampNeg y46.2) fun M47 =>
  some M47)) else
  (some M)))
set_option maxHeartbeats 4000000 in
set_option maxRecDepth 100000 in
theorem kX2_filterLine (l : Launch) (D : va_G) (ct : CT) (ad : Nat → Nat) (Z : Nat → Nat) (G : GG) (M : DD) (sz : Nat) (a : Nat) (p0 : Option Nat) (p1 : Int32) (p2 : Int32) (p3 : Int32) (p4 : Int32) (y : DD) (hc : a < G.1) (hk : G.2.1 a = 2) (hF : FX2_filterLine G M a p0 p1 p2 p3 p4 = some y) : Met l yX2_filterLine wuX2_filterLine ({ frames := 1, cells := 0, slots := 0, locals := 29 }) (va_Pc [.ref (ad a), va_re ad p0, .int p1, .int p2, .int p3, .int p4] (kB D ct ad Z G M sz)) (va_Qv (fun (_ : Unit) => True) (fun _ t => kE D ct ad G (wA ad G sz) y t) (wA ad G sz)) 0 0 (wA ad G sz) := by
  refine Met.ofW (cc := cX2_filterLine) (maxL := 17) (ret := none) (by decide) rfl ?_
  intro p e s m args below meth c s₁ B hml hv
  obtain ⟨rfl, hsz, hP, hK, hD0, hZ, hN⟩ := hv
  have hx := B.exec
  have hb := B.bytes
  have hr := B.returns
  have hts := atoms_spec (ws := wuX2_filterLine) B.pre
  have hown : s.vm.findClass RX2 = some m.cls := findClass_of_methodNamed B.named
  have hlocks := B.notSynchronized
  subst hsz
  have hD := wD_self (sz := s.heap.size) hD0
  have hA9 : ∀ q, s.heap.size ≤ q → wA ad G s.heap.size q := fun q h => Or.inr h
  generalize hAe : wA ad G s.heap.size = A at hD hA9 hZ ⊢
  have hS : va_S A s.heap s.heap [] := va_S.rf
  have hl := lv_entry ([.ref (ad a), va_re ad p0, .int p1, .int p2, .int p3, .int p4]) (n := 17) (by cases p0 <;> exact Nat.le_of_ble_eq_true rfl)
  rw [lg_entry_eq]
  generalize (lg_sl ([.ref (ad a), va_re ad p0, .int p1, .int p2, .int p3, .int p4]) ++ List.replicate (17 - (lg_sl ([.ref (ad a), va_re ad p0, .int p1, .int p2, .int p3, .int p4])).length) Slot.unset).toArray = ls at hl ⊢
  have hl : lv_has ls 17 [(0, .ref (ad a)), (1, va_re ad p0), (2, .int p1), (3, .int p2), (4, .int p3), (5, .int p4)] := by have e9 : lv_args 0 [.ref (ad a), va_re ad p0, .int p1, .int p2, .int p3, .int p4] = [(0, .ref (ad a)), (1, va_re ad p0), (2, .int p1), (3, .int p2), (4, .int p3), (5, .int p4)] := (by cases p0 <;> rfl); rw [e9] at hl; exact hl
  unfold FX2_filterLine at hF
  refine lv_aloadq_n hx hb dX2_filterLine_0 rfl (lv_at hl 1 rfl) ?_
  refine lv_iload_n hx hb dX2_filterLine_1 rfl (lv_at hl 2 rfl) ?_
  refine lv_iload_n hx hb dX2_filterLine_2 rfl (lv_at hl 3 rfl) ?_
  refine lv_isub hx hb dX2_filterLine_3 ?_
  obtain ⟨x1, ex1, hF⟩ := ltt_some hF
  refine lv_topi (fun zx1 ezx1 => ?_)
  obtain rfl : x1 = zx1 := ex1.trans ezx1.symm
  obtain ⟨b2, ho2, hc2, hk2, hF⟩ := dr_some hF
  refine W_st (st' := [.int x1, .ref (ad b2)]) (by rw [va_some ho2]) ?_
  obtain ⟨hvc, hF⟩ := chk_some hF
  refine va_iald hx hb hK hP b2 1 (wld_i ct ad G M hc2 hk2) rfl hvc dX2_filterLine_4 ?_
  obtain ⟨x3, ex3, hF⟩ := ltt_some hF
  refine lv_topi (fun zx3 ezx3 => ?_)
  obtain rfl : x3 = zx3 := ex3.trans ezx3.symm
  refine lv_istore (lv' := [(6, .int x3), (0, .ref (ad a)), (1, va_re ad p0), (2, .int p1), (3, .int p2), (4, .int p3), (5, .int p4)]) hx hb dX2_filterLine_5 hl (by decide) rfl (fun ls hl => ?_)
  refine lv_aloadq_n hx hb dX2_filterLine_7 rfl (lv_at hl 2 rfl) ?_
  refine lv_iload_n hx hb dX2_filterLine_8 rfl (lv_at hl 3 rfl) ?_
  refine lv_iconst (v := (2 : Int32)) hx hb dX2_filterLine_9 (by decide) ?_
  refine lv_iload_n hx hb dX2_filterLine_10 rfl (lv_at hl 4 rfl) ?_
  refine lv_imul hx hb dX2_filterLine_11 ?_
  obtain ⟨x4, ex4, hF⟩ := ltt_some hF
  refine lv_topi (fun zx4 ezx4 => ?_)
  obtain rfl : x4 = zx4 := ex4.trans ezx4.symm
  refine lv_isub hx hb dX2_filterLine_12 ?_
  obtain ⟨x5, ex5, hF⟩ := ltt_some hF
  refine lv_topi (fun zx5 ezx5 => ?_)
  obtain rfl : x5 = zx5 := ex5.trans ezx5.symm
  refine W_st (st' := [.int x5, .ref (ad b2)]) (by rw [va_some ho2]) ?_
  obtain ⟨hvc, hF⟩ := chk_some hF
  refine va_iald hx hb hK hP b2 1 (wld_i ct ad G M hc2 hk2) rfl hvc dX2_filterLine_13 ?_
  obtain ⟨x6, ex6, hF⟩ := ltt_some hF
  refine lv_topi (fun zx6 ezx6 => ?_)
  obtain rfl : x6 = zx6 := ex6.trans ezx6.symm
  refine lv_istore (lv' := [(7, .int x6), (6, .int x3), (0, .ref (ad a)), (1, va_re ad p0), (2, .int p1), (3, .int p2), (4, .int p3), (5, .int p4)]) hx hb dX2_filterLine_14 hl (by decide) rfl (fun ls hl => ?_)
  refine lv_aloadq_n hx hb dX2_filterLine_16 rfl (lv_at hl 3 rfl) ?_
  refine lv_iload_n hx hb dX2_filterLine_17 rfl (lv_at hl 4 rfl) ?_
  refine W_st (st' := [.int p1, .ref (ad b2)]) (by rw [va_some ho2]) ?_
  obtain ⟨hvc, hF⟩ := chk_some hF
  refine va_iald hx hb hK hP b2 1 (wld_i ct ad G M hc2 hk2) rfl hvc dX2_filterLine_18 ?_
  obtain ⟨x7, ex7, hF⟩ := ltt_some hF
  refine lv_topi (fun zx7 ezx7 => ?_)
  obtain rfl : x7 = zx7 := ex7.trans ezx7.symm
  refine lv_istore (lv' := [(8, .int x7), (7, .int x6), (6, .int x3), (0, .ref (ad a)), (1, va_re ad p0), (2, .int p1), (3, .int p2), (4, .int p3), (5, .int p4)]) hx hb dX2_filterLine_19 hl (by decide) rfl (fun ls hl => ?_)
  refine lv_aloadq_n hx hb dX2_filterLine_21 rfl (lv_at hl 4 rfl) ?_
  refine lv_iload_n hx hb dX2_filterLine_22 rfl (lv_at hl 5 rfl) ?_
  refine lv_iload_n hx hb dX2_filterLine_23 rfl (lv_at hl 6 rfl) ?_
  refine lv_iadd hx hb dX2_filterLine_24 ?_
  obtain ⟨x8, ex8, hF⟩ := ltt_some hF
  refine lv_topi (fun zx8 ezx8 => ?_)
  obtain rfl : x8 = zx8 := ex8.trans ezx8.symm
  refine W_st (st' := [.int x8, .ref (ad b2)]) (by rw [va_some ho2]) ?_
  obtain ⟨hvc, hF⟩ := chk_some hF
  refine va_iald hx hb hK hP b2 1 (wld_i ct ad G M hc2 hk2) rfl hvc dX2_filterLine_25 ?_
  obtain ⟨x9, ex9, hF⟩ := ltt_some hF
  refine lv_topi (fun zx9 ezx9 => ?_)
  obtain rfl : x9 = zx9 := ex9.trans ezx9.symm
  refine lv_istore (lv' := [(9, .int x9), (8, .int x7), (7, .int x6), (6, .int x3), (0, .ref (ad a)), (1, va_re ad p0), (2, .int p1), (3, .int p2), (4, .int p3), (5, .int p4)]) hx hb dX2_filterLine_26 hl (by decide) rfl (fun ls hl => ?_)
  refine lv_iload hx hb dX2_filterLine_28 (lv_at hl 3 rfl) ?_
  refine lv_iload hx hb dX2_filterLine_30 (lv_at hl 1 rfl) ?_
  refine lv_isub hx hb dX2_filterLine_32 ?_
  obtain ⟨x10, ex10, hF⟩ := ltt_some hF
  refine lv_topi (fun zx10 ezx10 => ?_)
  obtain rfl : x10 = zx10 := ex10.trans ezx10.symm
  refine va_mabs hx hb (hml.trans hl.1.symm) hown (hts (.methodLink RX2 131 Lib.Math.abs.name) (mu mw_989)) (hts (.static Lib.Math.abs.name) (mu mw_990)) (hts (.initialized "java/lang/Math") (mu mw_183)) (hts (.code Lib.Math.abs.name Lib.Math.abs.code 1 (some .int)) (mu mw_991)) (Nat.le_of_ble_eq_true rfl) (Nat.le_of_ble_eq_true rfl) (Nat.zero_le _) (Nat.zero_le _) dX2_filterLine_33 ?_
  obtain ⟨x11, ex11, hF⟩ := ltt_some hF
  refine lv_topi (fun zx11 ezx11 => ?_)
  obtain rfl : x11 = zx11 := ex11.trans ezx11.symm
  refine lv_aload_n hx hb dX2_filterLine_36 rfl (lv_at hl 4 rfl) ?_
  refine va_get (D := D) (ci := 2) (v := .int (M.1 a 2)) (C := RX2) (T := TX2) (N := 7) hx hb hts (mus hf_X2) hown hK hP a (wld_o ct ad G M hc hk (by decide)) rfl 2 (by decide) (hts (.fieldLink RX2 122 "VideoSuite$Edges" "alpha" "I") (mu mw_588)) (fun _ h9 => h9) rfl dX2_filterLine_37 ?_
  obtain ⟨x12, ex12, hF⟩ := ltt_some hF
  refine lv_topi (fun zx12 ezx12 => ?_)
  obtain rfl : x12 = zx12 := ex12.trans ezx12.symm
  refine lv_icmp_ge (tgt := 73) hx hb dX2_filterLine_40 (by decide) (fun c13 => ?_) (fun c13 => ?_)
  · rw [if_pos c13] at hF
    obtain rfl := Option.some.inj hF
    exact W.vret hx hb hr (fun t ht hW => ⟨⟨(), rfl, trivial, ⟨by rw [ht]; exact hP, va_K.moved hW.alike hK, hD⟩⟩, hS.F ht⟩) hS.2.2 dX2_filterLine_73
  · rw [if_neg c13] at hF
    refine lv_iload hx hb dX2_filterLine_43 (lv_at hl 2 rfl) ?_
    refine lv_iload hx hb dX2_filterLine_45 (lv_at hl 3 rfl) ?_
    refine lv_isub hx hb dX2_filterLine_47 ?_
    obtain ⟨x14, ex14, hF⟩ := ltt_some hF
    refine lv_topi (fun zx14 ezx14 => ?_)
    obtain rfl : x14 = zx14 := ex14.trans ezx14.symm
    refine va_mabs hx hb (hml.trans hl.1.symm) hown (hts (.methodLink RX2 131 Lib.Math.abs.name) (mu mw_989)) (hts (.static Lib.Math.abs.name) (mu mw_990)) (hts (.initialized "java/lang/Math") (mu mw_183)) (hts (.code Lib.Math.abs.name Lib.Math.abs.code 1 (some .int)) (mu mw_991)) (Nat.le_of_ble_eq_true rfl) (Nat.le_of_ble_eq_true rfl) (Nat.zero_le _) (Nat.zero_le _) dX2_filterLine_48 ?_
    obtain ⟨x15, ex15, hF⟩ := ltt_some hF
    refine lv_topi (fun zx15 ezx15 => ?_)
    obtain rfl : x15 = zx15 := ex15.trans ezx15.symm
    refine lv_aload_n hx hb dX2_filterLine_51 rfl (lv_at hl 4 rfl) ?_
    refine va_get (D := D) (ci := 2) (v := .int (M.1 a 3)) (C := RX2) (T := TX2) (N := 7) hx hb hts (mus hf_X2) hown hK hP a (wld_o ct ad G M hc hk (by decide)) rfl 3 (by decide) (hts (.fieldLink RX2 128 "VideoSuite$Edges" "beta" "I") (mu mw_589)) (fun _ h9 => h9) rfl dX2_filterLine_52 ?_
    obtain ⟨x16, ex16, hF⟩ := ltt_some hF
    refine lv_topi (fun zx16 ezx16 => ?_)
    obtain rfl : x16 = zx16 := ex16.trans ezx16.symm
    refine lv_icmp_ge (tgt := 73) hx hb dX2_filterLine_55 (by decide) (fun c17 => ?_) (fun c17 => ?_)
    · rw [if_pos c17] at hF
      obtain rfl := Option.some.inj hF
      exact W.vret hx hb hr (fun t ht hW => ⟨⟨(), rfl, trivial, ⟨by rw [ht]; exact hP, va_K.moved hW.alike hK, hD⟩⟩, hS.F ht⟩) hS.2.2 dX2_filterLine_73
    · rw [if_neg c17] at hF
      refine lv_iload hx hb dX2_filterLine_58 (lv_at hl 0 rfl) ?_
      refine lv_iload hx hb dX2_filterLine_60 (lv_at hl 1 rfl) ?_
      refine lv_isub hx hb dX2_filterLine_62 ?_
      obtain ⟨x18, ex18, hF⟩ := ltt_some hF
      refine lv_topi (fun zx18 ezx18 => ?_)
      obtain rfl : x18 = zx18 := ex18.trans ezx18.symm
      refine va_mabs hx hb (hml.trans hl.1.symm) hown (hts (.methodLink RX2 131 Lib.Math.abs.name) (mu mw_989)) (hts (.static Lib.Math.abs.name) (mu mw_990)) (hts (.initialized "java/lang/Math") (mu mw_183)) (hts (.code Lib.Math.abs.name Lib.Math.abs.code 1 (some .int)) (mu mw_991)) (Nat.le_of_ble_eq_true rfl) (Nat.le_of_ble_eq_true rfl) (Nat.zero_le _) (Nat.zero_le _) dX2_filterLine_63 ?_
      obtain ⟨x19, ex19, hF⟩ := ltt_some hF
      refine lv_topi (fun zx19 ezx19 => ?_)
      obtain rfl : x19 = zx19 := ex19.trans ezx19.symm
      refine lv_aload_n hx hb dX2_filterLine_66 rfl (lv_at hl 4 rfl) ?_
      refine va_get (D := D) (ci := 2) (v := .int (M.1 a 3)) (C := RX2) (T := TX2) (N := 7) hx hb hts (mus hf_X2) hown hK hP a (wld_o ct ad G M hc hk (by decide)) rfl 3 (by decide) (hts (.fieldLink RX2 128 "VideoSuite$Edges" "beta" "I") (mu mw_589)) (fun _ h9 => h9) rfl dX2_filterLine_67 ?_
      obtain ⟨x20, ex20, hF⟩ := ltt_some hF
      refine lv_topi (fun zx20 ezx20 => ?_)
      obtain rfl : x20 = zx20 := ex20.trans ezx20.symm
      refine lv_icmp_lt (tgt := 74) hx hb dX2_filterLine_70 (by decide) (fun c21 => ?_) (fun c21 => ?_)
      · rw [if_pos c21] at hF
        refine lv_iload hx hb dX2_filterLine_74 (lv_at hl 9 rfl) ?_
        obtain ⟨y22, hy22, hF⟩ := bnd_some hF
        have J22 : ∀ (H : Heap) (locs : List Loc) (ls : Array Slot), va_P D classes (wld ct ad G y22.2) H → va_D A (wld ct ad G y22.2) → va_S A s.heap H locs → lv_has ls 17 [(9, .int x9), (8, .int x7), (7, .int x6), (6, .int x3), (0, .ref (ad a)), (1, va_re ad p0), (2, .int p1), (3, .int p2), (4, .int p3), (5, .int p4)] → W p l e (headSpec wuX2_filterLine ({ frames := 1, cells := 0, slots := 0, locals := 29 })).room s m ([.ref (ad a), va_re ad p0, .int p1, .int p2, .int p3, .int p4] : List Value).toArray below meth c H locs 0 0 (MQ below (va_Qv (fun (_ : Unit) => True) (fun _ t => kE D ct ad G A y t) A) ([.ref (ad a), va_re ad p0, .int p1, .int p2, .int p3, .int p4] : List Value).toArray s 0 0 A) (F0 m 104 ls [.int y22.1]) := by
          intro H locs ls hP hD hS hl
          refine lv_istore (lv' := [(10, .int y22.1), (9, .int x9), (8, .int x7), (7, .int x6), (6, .int x3), (0, .ref (ad a)), (1, va_re ad p0), (2, .int p1), (3, .int p2), (4, .int p3), (5, .int p4)]) hx hb dX2_filterLine_104 hl (by decide) rfl (fun ls hl => ?_)
          refine lv_iload hx hb dX2_filterLine_106 (lv_at hl 10 rfl) ?_
          obtain ⟨y23, hy23, hF⟩ := bnd_some hF
          have J23 : ∀ (H : Heap) (locs : List Loc) (ls : Array Slot), va_P D classes (wld ct ad G y23.2) H → va_D A (wld ct ad G y23.2) → va_S A s.heap H locs → lv_has ls 17 [(10, .int y22.1), (9, .int x9), (8, .int x7), (7, .int x6), (6, .int x3), (0, .ref (ad a)), (1, va_re ad p0), (2, .int p1), (3, .int p2), (4, .int p3), (5, .int p4)] → W p l e (headSpec wuX2_filterLine ({ frames := 1, cells := 0, slots := 0, locals := 29 })).room s m ([.ref (ad a), va_re ad p0, .int p1, .int p2, .int p3, .int p4] : List Value).toArray below meth c H locs 0 0 (MQ below (va_Qv (fun (_ : Unit) => True) (fun _ t => kE D ct ad G A y t) A) ([.ref (ad a), va_re ad p0, .int p1, .int p2, .int p3, .int p4] : List Value).toArray s 0 0 A) (F0 m 136 ls [.int y23.1]) := by
            intro H locs ls hP hD hS hl
            refine lv_istore (lv' := [(11, .int y23.1), (10, .int y22.1), (9, .int x9), (8, .int x7), (7, .int x6), (6, .int x3), (0, .ref (ad a)), (1, va_re ad p0), (2, .int p1), (3, .int p2), (4, .int p3), (5, .int p4)]) hx hb dX2_filterLine_136 hl (by decide) rfl (fun ls hl => ?_)
            refine lv_iload hx hb dX2_filterLine_138 (lv_at hl 10 rfl) ?_
            refine lv_iconst (v := (4 : Int32)) hx hb dX2_filterLine_140 (by decide) ?_
            refine lv_icmp_ne (tgt := 224) hx hb dX2_filterLine_141 (by decide) (fun c24 => ?_) (fun c24 => ?_)
            · rw [if_neg c24] at hF
              refine lv_aload_n hx hb dX2_filterLine_224 rfl (lv_at hl 6 rfl) ?_
              refine va_get (D := D) (ci := 2) (v := .int (y23.2.1 a 4)) (C := RX2) (T := TX2) (N := 7) hx hb hts (mus hf_X2) hown hK hP a (wld_o ct ad G y23.2 hc hk (by decide)) rfl 4 (by decide) (hts (.fieldLink RX2 116 "VideoSuite$Edges" "indexA" "I") (mu mw_590)) (fun _ h9 => h9) rfl dX2_filterLine_225 ?_
              obtain ⟨x25, ex25, hF⟩ := ltt_some hF
              refine lv_topi (fun zx25 ezx25 => ?_)
              obtain rfl : x25 = zx25 := ex25.trans ezx25.symm
              refine lv_bipush (v := (17 : Int32)) hx hb dX2_filterLine_228 (by decide) ?_
              obtain ⟨y26, hy26, hF⟩ := bnd_some hF
              have J26 : ∀ (H : Heap) (locs : List Loc) (ls : Array Slot), va_P D classes (wld ct ad G y23.2) H → va_D A (wld ct ad G y23.2) → va_S A s.heap H locs → lv_has ls 17 [(11, .int y23.1), (10, .int y22.1), (9, .int x9), (8, .int x7), (7, .int x6), (6, .int x3), (0, .ref (ad a)), (1, va_re ad p0), (2, .int p1), (3, .int p2), (4, .int p3), (5, .int p4)] → W p l e (headSpec wuX2_filterLine ({ frames := 1, cells := 0, slots := 0, locals := 29 })).room s m ([.ref (ad a), va_re ad p0, .int p1, .int p2, .int p3, .int p4] : List Value).toArray below meth c H locs 0 0 (MQ below (va_Qv (fun (_ : Unit) => True) (fun _ t => kE D ct ad G A y t) A) ([.ref (ad a), va_re ad p0, .int p1, .int p2, .int p3, .int p4] : List Value).toArray s 0 0 A) (F0 m 255 ls [.int y26]) := by
                intro H locs ls hP hD hS hl
                refine lv_istore (lv' := [(12, .int y26), (11, .int y23.1), (10, .int y22.1), (9, .int x9), (8, .int x7), (7, .int x6), (6, .int x3), (0, .ref (ad a)), (1, va_re ad p0), (2, .int p1), (3, .int p2), (4, .int p3), (5, .int p4)]) hx hb dX2_filterLine_255 hl (by decide) rfl (fun ls hl => ?_)
                refine lv_iload hx hb dX2_filterLine_257 (lv_at hl 12 rfl) ?_
                obtain ⟨y27, hy27, hF⟩ := bnd_some hF
                have J27 : ∀ (H : Heap) (locs : List Loc) (ls : Array Slot), va_P D classes (wld ct ad G y23.2) H → va_D A (wld ct ad G y23.2) → va_S A s.heap H locs → lv_has ls 17 [(12, .int y26), (11, .int y23.1), (10, .int y22.1), (9, .int x9), (8, .int x7), (7, .int x6), (6, .int x3), (0, .ref (ad a)), (1, va_re ad p0), (2, .int p1), (3, .int p2), (4, .int p3), (5, .int p4)] → W p l e (headSpec wuX2_filterLine ({ frames := 1, cells := 0, slots := 0, locals := 29 })).room s m ([.ref (ad a), va_re ad p0, .int p1, .int p2, .int p3, .int p4] : List Value).toArray below meth c H locs 0 0 (MQ below (va_Qv (fun (_ : Unit) => True) (fun _ t => kE D ct ad G A y t) A) ([.ref (ad a), va_re ad p0, .int p1, .int p2, .int p3, .int p4] : List Value).toArray s 0 0 A) (F0 m 293 ls [.int y27]) := by
                  intro H locs ls hP hD hS hl
                  refine lv_istore (lv' := [(13, .int y27), (12, .int y26), (11, .int y23.1), (10, .int y22.1), (9, .int x9), (8, .int x7), (7, .int x6), (6, .int x3), (0, .ref (ad a)), (1, va_re ad p0), (2, .int p1), (3, .int p2), (4, .int p3), (5, .int p4)]) hx hb dX2_filterLine_293 hl (by decide) rfl (fun ls hl => ?_)
                  refine lv_iload hx hb dX2_filterLine_295 (lv_at hl 5 rfl) ?_
                  refine lv_iload hx hb dX2_filterLine_297 (lv_at hl 7 rfl) ?_
                  refine lv_isub hx hb dX2_filterLine_299 ?_
                  obtain ⟨x28, ex28, hF⟩ := ltt_some hF
                  refine lv_topi (fun zx28 ezx28 => ?_)
                  obtain rfl : x28 = zx28 := ex28.trans ezx28.symm
                  refine lv_iconst (v := (4 : Int32)) hx hb dX2_filterLine_300 (by decide) ?_
                  refine lv_imul hx hb dX2_filterLine_301 ?_
                  obtain ⟨x29, ex29, hF⟩ := ltt_some hF
                  refine lv_topi (fun zx29 ezx29 => ?_)
                  obtain rfl : x29 = zx29 := ex29.trans ezx29.symm
                  refine lv_iload hx hb dX2_filterLine_302 (lv_at hl 6 rfl) ?_
                  refine lv_iload hx hb dX2_filterLine_304 (lv_at hl 4 rfl) ?_
                  refine lv_isub hx hb dX2_filterLine_306 ?_
                  obtain ⟨x30, ex30, hF⟩ := ltt_some hF
                  refine lv_topi (fun zx30 ezx30 => ?_)
                  obtain rfl : x30 = zx30 := ex30.trans ezx30.symm
                  refine lv_iadd hx hb dX2_filterLine_307 ?_
                  obtain ⟨x31, ex31, hF⟩ := ltt_some hF
                  refine lv_topi (fun zx31 ezx31 => ?_)
                  obtain rfl : x31 = zx31 := ex31.trans ezx31.symm
                  refine lv_iconst (v := (4 : Int32)) hx hb dX2_filterLine_308 (by decide) ?_
                  refine lv_iadd hx hb dX2_filterLine_309 ?_
                  obtain ⟨x32, ex32, hF⟩ := ltt_some hF
                  refine lv_topi (fun zx32 ezx32 => ?_)
                  obtain rfl : x32 = zx32 := ex32.trans ezx32.symm
                  refine lv_iconst (v := (3 : Int32)) hx hb dX2_filterLine_310 (by decide) ?_
                  refine lv_ishr hx hb dX2_filterLine_311 ?_
                  obtain ⟨x33, ex33, hF⟩ := ltt_some hF
                  refine lv_topi (fun zx33 ezx33 => ?_)
                  obtain rfl : x33 = zx33 := ex33.trans ezx33.symm
                  refine lv_istore (lv' := [(14, .int x33), (13, .int y27), (12, .int y26), (11, .int y23.1), (10, .int y22.1), (9, .int x9), (8, .int x7), (7, .int x6), (6, .int x3), (0, .ref (ad a)), (1, va_re ad p0), (2, .int p1), (3, .int p2), (4, .int p3), (5, .int p4)]) hx hb dX2_filterLine_312 hl (by decide) rfl (fun ls hl => ?_)
                  refine lv_iload hx hb dX2_filterLine_314 (lv_at hl 0 rfl) ?_
                  refine lv_iload hx hb dX2_filterLine_316 (lv_at hl 1 rfl) ?_
                  refine lv_ineg hx hb dX2_filterLine_318 ?_
                  obtain ⟨x34, ex34, hF⟩ := ltt_some hF
                  refine lv_topi (fun zx34 ezx34 => ?_)
                  obtain rfl : x34 = zx34 := ex34.trans ezx34.symm
                  obtain ⟨y35, hy35, hF⟩ := bnd_some hF
                  have J35 : ∀ (H : Heap) (locs : List Loc) (ls : Array Slot), va_P D classes (wld ct ad G y23.2) H → va_D A (wld ct ad G y23.2) → va_S A s.heap H locs → lv_has ls 17 [(14, .int x33), (13, .int y27), (12, .int y26), (11, .int y23.1), (10, .int y22.1), (9, .int x9), (8, .int x7), (7, .int x6), (6, .int x3), (0, .ref (ad a)), (1, va_re ad p0), (2, .int p1), (3, .int p2), (4, .int p3), (5, .int p4)] → W p l e (headSpec wuX2_filterLine ({ frames := 1, cells := 0, slots := 0, locals := 29 })).room s m ([.ref (ad a), va_re ad p0, .int p1, .int p2, .int p3, .int p4] : List Value).toArray below meth c H locs 0 0 (MQ below (va_Qv (fun (_ : Unit) => True) (fun _ t => kE D ct ad G A y t) A) ([.ref (ad a), va_re ad p0, .int p1, .int p2, .int p3, .int p4] : List Value).toArray s 0 0 A) (F0 m 342 ls [.int y35]) := by
                    intro H locs ls hP hD hS hl
                    refine lv_istore (lv' := [(14, .int y35), (13, .int y27), (12, .int y26), (11, .int y23.1), (10, .int y22.1), (9, .int x9), (8, .int x7), (7, .int x6), (6, .int x3), (0, .ref (ad a)), (1, va_re ad p0), (2, .int p1), (3, .int p2), (4, .int p3), (5, .int p4)]) hx hb dX2_filterLine_342 hl (by decide) rfl (fun ls hl => ?_)
                    refine lv_iload hx hb dX2_filterLine_344 (lv_at hl 8 rfl) ?_
                    refine lv_iload hx hb dX2_filterLine_346 (lv_at hl 6 rfl) ?_
                    refine lv_iadd hx hb dX2_filterLine_348 ?_
                    obtain ⟨x36, ex36, hF⟩ := ltt_some hF
                    refine lv_topi (fun zx36 ezx36 => ?_)
                    obtain rfl : x36 = zx36 := ex36.trans ezx36.symm
                    refine lv_iconst (v := (1 : Int32)) hx hb dX2_filterLine_349 (by decide) ?_
                    refine lv_iadd hx hb dX2_filterLine_350 ?_
                    obtain ⟨x37, ex37, hF⟩ := ltt_some hF
                    refine lv_topi (fun zx37 ezx37 => ?_)
                    obtain rfl : x37 = zx37 := ex37.trans ezx37.symm
                    refine lv_iconst (v := (1 : Int32)) hx hb dX2_filterLine_351 (by decide) ?_
                    refine lv_ishr hx hb dX2_filterLine_352 ?_
                    obtain ⟨x38, ex38, hF⟩ := ltt_some hF
                    refine lv_topi (fun zx38 ezx38 => ?_)
                    obtain rfl : x38 = zx38 := ex38.trans ezx38.symm
                    refine lv_istore (lv' := [(15, .int x38), (14, .int y35), (13, .int y27), (12, .int y26), (11, .int y23.1), (10, .int y22.1), (9, .int x9), (8, .int x7), (7, .int x6), (6, .int x3), (0, .ref (ad a)), (1, va_re ad p0), (2, .int p1), (3, .int p2), (4, .int p3), (5, .int p4)]) hx hb dX2_filterLine_353 hl (by decide) rfl (fun ls hl => ?_)
                    refine lv_iload hx hb dX2_filterLine_355 (lv_at hl 5 rfl) ?_
                    obtain ⟨y39, hy39, hF⟩ := bnd_some hF
                    have J39 : ∀ (H : Heap) (locs : List Loc) (ls : Array Slot), va_P D classes (wld ct ad G y39) H → va_D A (wld ct ad G y39) → va_S A s.heap H locs → lv_has ls 17 [(15, .int x38), (14, .int y35), (13, .int y27), (12, .int y26), (11, .int y23.1), (10, .int y22.1), (9, .int x9), (8, .int x7), (7, .int x6), (6, .int x3), (0, .ref (ad a)), (1, va_re ad p0), (2, .int p1), (3, .int p2), (4, .int p3), (5, .int p4)] → W p l e (headSpec wuX2_filterLine ({ frames := 1, cells := 0, slots := 0, locals := 29 })).room s m ([.ref (ad a), va_re ad p0, .int p1, .int p2, .int p3, .int p4] : List Value).toArray below meth c H locs 0 0 (MQ below (va_Qv (fun (_ : Unit) => True) (fun _ t => kE D ct ad G A y t) A) ([.ref (ad a), va_re ad p0, .int p1, .int p2, .int p3, .int p4] : List Value).toArray s 0 0 A) (F0 m 417 ls []) := by
                      intro H locs ls hP hD hS hl
                      refine lv_iload hx hb dX2_filterLine_417 (lv_at hl 4 rfl) ?_
                      obtain ⟨y40, hy40, hF⟩ := bnd_some hF
                      have J40 : ∀ (H : Heap) (locs : List Loc) (ls : Array Slot), va_P D classes (wld ct ad G y40) H → va_D A (wld ct ad G y40) → va_S A s.heap H locs → lv_has ls 17 [(15, .int x38), (14, .int y35), (13, .int y27), (12, .int y26), (11, .int y23.1), (10, .int y22.1), (9, .int x9), (8, .int x7), (7, .int x6), (6, .int x3), (0, .ref (ad a)), (1, va_re ad p0), (2, .int p1), (3, .int p2), (4, .int p3), (5, .int p4)] → W p l e (headSpec wuX2_filterLine ({ frames := 1, cells := 0, slots := 0, locals := 29 })).room s m ([.ref (ad a), va_re ad p0, .int p1, .int p2, .int p3, .int p4] : List Value).toArray below meth c H locs 0 0 (MQ below (va_Qv (fun (_ : Unit) => True) (fun _ t => kE D ct ad G A y t) A) ([.ref (ad a), va_re ad p0, .int p1, .int p2, .int p3, .int p4] : List Value).toArray s 0 0 A) (F0 m 477 ls []) := by
                        intro H locs ls hP hD hS hl
                        refine lv_aloadq_n hx hb dX2_filterLine_477 rfl (lv_at hl 11 rfl) ?_
                        refine lv_iload_n hx hb dX2_filterLine_478 rfl (lv_at hl 12 rfl) ?_
                        refine lv_iload_n hx hb dX2_filterLine_479 rfl (lv_at hl 13 rfl) ?_
                        refine lv_isub hx hb dX2_filterLine_480 ?_
                        obtain ⟨x41, ex41, hF⟩ := ltt_some hF
                        refine lv_topi (fun zx41 ezx41 => ?_)
                        obtain rfl : x41 = zx41 := ex41.trans ezx41.symm
                        refine lv_iload hx hb dX2_filterLine_481 (lv_at hl 9 rfl) ?_
                        refine lv_iload hx hb dX2_filterLine_483 (lv_at hl 1 rfl) ?_
                        refine lv_iadd hx hb dX2_filterLine_485 ?_
                        obtain ⟨x42, ex42, hF⟩ := ltt_some hF
                        refine lv_topi (fun zx42 ezx42 => ?_)
                        obtain rfl : x42 = zx42 := ex42.trans ezx42.symm
                        obtain ⟨y43, hy43, hF⟩ := bnd_some hF
                        have hf9 := wA_in hD hA9 hS
                        refine va_calli (va_runSN (As := [.int x42]) (rest := [.int x41, va_re ad p0]) ⟨hx, hb, hml, hown, hts⟩ (kX11_clip l D ct ad Z G y40 H.size x42 y43 hy43) ⟨va_cnB 1 hts gX2_filterLine_X11_clip_n143 rfl rfl rfl (hN.1 (RX2, 143, yX11_clip, RX11) (List.mem_of_getElem? (i := 17) rfl)) (hts (.initialized RX11) (mu mw_166)) (by decide +kernel) ⟨Nat.le_of_ble_eq_true rfl, Nat.le_of_ble_eq_true rfl⟩, hts (.static yX11_clip) (mu mw_998), trivial⟩ ⟨fun a U g mk q => by obtain ⟨q0, q1, qP, qK, qD, qZ, qN⟩ := q; exact ⟨q0, q1, qP, va_K.moved (u := U) (U := U.calling g mk a) (Vm.Alike.refl U.vm) qK, qD, sF.moved (u := U) (U := U.calling g mk a) (Vm.Alike.refl U.vm) qZ, nF.same rfl qN⟩, fun U hU hW => ⟨rfl, by rw [hU], by rw [hU]; exact hP, va_K.moved hW.alike hK, hD.weaken (fun _ _ _ _ => trivial), by rw [hU]; exact ((hZ.kept hS.2.1).narrow hf9).moved hW.alike, hN.warm hW⟩⟩ rfl rfl hl.1 rfl (lv_room (by simp only [List.map, va_re_cat]; exact Nat.le_of_ble_eq_true rfl)) dX2_filterLine_486 ⟨(Nat.zero_le _), (Nat.zero_le _)⟩) hS (fun q _ h => hf9 q h) hf9 (fun r u t H locs ht hvm hw hB hz1 hk1 hS => ?_)
                        obtain ⟨hP, hK9, hD9⟩ := hB
                        rw [ht] at hP
                        try dsimp only at hw
                        subst hw
                        have hD := hD9.weaken (fun _ q _ h => hf9 q.1 h)
                        refine W_st (st' := [.int y43.2, .int x41, .ref (ad b2)]) (by rw [va_some ho2]) ?_
                        obtain ⟨hvc, hF⟩ := chk_some hF
                        refine va_iast hx hb hK hP hD hS b2 1 (wld_i ct ad G y43.1 hc2 hk2) rfl hvc dX2_filterLine_489 (fun H locs hP hD hS => ?_)
                        obtain ⟨M44, eM44, hF⟩ := ltt_some hF
                        rw [set_i ct ad G y43.1 hc2 hk2, ← eM44] at hP hD
                        refine lv_aloadq_n hx hb dX2_filterLine_490 rfl (lv_at hl 11 rfl) ?_
                        refine lv_iload_n hx hb dX2_filterLine_491 rfl (lv_at hl 12 rfl) ?_
                        refine lv_iload hx hb dX2_filterLine_492 (lv_at hl 7 rfl) ?_
                        refine lv_iload hx hb dX2_filterLine_494 (lv_at hl 1 rfl) ?_
                        refine lv_isub hx hb dX2_filterLine_496 ?_
                        obtain ⟨x45, ex45, hF⟩ := ltt_some hF
                        refine lv_topi (fun zx45 ezx45 => ?_)
                        obtain rfl : x45 = zx45 := ex45.trans ezx45.symm
                        obtain ⟨y46, hy46, hF⟩ := bnd_some hF
                        have hf9 := wA_in hD hA9 hS
                        refine va_calli (va_runSN (As := [.int x45]) (rest := [.int p1, va_re ad p0]) ⟨hx, hb, hml, hown, hts⟩ (kX11_clip l D ct ad Z G M44 H.size x45 y46 hy46) ⟨va_cnB 1 hts gX2_filterLine_X11_clip_n143 rfl rfl rfl (hN.1 (RX2, 143, yX11_clip, RX11) (List.mem_of_getElem? (i := 17) rfl)) (hts (.initialized RX11) (mu mw_166)) (by decide +kernel) ⟨Nat.le_of_ble_eq_true rfl, Nat.le_of_ble_eq_true rfl⟩, hts (.static yX11_clip) (mu mw_998), trivial⟩ ⟨fun a U g mk q => by obtain ⟨q0, q1, qP, qK, qD, qZ, qN⟩ := q; exact ⟨q0, q1, qP, va_K.moved (u := U) (U := U.calling g mk a) (Vm.Alike.refl U.vm) qK, qD, sF.moved (u := U) (U := U.calling g mk a) (Vm.Alike.refl U.vm) qZ, nF.same rfl qN⟩, fun U hU hW => ⟨rfl, by rw [hU], by rw [hU]; exact hP, va_K.moved hW.alike hK, hD.weaken (fun _ _ _ _ => trivial), by rw [hU]; exact ((hZ.kept hS.2.1).narrow hf9).moved hW.alike, hN.warm hW⟩⟩ rfl rfl hl.1 rfl (lv_room (by simp only [List.map, va_re_cat]; exact Nat.le_of_ble_eq_true rfl)) dX2_filterLine_497 ⟨(Nat.zero_le _), (Nat.zero_le _)⟩) hS (fun q _ h => hf9 q h) hf9 (fun r u t H locs ht hvm hw hB hz1 hk1 hS => ?_)
                        obtain ⟨hP, hK9, hD9⟩ := hB
                        rw [ht] at hP
                        try dsimp only at hw
                        subst hw
                        have hD := hD9.weaken (fun _ q _ h => hf9 q.1 h)
                        refine W_st (st' := [.int y46.2, .int p1, .ref (ad b2)]) (by rw [va_some ho2]) ?_
                        obtain ⟨hvc, hF⟩ := chk_some hF
                        refine va_iast hx hb hK hP hD hS b2 1 (wld_i ct ad G y46.1 hc2 hk2) rfl hvc dX2_filterLine_500 (fun H locs hP hD hS => ?_)
                        obtain ⟨M47, eM47, hF⟩ := ltt_some hF
                        rw [set_i ct ad G y46.1 hc2 hk2, ← eM47] at hP hD
                        obtain rfl := Option.some.inj hF
                        exact W.vret hx hb hr (fun t ht hW => ⟨⟨(), rfl, trivial, ⟨by rw [ht]; exact hP, va_K.moved hW.alike hK, hD⟩⟩, hS.F ht⟩) hS.2.2 dX2_filterLine_501
                      clear hF
                      have hF := hy40
                      clear hy40
                      refine lv_if_eq (tgt := 477) hx hb dX2_filterLine_419 (by decide) (fun c48 => ?_) (fun c48 => ?_)
                      · rw [if_pos c48] at hF
                        obtain rfl := Option.some.inj hF
                        exact J40 _ _ _ hP hD hS (lv_sub hl [0, 1, 2, 3, 4, 5, 6, 7, 8, 9, 10, 11, 12, 13, 14, 15] rfl)
                      · rw [if_neg c48] at hF
                        refine lv_aloadq_n hx hb dX2_filterLine_422 rfl (lv_at hl 11 rfl) ?_
                        refine lv_iload_n hx hb dX2_filterLine_423 rfl (lv_at hl 12 rfl) ?_
                        refine lv_iconst (v := (2 : Int32)) hx hb dX2_filterLine_424 (by decide) ?_
                        refine lv_iload_n hx hb dX2_filterLine_425 rfl (lv_at hl 13 rfl) ?_
                        refine lv_imul hx hb dX2_filterLine_426 ?_
                        obtain ⟨x49, ex49, hF⟩ := ltt_some hF
                        refine lv_topi (fun zx49 ezx49 => ?_)
                        obtain rfl : x49 = zx49 := ex49.trans ezx49.symm
                        refine lv_iadd hx hb dX2_filterLine_427 ?_
                        obtain ⟨x50, ex50, hF⟩ := ltt_some hF
                        refine lv_topi (fun zx50 ezx50 => ?_)
                        obtain rfl : x50 = zx50 := ex50.trans ezx50.symm
                        refine W_st (st' := [.int x50, .ref (ad b2)]) (by rw [va_some ho2]) ?_
                        obtain ⟨hvc, hF⟩ := chk_some hF
                        refine va_iald hx hb hK hP b2 1 (wld_i ct ad G y39 hc2 hk2) rfl hvc dX2_filterLine_428 ?_
                        obtain ⟨x51, ex51, hF⟩ := ltt_some hF
                        refine lv_topi (fun zx51 ezx51 => ?_)
                        obtain rfl : x51 = zx51 := ex51.trans ezx51.symm
                        refine lv_iload hx hb dX2_filterLine_429 (lv_at hl 0 rfl) ?_
                        refine lv_iadd hx hb dX2_filterLine_431 ?_
                        obtain ⟨x52, ex52, hF⟩ := ltt_some hF
                        refine lv_topi (fun zx52 ezx52 => ?_)
                        obtain rfl : x52 = zx52 := ex52.trans ezx52.symm
                        refine lv_iconst (v := (2 : Int32)) hx hb dX2_filterLine_432 (by decide) ?_
                        refine lv_iload hx hb dX2_filterLine_433 (lv_at hl 6 rfl) ?_
                        refine lv_imul hx hb dX2_filterLine_435 ?_
                        obtain ⟨x53, ex53, hF⟩ := ltt_some hF
                        refine lv_topi (fun zx53 ezx53 => ?_)
                        obtain rfl : x53 = zx53 := ex53.trans ezx53.symm
                        refine lv_isub hx hb dX2_filterLine_436 ?_
                        obtain ⟨x54, ex54, hF⟩ := ltt_some hF
                        refine lv_topi (fun zx54 ezx54 => ?_)
                        obtain rfl : x54 = zx54 := ex54.trans ezx54.symm
                        refine lv_iconst (v := (1 : Int32)) hx hb dX2_filterLine_437 (by decide) ?_
                        refine lv_ishr hx hb dX2_filterLine_438 ?_
                        obtain ⟨x55, ex55, hF⟩ := ltt_some hF
                        refine lv_topi (fun zx55 ezx55 => ?_)
                        obtain rfl : x55 = zx55 := ex55.trans ezx55.symm
                        refine lv_istore (lv' := [(16, .int x55), (15, .int x38), (14, .int y35), (13, .int y27), (12, .int y26), (11, .int y23.1), (10, .int y22.1), (9, .int x9), (8, .int x7), (7, .int x6), (6, .int x3), (0, .ref (ad a)), (1, va_re ad p0), (2, .int p1), (3, .int p2), (4, .int p3), (5, .int p4)]) hx hb dX2_filterLine_439 hl (by decide) rfl (fun ls hl => ?_)
                        refine lv_aloadq_n hx hb dX2_filterLine_441 rfl (lv_at hl 12 rfl) ?_
                        refine lv_iload_n hx hb dX2_filterLine_442 rfl (lv_at hl 13 rfl) ?_
                        refine lv_iload_n hx hb dX2_filterLine_443 rfl (lv_at hl 14 rfl) ?_
                        refine lv_iadd hx hb dX2_filterLine_444 ?_
                        obtain ⟨x56, ex56, hF⟩ := ltt_some hF
                        refine lv_topi (fun zx56 ezx56 => ?_)
                        obtain rfl : x56 = zx56 := ex56.trans ezx56.symm
                        refine lv_iload hx hb dX2_filterLine_445 (lv_at hl 7 rfl) ?_
                        refine lv_iload hx hb dX2_filterLine_447 (lv_at hl 0 rfl) ?_
                        refine lv_iload hx hb dX2_filterLine_449 (lv_at hl 4 rfl) ?_
                        refine lv_ineg hx hb dX2_filterLine_451 ?_
                        obtain ⟨x57, ex57, hF⟩ := ltt_some hF
                        refine lv_topi (fun zx57 ezx57 => ?_)
                        obtain rfl : x57 = zx57 := ex57.trans ezx57.symm
                        obtain ⟨y58, hy58, hF⟩ := bnd_some hF
                        have J58 : ∀ (H : Heap) (locs : List Loc) (ls : Array Slot), va_P D classes (wld ct ad G y39) H → va_D A (wld ct ad G y39) → va_S A s.heap H locs → lv_has ls 17 [(16, .int x55), (15, .int x38), (14, .int y35), (13, .int y27), (12, .int y26), (11, .int y23.1), (10, .int y22.1), (9, .int x9), (8, .int x7), (7, .int x6), (6, .int x3), (0, .ref (ad a)), (1, va_re ad p0), (2, .int p1), (3, .int p2), (4, .int p3), (5, .int p4)] → W p l e (headSpec wuX2_filterLine ({ frames := 1, cells := 0, slots := 0, locals := 29 })).room s m ([.ref (ad a), va_re ad p0, .int p1, .int p2, .int p3, .int p4] : List Value).toArray below meth c H locs 0 0 (MQ below (va_Qv (fun (_ : Unit) => True) (fun _ t => kE D ct ad G A y t) A) ([.ref (ad a), va_re ad p0, .int p1, .int p2, .int p3, .int p4] : List Value).toArray s 0 0 A) (F0 m 475 ls [.int y58, .int x9, .int x56, va_re ad p0]) := by
                          intro H locs ls hP hD hS hl
                          refine lv_iadd hx hb dX2_filterLine_475 ?_
                          obtain ⟨x59, ex59, hF⟩ := ltt_some hF
                          refine lv_topi (fun zx59 ezx59 => ?_)
                          obtain rfl : x59 = zx59 := ex59.trans ezx59.symm
                          refine W_st (st' := [.int x59, .int x56, .ref (ad b2)]) (by rw [va_some ho2]) ?_
                          obtain ⟨hvc, hF⟩ := chk_some hF
                          refine va_iast hx hb hK hP hD hS b2 1 (wld_i ct ad G y39 hc2 hk2) rfl hvc dX2_filterLine_476 (fun H locs hP hD hS => ?_)
                          obtain ⟨M60, eM60, hF⟩ := ltt_some hF
                          rw [set_i ct ad G y39 hc2 hk2, ← eM60] at hP hD
                          obtain rfl := Option.some.inj hF
                          exact J40 _ _ _ hP hD hS (lv_sub hl [1, 2, 3, 4, 5, 6, 7, 8, 9, 10, 11, 12, 13, 14, 15, 16] rfl)
                        clear hF
                        have hF := hy58
                        clear hy58
                        refine lv_icmp_ge (tgt := 461) hx hb dX2_filterLine_452 (by decide) (fun c61 => ?_) (fun c61 => ?_)
                        · rw [if_pos c61] at hF
                          refine lv_iload hx hb dX2_filterLine_461 (lv_at hl 0 rfl) ?_
                          refine lv_iload hx hb dX2_filterLine_463 (lv_at hl 4 rfl) ?_
                          obtain ⟨y62, hy62, hF⟩ := bnd_some hF
                          have J62 : ∀ (H : Heap) (locs : List Loc) (ls : Array Slot), va_P D classes (wld ct ad G y39) H → va_D A (wld ct ad G y39) → va_S A s.heap H locs → lv_has ls 17 [(16, .int x55), (15, .int x38), (14, .int y35), (13, .int y27), (12, .int y26), (11, .int y23.1), (10, .int y22.1), (9, .int x9), (8, .int x7), (7, .int x6), (6, .int x3), (0, .ref (ad a)), (1, va_re ad p0), (2, .int p1), (3, .int p2), (4, .int p3), (5, .int p4)] → W p l e (headSpec wuX2_filterLine ({ frames := 1, cells := 0, slots := 0, locals := 29 })).room s m ([.ref (ad a), va_re ad p0, .int p1, .int p2, .int p3, .int p4] : List Value).toArray below meth c H locs 0 0 (MQ below (va_Qv (fun (_ : Unit) => True) (fun _ t => kE D ct ad G A y t) A) ([.ref (ad a), va_re ad p0, .int p1, .int p2, .int p3, .int p4] : List Value).toArray s 0 0 A) (F0 m 475 ls [.int y62, .int x9, .int x56, va_re ad p0]) := by
                            intro H locs ls hP hD hS hl
                            obtain rfl := Option.some.inj hF
                            exact J58 _ _ _ hP hD hS (lv_sub hl [0, 1, 2, 3, 4, 5, 6, 7, 8, 9, 10, 11, 12, 13, 14, 15, 16] rfl)
                          clear hF
                          have hF := hy62
                          clear hy62
                          refine lv_icmp_le (tgt := 473) hx hb dX2_filterLine_465 (by decide) (fun c63 => ?_) (fun c63 => ?_)
                          · rw [if_pos c63] at hF
                            refine lv_iload hx hb dX2_filterLine_473 (lv_at hl 0 rfl) ?_
                            obtain rfl := Option.some.inj hF
                            exact J62 _ _ _ hP hD hS (lv_sub hl [0, 1, 2, 3, 4, 5, 6, 7, 8, 9, 10, 11, 12, 13, 14, 15, 16] rfl)
                          · rw [if_neg c63] at hF
                            refine lv_iload hx hb dX2_filterLine_468 (lv_at hl 4 rfl) ?_
                            refine lv_goto (tgt := 475) hx hb dX2_filterLine_470 (by decide) ?_
                            obtain rfl := Option.some.inj hF
                            exact J62 _ _ _ hP hD hS (lv_sub hl [0, 1, 2, 3, 4, 5, 6, 7, 8, 9, 10, 11, 12, 13, 14, 15, 16] rfl)
                        · rw [if_neg c61] at hF
                          refine lv_iload hx hb dX2_filterLine_455 (lv_at hl 4 rfl) ?_
                          refine lv_ineg hx hb dX2_filterLine_457 ?_
                          obtain ⟨x64, ex64, hF⟩ := ltt_some hF
                          refine lv_topi (fun zx64 ezx64 => ?_)
                          obtain rfl : x64 = zx64 := ex64.trans ezx64.symm
                          refine lv_goto (tgt := 475) hx hb dX2_filterLine_458 (by decide) ?_
                          obtain rfl := Option.some.inj hF
                          exact J58 _ _ _ hP hD hS (lv_sub hl [0, 1, 2, 3, 4, 5, 6, 7, 8, 9, 10, 11, 12, 13, 14, 15, 16] rfl)
                    clear hF
                    have hF := hy39
                    clear hy39
                    refine lv_if_eq (tgt := 417) hx hb dX2_filterLine_357 (by decide) (fun c65 => ?_) (fun c65 => ?_)
                    · rw [if_pos c65] at hF
                      obtain rfl := Option.some.inj hF
                      exact J39 _ _ _ hP hD hS (lv_sub hl [0, 1, 2, 3, 4, 5, 6, 7, 8, 9, 10, 11, 12, 13, 14, 15] rfl)
                    · rw [if_neg c65] at hF
                      refine lv_aloadq_n hx hb dX2_filterLine_360 rfl (lv_at hl 11 rfl) ?_
                      refine lv_iload_n hx hb dX2_filterLine_361 rfl (lv_at hl 12 rfl) ?_
                      refine lv_iconst (v := (3 : Int32)) hx hb dX2_filterLine_362 (by decide) ?_
                      refine lv_iload_n hx hb dX2_filterLine_363 rfl (lv_at hl 13 rfl) ?_
                      refine lv_imul hx hb dX2_filterLine_364 ?_
                      obtain ⟨x66, ex66, hF⟩ := ltt_some hF
                      refine lv_topi (fun zx66 ezx66 => ?_)
                      obtain rfl : x66 = zx66 := ex66.trans ezx66.symm
                      refine lv_isub hx hb dX2_filterLine_365 ?_
                      obtain ⟨x67, ex67, hF⟩ := ltt_some hF
                      refine lv_topi (fun zx67 ezx67 => ?_)
                      obtain rfl : x67 = zx67 := ex67.trans ezx67.symm
                      refine W_st (st' := [.int x67, .ref (ad b2)]) (by rw [va_some ho2]) ?_
                      obtain ⟨hvc, hF⟩ := chk_some hF
                      refine va_iald hx hb hK hP b2 1 (wld_i ct ad G y23.2 hc2 hk2) rfl hvc dX2_filterLine_366 ?_
                      obtain ⟨x68, ex68, hF⟩ := ltt_some hF
                      refine lv_topi (fun zx68 ezx68 => ?_)
                      obtain rfl : x68 = zx68 := ex68.trans ezx68.symm
                      refine lv_iload hx hb dX2_filterLine_367 (lv_at hl 0 rfl) ?_
                      refine lv_iadd hx hb dX2_filterLine_369 ?_
                      obtain ⟨x69, ex69, hF⟩ := ltt_some hF
                      refine lv_topi (fun zx69 ezx69 => ?_)
                      obtain rfl : x69 = zx69 := ex69.trans ezx69.symm
                      refine lv_iconst (v := (2 : Int32)) hx hb dX2_filterLine_370 (by decide) ?_
                      refine lv_iload hx hb dX2_filterLine_371 (lv_at hl 8 rfl) ?_
                      refine lv_imul hx hb dX2_filterLine_373 ?_
                      obtain ⟨x70, ex70, hF⟩ := ltt_some hF
                      refine lv_topi (fun zx70 ezx70 => ?_)
                      obtain rfl : x70 = zx70 := ex70.trans ezx70.symm
                      refine lv_isub hx hb dX2_filterLine_374 ?_
                      obtain ⟨x71, ex71, hF⟩ := ltt_some hF
                      refine lv_topi (fun zx71 ezx71 => ?_)
                      obtain rfl : x71 = zx71 := ex71.trans ezx71.symm
                      refine lv_iconst (v := (1 : Int32)) hx hb dX2_filterLine_375 (by decide) ?_
                      refine lv_ishr hx hb dX2_filterLine_376 ?_
                      obtain ⟨x72, ex72, hF⟩ := ltt_some hF
                      refine lv_topi (fun zx72 ezx72 => ?_)
                      obtain rfl : x72 = zx72 := ex72.trans ezx72.symm
                      refine lv_istore (lv' := [(16, .int x72), (15, .int x38), (14, .int y35), (13, .int y27), (12, .int y26), (11, .int y23.1), (10, .int y22.1), (9, .int x9), (8, .int x7), (7, .int x6), (6, .int x3), (0, .ref (ad a)), (1, va_re ad p0), (2, .int p1), (3, .int p2), (4, .int p3), (5, .int p4)]) hx hb dX2_filterLine_377 hl (by decide) rfl (fun ls hl => ?_)
                      refine lv_aloadq_n hx hb dX2_filterLine_379 rfl (lv_at hl 12 rfl) ?_
                      refine lv_iload_n hx hb dX2_filterLine_380 rfl (lv_at hl 13 rfl) ?_
                      refine lv_iconst (v := (2 : Int32)) hx hb dX2_filterLine_381 (by decide) ?_
                      refine lv_iload_n hx hb dX2_filterLine_382 rfl (lv_at hl 14 rfl) ?_
                      refine lv_imul hx hb dX2_filterLine_383 ?_
                      obtain ⟨x73, ex73, hF⟩ := ltt_some hF
                      refine lv_topi (fun zx73 ezx73 => ?_)
                      obtain rfl : x73 = zx73 := ex73.trans ezx73.symm
                      refine lv_isub hx hb dX2_filterLine_384 ?_
                      obtain ⟨x74, ex74, hF⟩ := ltt_some hF
                      refine lv_topi (fun zx74 ezx74 => ?_)
                      obtain rfl : x74 = zx74 := ex74.trans ezx74.symm
                      refine lv_iload hx hb dX2_filterLine_385 (lv_at hl 9 rfl) ?_
                      refine lv_iload hx hb dX2_filterLine_387 (lv_at hl 0 rfl) ?_
                      refine lv_iload hx hb dX2_filterLine_389 (lv_at hl 4 rfl) ?_
                      refine lv_ineg hx hb dX2_filterLine_391 ?_
                      obtain ⟨x75, ex75, hF⟩ := ltt_some hF
                      refine lv_topi (fun zx75 ezx75 => ?_)
                      obtain rfl : x75 = zx75 := ex75.trans ezx75.symm
                      obtain ⟨y76, hy76, hF⟩ := bnd_some hF
                      have J76 : ∀ (H : Heap) (locs : List Loc) (ls : Array Slot), va_P D classes (wld ct ad G y23.2) H → va_D A (wld ct ad G y23.2) → va_S A s.heap H locs → lv_has ls 17 [(16, .int x72), (15, .int x38), (14, .int y35), (13, .int y27), (12, .int y26), (11, .int y23.1), (10, .int y22.1), (9, .int x9), (8, .int x7), (7, .int x6), (6, .int x3), (0, .ref (ad a)), (1, va_re ad p0), (2, .int p1), (3, .int p2), (4, .int p3), (5, .int p4)] → W p l e (headSpec wuX2_filterLine ({ frames := 1, cells := 0, slots := 0, locals := 29 })).room s m ([.ref (ad a), va_re ad p0, .int p1, .int p2, .int p3, .int p4] : List Value).toArray below meth c H locs 0 0 (MQ below (va_Qv (fun (_ : Unit) => True) (fun _ t => kE D ct ad G A y t) A) ([.ref (ad a), va_re ad p0, .int p1, .int p2, .int p3, .int p4] : List Value).toArray s 0 0 A) (F0 m 415 ls [.int y76, .int x6, .int x74, va_re ad p0]) := by
                        intro H locs ls hP hD hS hl
                        refine lv_iadd hx hb dX2_filterLine_415 ?_
                        obtain ⟨x77, ex77, hF⟩ := ltt_some hF
                        refine lv_topi (fun zx77 ezx77 => ?_)
                        obtain rfl : x77 = zx77 := ex77.trans ezx77.symm
                        refine W_st (st' := [.int x77, .int x74, .ref (ad b2)]) (by rw [va_some ho2]) ?_
                        obtain ⟨hvc, hF⟩ := chk_some hF
                        refine va_iast hx hb hK hP hD hS b2 1 (wld_i ct ad G y23.2 hc2 hk2) rfl hvc dX2_filterLine_416 (fun H locs hP hD hS => ?_)
                        obtain ⟨M78, eM78, hF⟩ := ltt_some hF
                        rw [set_i ct ad G y23.2 hc2 hk2, ← eM78] at hP hD
                        obtain rfl := Option.some.inj hF
                        exact J39 _ _ _ hP hD hS (lv_sub hl [1, 2, 3, 4, 5, 6, 7, 8, 9, 10, 11, 12, 13, 14, 15, 16] rfl)
                      clear hF
                      have hF := hy76
                      clear hy76
                      refine lv_icmp_ge (tgt := 401) hx hb dX2_filterLine_392 (by decide) (fun c79 => ?_) (fun c79 => ?_)
                      · rw [if_pos c79] at hF
                        refine lv_iload hx hb dX2_filterLine_401 (lv_at hl 0 rfl) ?_
                        refine lv_iload hx hb dX2_filterLine_403 (lv_at hl 4 rfl) ?_
                        obtain ⟨y80, hy80, hF⟩ := bnd_some hF
                        have J80 : ∀ (H : Heap) (locs : List Loc) (ls : Array Slot), va_P D classes (wld ct ad G y23.2) H → va_D A (wld ct ad G y23.2) → va_S A s.heap H locs → lv_has ls 17 [(16, .int x72), (15, .int x38), (14, .int y35), (13, .int y27), (12, .int y26), (11, .int y23.1), (10, .int y22.1), (9, .int x9), (8, .int x7), (7, .int x6), (6, .int x3), (0, .ref (ad a)), (1, va_re ad p0), (2, .int p1), (3, .int p2), (4, .int p3), (5, .int p4)] → W p l e (headSpec wuX2_filterLine ({ frames := 1, cells := 0, slots := 0, locals := 29 })).room s m ([.ref (ad a), va_re ad p0, .int p1, .int p2, .int p3, .int p4] : List Value).toArray below meth c H locs 0 0 (MQ below (va_Qv (fun (_ : Unit) => True) (fun _ t => kE D ct ad G A y t) A) ([.ref (ad a), va_re ad p0, .int p1, .int p2, .int p3, .int p4] : List Value).toArray s 0 0 A) (F0 m 415 ls [.int y80, .int x6, .int x74, va_re ad p0]) := by
                          intro H locs ls hP hD hS hl
                          obtain rfl := Option.some.inj hF
                          exact J76 _ _ _ hP hD hS (lv_sub hl [0, 1, 2, 3, 4, 5, 6, 7, 8, 9, 10, 11, 12, 13, 14, 15, 16] rfl)
                        clear hF
                        have hF := hy80
                        clear hy80
                        refine lv_icmp_le (tgt := 413) hx hb dX2_filterLine_405 (by decide) (fun c81 => ?_) (fun c81 => ?_)
                        · rw [if_pos c81] at hF
                          refine lv_iload hx hb dX2_filterLine_413 (lv_at hl 0 rfl) ?_
                          obtain rfl := Option.some.inj hF
                          exact J80 _ _ _ hP hD hS (lv_sub hl [0, 1, 2, 3, 4, 5, 6, 7, 8, 9, 10, 11, 12, 13, 14, 15, 16] rfl)
                        · rw [if_neg c81] at hF
                          refine lv_iload hx hb dX2_filterLine_408 (lv_at hl 4 rfl) ?_
                          refine lv_goto (tgt := 415) hx hb dX2_filterLine_410 (by decide) ?_
                          obtain rfl := Option.some.inj hF
                          exact J80 _ _ _ hP hD hS (lv_sub hl [0, 1, 2, 3, 4, 5, 6, 7, 8, 9, 10, 11, 12, 13, 14, 15, 16] rfl)
                      · rw [if_neg c79] at hF
                        refine lv_iload hx hb dX2_filterLine_395 (lv_at hl 4 rfl) ?_
                        refine lv_ineg hx hb dX2_filterLine_397 ?_
                        obtain ⟨x82, ex82, hF⟩ := ltt_some hF
                        refine lv_topi (fun zx82 ezx82 => ?_)
                        obtain rfl : x82 = zx82 := ex82.trans ezx82.symm
                        refine lv_goto (tgt := 415) hx hb dX2_filterLine_398 (by decide) ?_
                        obtain rfl := Option.some.inj hF
                        exact J76 _ _ _ hP hD hS (lv_sub hl [0, 1, 2, 3, 4, 5, 6, 7, 8, 9, 10, 11, 12, 13, 14, 15, 16] rfl)
                  clear hF
                  have hF := hy35
                  clear hy35
                  refine lv_icmp_ge (tgt := 328) hx hb dX2_filterLine_319 (by decide) (fun c83 => ?_) (fun c83 => ?_)
                  · rw [if_pos c83] at hF
                    refine lv_iload hx hb dX2_filterLine_328 (lv_at hl 0 rfl) ?_
                    refine lv_iload hx hb dX2_filterLine_330 (lv_at hl 1 rfl) ?_
                    obtain ⟨y84, hy84, hF⟩ := bnd_some hF
                    have J84 : ∀ (H : Heap) (locs : List Loc) (ls : Array Slot), va_P D classes (wld ct ad G y23.2) H → va_D A (wld ct ad G y23.2) → va_S A s.heap H locs → lv_has ls 17 [(14, .int x33), (13, .int y27), (12, .int y26), (11, .int y23.1), (10, .int y22.1), (9, .int x9), (8, .int x7), (7, .int x6), (6, .int x3), (0, .ref (ad a)), (1, va_re ad p0), (2, .int p1), (3, .int p2), (4, .int p3), (5, .int p4)] → W p l e (headSpec wuX2_filterLine ({ frames := 1, cells := 0, slots := 0, locals := 29 })).room s m ([.ref (ad a), va_re ad p0, .int p1, .int p2, .int p3, .int p4] : List Value).toArray below meth c H locs 0 0 (MQ below (va_Qv (fun (_ : Unit) => True) (fun _ t => kE D ct ad G A y t) A) ([.ref (ad a), va_re ad p0, .int p1, .int p2, .int p3, .int p4] : List Value).toArray s 0 0 A) (F0 m 342 ls [.int y84]) := by
                      intro H locs ls hP hD hS hl
                      obtain rfl := Option.some.inj hF
                      exact J35 _ _ _ hP hD hS (lv_sub hl [0, 1, 2, 3, 4, 5, 6, 7, 8, 9, 10, 11, 12, 13, 14] rfl)
                    clear hF
                    have hF := hy84
                    clear hy84
                    refine lv_icmp_le (tgt := 340) hx hb dX2_filterLine_332 (by decide) (fun c85 => ?_) (fun c85 => ?_)
                    · rw [if_pos c85] at hF
                      refine lv_iload hx hb dX2_filterLine_340 (lv_at hl 0 rfl) ?_
                      obtain rfl := Option.some.inj hF
                      exact J84 _ _ _ hP hD hS (lv_sub hl [0, 1, 2, 3, 4, 5, 6, 7, 8, 9, 10, 11, 12, 13, 14] rfl)
                    · rw [if_neg c85] at hF
                      refine lv_iload hx hb dX2_filterLine_335 (lv_at hl 1 rfl) ?_
                      refine lv_goto (tgt := 342) hx hb dX2_filterLine_337 (by decide) ?_
                      obtain rfl := Option.some.inj hF
                      exact J84 _ _ _ hP hD hS (lv_sub hl [0, 1, 2, 3, 4, 5, 6, 7, 8, 9, 10, 11, 12, 13, 14] rfl)
                  · rw [if_neg c83] at hF
                    refine lv_iload hx hb dX2_filterLine_322 (lv_at hl 1 rfl) ?_
                    refine lv_ineg hx hb dX2_filterLine_324 ?_
                    obtain ⟨x86, ex86, hF⟩ := ltt_some hF
                    refine lv_topi (fun zx86 ezx86 => ?_)
                    obtain rfl : x86 = zx86 := ex86.trans ezx86.symm
                    refine lv_goto (tgt := 342) hx hb dX2_filterLine_325 (by decide) ?_
                    obtain rfl := Option.some.inj hF
                    exact J35 _ _ _ hP hD hS (lv_sub hl [0, 1, 2, 3, 4, 5, 6, 7, 8, 9, 10, 11, 12, 13, 14] rfl)
                clear hF
                have hF := hy27
                clear hy27
                refine lv_if_eq (tgt := 289) hx hb dX2_filterLine_259 (by decide) (fun c87 => ?_) (fun c87 => ?_)
                · rw [if_pos c87] at hF
                  refine lv_iload hx hb dX2_filterLine_289 (lv_at hl 0 rfl) ?_
                  refine lv_iconst (v := (1 : Int32)) hx hb dX2_filterLine_291 (by decide) ?_
                  refine lv_iadd hx hb dX2_filterLine_292 ?_
                  obtain ⟨x88, ex88, hF⟩ := ltt_some hF
                  refine lv_topi (fun zx88 ezx88 => ?_)
                  obtain rfl : x88 = zx88 := ex88.trans ezx88.symm
                  obtain rfl := Option.some.inj hF
                  exact J27 _ _ _ hP hD hS (lv_sub hl [0, 1, 2, 3, 4, 5, 6, 7, 8, 9, 10, 11, 12] rfl)
                · rw [if_neg c87] at hF
                  refine lv_iload hx hb dX2_filterLine_262 (lv_at hl 0 rfl) ?_
                  refine lv_iload hx hb dX2_filterLine_264 (lv_at hl 2 rfl) ?_
                  obtain ⟨y89, hy89, hF⟩ := bnd_some hF
                  have J89 : ∀ (H : Heap) (locs : List Loc) (ls : Array Slot), va_P D classes (wld ct ad G y23.2) H → va_D A (wld ct ad G y23.2) → va_S A s.heap H locs → lv_has ls 17 [(12, .int y26), (11, .int y23.1), (10, .int y22.1), (9, .int x9), (8, .int x7), (7, .int x6), (6, .int x3), (0, .ref (ad a)), (1, va_re ad p0), (2, .int p1), (3, .int p2), (4, .int p3), (5, .int p4)] → W p l e (headSpec wuX2_filterLine ({ frames := 1, cells := 0, slots := 0, locals := 29 })).room s m ([.ref (ad a), va_re ad p0, .int p1, .int p2, .int p3, .int p4] : List Value).toArray below meth c H locs 0 0 (MQ below (va_Qv (fun (_ : Unit) => True) (fun _ t => kE D ct ad G A y t) A) ([.ref (ad a), va_re ad p0, .int p1, .int p2, .int p3, .int p4] : List Value).toArray s 0 0 A) (F0 m 274 ls [.int y89, .int y26]) := by
                    intro H locs ls hP hD hS hl
                    refine lv_iadd hx hb dX2_filterLine_274 ?_
                    obtain ⟨x90, ex90, hF⟩ := ltt_some hF
                    refine lv_topi (fun zx90 ezx90 => ?_)
                    obtain rfl : x90 = zx90 := ex90.trans ezx90.symm
                    refine lv_iload hx hb dX2_filterLine_275 (lv_at hl 1 rfl) ?_
                    obtain ⟨y91, hy91, hF⟩ := bnd_some hF
                    have J91 : ∀ (H : Heap) (locs : List Loc) (ls : Array Slot), va_P D classes (wld ct ad G y23.2) H → va_D A (wld ct ad G y23.2) → va_S A s.heap H locs → lv_has ls 17 [(12, .int y26), (11, .int y23.1), (10, .int y22.1), (9, .int x9), (8, .int x7), (7, .int x6), (6, .int x3), (0, .ref (ad a)), (1, va_re ad p0), (2, .int p1), (3, .int p2), (4, .int p3), (5, .int p4)] → W p l e (headSpec wuX2_filterLine ({ frames := 1, cells := 0, slots := 0, locals := 29 })).room s m ([.ref (ad a), va_re ad p0, .int p1, .int p2, .int p3, .int p4] : List Value).toArray below meth c H locs 0 0 (MQ below (va_Qv (fun (_ : Unit) => True) (fun _ t => kE D ct ad G A y t) A) ([.ref (ad a), va_re ad p0, .int p1, .int p2, .int p3, .int p4] : List Value).toArray s 0 0 A) (F0 m 285 ls [.int y91, .int x90]) := by
                      intro H locs ls hP hD hS hl
                      refine lv_iadd hx hb dX2_filterLine_285 ?_
                      obtain ⟨x92, ex92, hF⟩ := ltt_some hF
                      refine lv_topi (fun zx92 ezx92 => ?_)
                      obtain rfl : x92 = zx92 := ex92.trans ezx92.symm
                      refine lv_goto (tgt := 293) hx hb dX2_filterLine_286 (by decide) ?_
                      obtain rfl := Option.some.inj hF
                      exact J27 _ _ _ hP hD hS (lv_sub hl [0, 1, 2, 3, 4, 5, 6, 7, 8, 9, 10, 11, 12] rfl)
                    clear hF
                    have hF := hy91
                    clear hy91
                    refine lv_if_eq (tgt := 284) hx hb dX2_filterLine_277 (by decide) (fun c93 => ?_) (fun c93 => ?_)
                    · rw [if_pos c93] at hF
                      refine lv_iconst (v := (0 : Int32)) hx hb dX2_filterLine_284 (by decide) ?_
                      obtain rfl := Option.some.inj hF
                      exact J91 _ _ _ hP hD hS (lv_sub hl [0, 1, 2, 3, 4, 5, 6, 7, 8, 9, 10, 11, 12] rfl)
                    · rw [if_neg c93] at hF
                      refine lv_iconst (v := (1 : Int32)) hx hb dX2_filterLine_280 (by decide) ?_
                      refine lv_goto (tgt := 285) hx hb dX2_filterLine_281 (by decide) ?_
                      obtain rfl := Option.some.inj hF
                      exact J91 _ _ _ hP hD hS (lv_sub hl [0, 1, 2, 3, 4, 5, 6, 7, 8, 9, 10, 11, 12] rfl)
                  clear hF
                  have hF := hy89
                  clear hy89
                  refine lv_if_eq (tgt := 273) hx hb dX2_filterLine_266 (by decide) (fun c94 => ?_) (fun c94 => ?_)
                  · rw [if_pos c94] at hF
                    refine lv_iconst (v := (0 : Int32)) hx hb dX2_filterLine_273 (by decide) ?_
                    obtain rfl := Option.some.inj hF
                    exact J89 _ _ _ hP hD hS (lv_sub hl [0, 1, 2, 3, 4, 5, 6, 7, 8, 9, 10, 11, 12] rfl)
                  · rw [if_neg c94] at hF
                    refine lv_iconst (v := (1 : Int32)) hx hb dX2_filterLine_269 (by decide) ?_
                    refine lv_goto (tgt := 274) hx hb dX2_filterLine_270 (by decide) ?_
                    obtain rfl := Option.some.inj hF
                    exact J89 _ _ _ hP hD hS (lv_sub hl [0, 1, 2, 3, 4, 5, 6, 7, 8, 9, 10, 11, 12] rfl)
              clear hF
              have hF := hy26
              clear hy26
              refine lv_icmp_ge (tgt := 237) hx hb dX2_filterLine_230 (by decide) (fun c95 => ?_) (fun c95 => ?_)
              · rw [if_pos c95] at hF
                refine va_gets hx hb (hZ.1 5 (by decide)).1 hS hown (hts (.fieldLink RX2 140 "VideoSuite$Edges" "SOFT" "[I") (mu mw_995)) (fun _ h => h) dX2_filterLine_237 ?_
                refine lv_iconst (v := (3 : Int32)) hx hb dX2_filterLine_240 (by decide) ?_
                refine lv_aload_n hx hb dX2_filterLine_241 rfl (lv_at hl 6 rfl) ?_
                refine va_get (D := D) (ci := 2) (v := .int (y23.2.1 a 4)) (C := RX2) (T := TX2) (N := 7) hx hb hts (mus hf_X2) hown hK hP a (wld_o ct ad G y23.2 hc hk (by decide)) rfl 4 (by decide) (hts (.fieldLink RX2 116 "VideoSuite$Edges" "indexA" "I") (mu mw_590)) (fun _ h9 => h9) rfl dX2_filterLine_242 ?_
                obtain ⟨x96, ex96, hF⟩ := ltt_some hF
                refine lv_topi (fun zx96 ezx96 => ?_)
                obtain rfl : x96 = zx96 := ex96.trans ezx96.symm
                refine lv_bipush (v := (17 : Int32)) hx hb dX2_filterLine_245 (by decide) ?_
                refine lv_isub hx hb dX2_filterLine_247 ?_
                obtain ⟨x97, ex97, hF⟩ := ltt_some hF
                refine lv_topi (fun zx97 ezx97 => ?_)
                obtain rfl : x97 = zx97 := ex97.trans ezx97.symm
                refine lv_imul hx hb dX2_filterLine_248 ?_
                obtain ⟨x98, ex98, hF⟩ := ltt_some hF
                refine lv_topi (fun zx98 ezx98 => ?_)
                obtain rfl : x98 = zx98 := ex98.trans ezx98.symm
                refine lv_iload hx hb dX2_filterLine_249 (lv_at hl 10 rfl) ?_
                refine lv_iadd hx hb dX2_filterLine_251 ?_
                obtain ⟨x99, ex99, hF⟩ := ltt_some hF
                refine lv_topi (fun zx99 ezx99 => ?_)
                obtain rfl : x99 = zx99 := ex99.trans ezx99.symm
                refine lv_iconst (v := (1 : Int32)) hx hb dX2_filterLine_252 (by decide) ?_
                refine lv_isub hx hb dX2_filterLine_253 ?_
                obtain ⟨x100, ex100, hF⟩ := ltt_some hF
                refine lv_topi (fun zx100 ezx100 => ?_)
                obtain rfl : x100 = zx100 := ex100.trans ezx100.symm
                obtain ⟨hvc, hF⟩ := chk_some hF
                refine va_ti (v := .int ((sT 5).getD x100.toNatClampNeg 0)) hx hb (hZ.1 5 (by decide)).2 hS hvc rfl dX2_filterLine_254 ?_
                obtain ⟨x101, ex101, hF⟩ := ltt_some hF
                refine lv_topi (fun zx101 ezx101 => ?_)
                obtain rfl : x101 = zx101 := ex101.trans ezx101.symm
                obtain rfl := Option.some.inj hF
                exact J26 _ _ _ hP hD hS (lv_sub hl [0, 1, 2, 3, 4, 5, 6, 7, 8, 9, 10, 11] rfl)
              · rw [if_neg c95] at hF
                refine lv_iconst (v := (0 : Int32)) hx hb dX2_filterLine_233 (by decide) ?_
                refine lv_goto (tgt := 255) hx hb dX2_filterLine_234 (by decide) ?_
                obtain rfl := Option.some.inj hF
                exact J26 _ _ _ hP hD hS (lv_sub hl [0, 1, 2, 3, 4, 5, 6, 7, 8, 9, 10, 11] rfl)
            · rw [if_pos c24] at hF
              refine lv_iload hx hb dX2_filterLine_144 (lv_at hl 5 rfl) ?_
              refine lv_iload hx hb dX2_filterLine_146 (lv_at hl 3 rfl) ?_
              refine lv_isub hx hb dX2_filterLine_148 ?_
              obtain ⟨x102, ex102, hF⟩ := ltt_some hF
              refine lv_topi (fun zx102 ezx102 => ?_)
              obtain rfl : x102 = zx102 := ex102.trans ezx102.symm
              refine va_mabs hx hb (hml.trans hl.1.symm) hown (hts (.methodLink RX2 131 Lib.Math.abs.name) (mu mw_989)) (hts (.static Lib.Math.abs.name) (mu mw_990)) (hts (.initialized "java/lang/Math") (mu mw_183)) (hts (.code Lib.Math.abs.name Lib.Math.abs.code 1 (some .int)) (mu mw_991)) (Nat.le_of_ble_eq_true rfl) (Nat.le_of_ble_eq_true rfl) (Nat.zero_le _) (Nat.zero_le _) dX2_filterLine_149 ?_
              obtain ⟨x103, ex103, hF⟩ := ltt_some hF
              refine lv_topi (fun zx103 ezx103 => ?_)
              obtain rfl : x103 = zx103 := ex103.trans ezx103.symm
              refine lv_aload_n hx hb dX2_filterLine_152 rfl (lv_at hl 6 rfl) ?_
              refine va_get (D := D) (ci := 2) (v := .int (y23.2.1 a 2)) (C := RX2) (T := TX2) (N := 7) hx hb hts (mus hf_X2) hown hK hP a (wld_o ct ad G y23.2 hc hk (by decide)) rfl 2 (by decide) (hts (.fieldLink RX2 122 "VideoSuite$Edges" "alpha" "I") (mu mw_588)) (fun _ h9 => h9) rfl dX2_filterLine_153 ?_
              obtain ⟨x104, ex104, hF⟩ := ltt_some hF
              refine lv_topi (fun zx104 ezx104 => ?_)
              obtain rfl : x104 = zx104 := ex104.trans ezx104.symm
              refine lv_iconst (v := (2 : Int32)) hx hb dX2_filterLine_156 (by decide) ?_
              refine lv_ishr hx hb dX2_filterLine_157 ?_
              obtain ⟨x105, ex105, hF⟩ := ltt_some hF
              refine lv_topi (fun zx105 ezx105 => ?_)
              obtain rfl : x105 = zx105 := ex105.trans ezx105.symm
              refine lv_iconst (v := (2 : Int32)) hx hb dX2_filterLine_158 (by decide) ?_
              refine lv_iadd hx hb dX2_filterLine_159 ?_
              obtain ⟨x106, ex106, hF⟩ := ltt_some hF
              refine lv_topi (fun zx106 ezx106 => ?_)
              obtain rfl : x106 = zx106 := ex106.trans ezx106.symm
              obtain ⟨y107, hy107, hF⟩ := bnd_some hF
              have J107 : ∀ (H : Heap) (locs : List Loc) (ls : Array Slot), va_P D classes (wld ct ad G y23.2) H → va_D A (wld ct ad G y23.2) → va_S A s.heap H locs → lv_has ls 17 [(11, .int y23.1), (10, .int y22.1), (9, .int x9), (8, .int x7), (7, .int x6), (6, .int x3), (0, .ref (ad a)), (1, va_re ad p0), (2, .int p1), (3, .int p2), (4, .int p3), (5, .int p4)] → W p l e (headSpec wuX2_filterLine ({ frames := 1, cells := 0, slots := 0, locals := 29 })).room s m ([.ref (ad a), va_re ad p0, .int p1, .int p2, .int p3, .int p4] : List Value).toArray below meth c H locs 0 0 (MQ below (va_Qv (fun (_ : Unit) => True) (fun _ t => kE D ct ad G A y t) A) ([.ref (ad a), va_re ad p0, .int p1, .int p2, .int p3, .int p4] : List Value).toArray s 0 0 A) (F0 m 168 ls [.int y107]) := by
                intro H locs ls hP hD hS hl
                refine lv_istore (lv' := [(12, .int y107), (11, .int y23.1), (10, .int y22.1), (9, .int x9), (8, .int x7), (7, .int x6), (6, .int x3), (0, .ref (ad a)), (1, va_re ad p0), (2, .int p1), (3, .int p2), (4, .int p3), (5, .int p4)]) hx hb dX2_filterLine_168 hl (by decide) rfl (fun ls hl => ?_)
                refine lv_aloadq_n hx hb dX2_filterLine_170 rfl (lv_at hl 8 rfl) ?_
                refine lv_iload_n hx hb dX2_filterLine_171 rfl (lv_at hl 9 rfl) ?_
                refine lv_iload_n hx hb dX2_filterLine_172 rfl (lv_at hl 10 rfl) ?_
                refine lv_isub hx hb dX2_filterLine_173 ?_
                obtain ⟨x108, ex108, hF⟩ := ltt_some hF
                refine lv_topi (fun zx108 ezx108 => ?_)
                obtain rfl : x108 = zx108 := ex108.trans ezx108.symm
                refine lv_iload_n hx hb dX2_filterLine_174 rfl (lv_at hl 10 rfl) ?_
                refine lv_ineg hx hb dX2_filterLine_175 ?_
                obtain ⟨x109, ex109, hF⟩ := ltt_some hF
                refine lv_topi (fun zx109 ezx109 => ?_)
                obtain rfl : x109 = zx109 := ex109.trans ezx109.symm
                refine lv_iload hx hb dX2_filterLine_176 (lv_at hl 2 rfl) ?_
                obtain ⟨y110, hy110, hF⟩ := bnd_some hF
                have J110 : ∀ (H : Heap) (locs : List Loc) (ls : Array Slot), va_P D classes (wld ct ad G y23.2) H → va_D A (wld ct ad G y23.2) → va_S A s.heap H locs → lv_has ls 17 [(12, .int y107), (11, .int y23.1), (10, .int y22.1), (9, .int x9), (8, .int x7), (7, .int x6), (6, .int x3), (0, .ref (ad a)), (1, va_re ad p0), (2, .int p1), (3, .int p2), (4, .int p3), (5, .int p4)] → W p l e (headSpec wuX2_filterLine ({ frames := 1, cells := 0, slots := 0, locals := 29 })).room s m ([.ref (ad a), va_re ad p0, .int p1, .int p2, .int p3, .int p4] : List Value).toArray below meth c H locs 0 0 (MQ below (va_Qv (fun (_ : Unit) => True) (fun _ t => kE D ct ad G A y t) A) ([.ref (ad a), va_re ad p0, .int p1, .int p2, .int p3, .int p4] : List Value).toArray s 0 0 A) (F0 m 191 ls [.int y110, .int x109, .int x108, va_re ad p0]) := by
                  intro H locs ls hP hD hS hl
                  refine lv_iload hx hb dX2_filterLine_191 (lv_at hl 4 rfl) ?_
                  refine lv_iload hx hb dX2_filterLine_193 (lv_at hl 3 rfl) ?_
                  obtain ⟨y111, hy111, hF⟩ := bnd_some hF
                  have hf9 := wA_in hD hA9 hS
                  refine va_callv (va_runS (As := [va_re ad p0, .int x108, .int x109, .int y110, .int x7, .int x9]) (rest := []) ⟨hx, hb, hml, hown, hts⟩ (kX2_smooth l D ct ad Z G y23.2 H.size p0 x108 x109 y110 x7 x9 y111 hy111) (va_cwS 6 hts gX2_filterLine_X2_smooth rfl rfl rfl (by decide +kernel) ⟨Nat.le_of_ble_eq_true rfl, Nat.le_of_ble_eq_true rfl⟩) ⟨fun a U g mk q => by obtain ⟨q0, q1, qP, qK, qD, qZ, qN⟩ := q; exact ⟨q0, q1, qP, va_K.moved (u := U) (U := U.calling g mk a) (Vm.Alike.refl U.vm) qK, qD, sF.moved (u := U) (U := U.calling g mk a) (Vm.Alike.refl U.vm) qZ, nF.same rfl qN⟩, fun U hU hW => ⟨rfl, by rw [hU], by rw [hU]; exact hP, va_K.moved hW.alike hK, hD.weaken (fun _ _ _ _ => trivial), by rw [hU]; exact ((hZ.kept hS.2.1).narrow hf9).moved hW.alike, hN.warm hW⟩⟩ rfl rfl hl.1 rfl (lv_room (Nat.le_of_ble_eq_true rfl)) dX2_filterLine_195 ⟨(Nat.zero_le _), (Nat.zero_le _)⟩) hS (fun q _ h => hf9 q h) hf9 (fun u t H locs ht hvm hw hB hz1 hk1 hS => ?_)
                  obtain ⟨hP, hK9, hD9⟩ := hB
                  rw [ht] at hP
                  have hD := hD9.weaken (fun _ q _ h => hf9 q.1 h)
                  refine lv_aloadq_n hx hb dX2_filterLine_198 rfl (lv_at hl 8 rfl) ?_
                  refine lv_iload_n hx hb dX2_filterLine_199 rfl (lv_at hl 9 rfl) ?_
                  refine lv_iload_n hx hb dX2_filterLine_200 rfl (lv_at hl 10 rfl) ?_
                  refine lv_iload hx hb dX2_filterLine_201 (lv_at hl 1 rfl) ?_
                  obtain ⟨y112, hy112, hF⟩ := bnd_some hF
                  have J112 : ∀ (H : Heap) (locs : List Loc) (ls : Array Slot), va_P D classes (wld ct ad G y111) H → va_D A (wld ct ad G y111) → va_S A s.heap H locs → lv_has ls 17 [(12, .int y107), (11, .int y23.1), (10, .int y22.1), (9, .int x9), (8, .int x7), (7, .int x6), (6, .int x3), (0, .ref (ad a)), (1, va_re ad p0), (2, .int p1), (3, .int p2), (4, .int p3), (5, .int p4)] → W p l e (headSpec wuX2_filterLine ({ frames := 1, cells := 0, slots := 0, locals := 29 })).room s m ([.ref (ad a), va_re ad p0, .int p1, .int p2, .int p3, .int p4] : List Value).toArray below meth c H locs 0 0 (MQ below (va_Qv (fun (_ : Unit) => True) (fun _ t => kE D ct ad G A y t) A) ([.ref (ad a), va_re ad p0, .int p1, .int p2, .int p3, .int p4] : List Value).toArray s 0 0 A) (F0 m 216 ls [.int y112, .int p2, .int p1, va_re ad p0]) := by
                    intro H locs ls hP hD hS hl
                    refine lv_iload hx hb dX2_filterLine_216 (lv_at hl 6 rfl) ?_
                    refine lv_iload hx hb dX2_filterLine_218 (lv_at hl 5 rfl) ?_
                    obtain ⟨y113, hy113, hF⟩ := bnd_some hF
                    have hf9 := wA_in hD hA9 hS
                    refine va_callv (va_runS (As := [va_re ad p0, .int p1, .int p2, .int y112, .int x3, .int x6]) (rest := []) ⟨hx, hb, hml, hown, hts⟩ (kX2_smooth l D ct ad Z G y111 H.size p0 p1 p2 y112 x3 x6 y113 hy113) (va_cwS 6 hts gX2_filterLine_X2_smooth rfl rfl rfl (by decide +kernel) ⟨Nat.le_of_ble_eq_true rfl, Nat.le_of_ble_eq_true rfl⟩) ⟨fun a U g mk q => by obtain ⟨q0, q1, qP, qK, qD, qZ, qN⟩ := q; exact ⟨q0, q1, qP, va_K.moved (u := U) (U := U.calling g mk a) (Vm.Alike.refl U.vm) qK, qD, sF.moved (u := U) (U := U.calling g mk a) (Vm.Alike.refl U.vm) qZ, nF.same rfl qN⟩, fun U hU hW => ⟨rfl, by rw [hU], by rw [hU]; exact hP, va_K.moved hW.alike hK, hD.weaken (fun _ _ _ _ => trivial), by rw [hU]; exact ((hZ.kept hS.2.1).narrow hf9).moved hW.alike, hN.warm hW⟩⟩ rfl rfl hl.1 rfl (lv_room (Nat.le_of_ble_eq_true rfl)) dX2_filterLine_220 ⟨(Nat.zero_le _), (Nat.zero_le _)⟩) hS (fun q _ h => hf9 q h) hf9 (fun u t H locs ht hvm hw hB hz1 hk1 hS => ?_)
                    obtain ⟨hP, hK9, hD9⟩ := hB
                    rw [ht] at hP
                    have hD := hD9.weaken (fun _ q _ h => hf9 q.1 h)
                    obtain rfl := Option.some.inj hF
                    exact W.vret hx hb hr (fun t ht hW => ⟨⟨(), rfl, trivial, ⟨by rw [ht]; exact hP, va_K.moved hW.alike hK, hD⟩⟩, hS.F ht⟩) hS.2.2 dX2_filterLine_223
                  clear hF
                  have hF := hy112
                  clear hy112
                  refine lv_if_eq (tgt := 215) hx hb dX2_filterLine_203 (by decide) (fun c114 => ?_) (fun c114 => ?_)
                  · rw [if_pos c114] at hF
                    refine lv_iconst (v := (0 : Int32)) hx hb dX2_filterLine_215 (by decide) ?_
                    obtain rfl := Option.some.inj hF
                    exact J112 _ _ _ hP hD hS (lv_sub hl [0, 1, 2, 3, 4, 5, 6, 7, 8, 9, 10, 11, 12] rfl)
                  · rw [if_neg c114] at hF
                    refine lv_iload hx hb dX2_filterLine_206 (lv_at hl 0 rfl) ?_
                    obtain ⟨y115, hy115, hF⟩ := bnd_some hF
                    have J115 : ∀ (H : Heap) (locs : List Loc) (ls : Array Slot), va_P D classes (wld ct ad G y111) H → va_D A (wld ct ad G y111) → va_S A s.heap H locs → lv_has ls 17 [(12, .int y107), (11, .int y23.1), (10, .int y22.1), (9, .int x9), (8, .int x7), (7, .int x6), (6, .int x3), (0, .ref (ad a)), (1, va_re ad p0), (2, .int p1), (3, .int p2), (4, .int p3), (5, .int p4)] → W p l e (headSpec wuX2_filterLine ({ frames := 1, cells := 0, slots := 0, locals := 29 })).room s m ([.ref (ad a), va_re ad p0, .int p1, .int p2, .int p3, .int p4] : List Value).toArray below meth c H locs 0 0 (MQ below (va_Qv (fun (_ : Unit) => True) (fun _ t => kE D ct ad G A y t) A) ([.ref (ad a), va_re ad p0, .int p1, .int p2, .int p3, .int p4] : List Value).toArray s 0 0 A) (F0 m 216 ls [.int y115, .int p2, .int p1, va_re ad p0]) := by
                      intro H locs ls hP hD hS hl
                      obtain rfl := Option.some.inj hF
                      exact J112 _ _ _ hP hD hS (lv_sub hl [0, 1, 2, 3, 4, 5, 6, 7, 8, 9, 10, 11, 12] rfl)
                    clear hF
                    have hF := hy115
                    clear hy115
                    refine lv_if_eq (tgt := 215) hx hb dX2_filterLine_208 (by decide) (fun c116 => ?_) (fun c116 => ?_)
                    · rw [if_pos c116] at hF
                      refine lv_iconst (v := (0 : Int32)) hx hb dX2_filterLine_215 (by decide) ?_
                      obtain rfl := Option.some.inj hF
                      exact J115 _ _ _ hP hD hS (lv_sub hl [0, 1, 2, 3, 4, 5, 6, 7, 8, 9, 10, 11, 12] rfl)
                    · rw [if_neg c116] at hF
                      refine lv_iconst (v := (1 : Int32)) hx hb dX2_filterLine_211 (by decide) ?_
                      refine lv_goto (tgt := 216) hx hb dX2_filterLine_212 (by decide) ?_
                      obtain rfl := Option.some.inj hF
                      exact J115 _ _ _ hP hD hS (lv_sub hl [0, 1, 2, 3, 4, 5, 6, 7, 8, 9, 10, 11, 12] rfl)
                clear hF
                have hF := hy110
                clear hy110
                refine lv_if_eq (tgt := 190) hx hb dX2_filterLine_178 (by decide) (fun c117 => ?_) (fun c117 => ?_)
                · rw [if_pos c117] at hF
                  refine lv_iconst (v := (0 : Int32)) hx hb dX2_filterLine_190 (by decide) ?_
                  obtain rfl := Option.some.inj hF
                  exact J110 _ _ _ hP hD hS (lv_sub hl [0, 1, 2, 3, 4, 5, 6, 7, 8, 9, 10, 11, 12] rfl)
                · rw [if_neg c117] at hF
                  refine lv_iload hx hb dX2_filterLine_181 (lv_at hl 0 rfl) ?_
                  obtain ⟨y118, hy118, hF⟩ := bnd_some hF
                  have J118 : ∀ (H : Heap) (locs : List Loc) (ls : Array Slot), va_P D classes (wld ct ad G y23.2) H → va_D A (wld ct ad G y23.2) → va_S A s.heap H locs → lv_has ls 17 [(12, .int y107), (11, .int y23.1), (10, .int y22.1), (9, .int x9), (8, .int x7), (7, .int x6), (6, .int x3), (0, .ref (ad a)), (1, va_re ad p0), (2, .int p1), (3, .int p2), (4, .int p3), (5, .int p4)] → W p l e (headSpec wuX2_filterLine ({ frames := 1, cells := 0, slots := 0, locals := 29 })).room s m ([.ref (ad a), va_re ad p0, .int p1, .int p2, .int p3, .int p4] : List Value).toArray below meth c H locs 0 0 (MQ below (va_Qv (fun (_ : Unit) => True) (fun _ t => kE D ct ad G A y t) A) ([.ref (ad a), va_re ad p0, .int p1, .int p2, .int p3, .int p4] : List Value).toArray s 0 0 A) (F0 m 191 ls [.int y118, .int x109, .int x108, va_re ad p0]) := by
                    intro H locs ls hP hD hS hl
                    obtain rfl := Option.some.inj hF
                    exact J110 _ _ _ hP hD hS (lv_sub hl [0, 1, 2, 3, 4, 5, 6, 7, 8, 9, 10, 11, 12] rfl)
                  clear hF
                  have hF := hy118
                  clear hy118
                  refine lv_if_eq (tgt := 190) hx hb dX2_filterLine_183 (by decide) (fun c119 => ?_) (fun c119 => ?_)
                  · rw [if_pos c119] at hF
                    refine lv_iconst (v := (0 : Int32)) hx hb dX2_filterLine_190 (by decide) ?_
                    obtain rfl := Option.some.inj hF
                    exact J118 _ _ _ hP hD hS (lv_sub hl [0, 1, 2, 3, 4, 5, 6, 7, 8, 9, 10, 11, 12] rfl)
                  · rw [if_neg c119] at hF
                    refine lv_iconst (v := (1 : Int32)) hx hb dX2_filterLine_186 (by decide) ?_
                    refine lv_goto (tgt := 191) hx hb dX2_filterLine_187 (by decide) ?_
                    obtain rfl := Option.some.inj hF
                    exact J118 _ _ _ hP hD hS (lv_sub hl [0, 1, 2, 3, 4, 5, 6, 7, 8, 9, 10, 11, 12] rfl)
              clear hF
              have hF := hy107
              clear hy107
              refine lv_icmp_ge (tgt := 167) hx hb dX2_filterLine_160 (by decide) (fun c120 => ?_) (fun c120 => ?_)
              · rw [if_pos c120] at hF
                refine lv_iconst (v := (0 : Int32)) hx hb dX2_filterLine_167 (by decide) ?_
                obtain rfl := Option.some.inj hF
                exact J107 _ _ _ hP hD hS (lv_sub hl [0, 1, 2, 3, 4, 5, 6, 7, 8, 9, 10, 11] rfl)
              · rw [if_neg c120] at hF
                refine lv_iconst (v := (1 : Int32)) hx hb dX2_filterLine_163 (by decide) ?_
                refine lv_goto (tgt := 168) hx hb dX2_filterLine_164 (by decide) ?_
                obtain rfl := Option.some.inj hF
                exact J107 _ _ _ hP hD hS (lv_sub hl [0, 1, 2, 3, 4, 5, 6, 7, 8, 9, 10, 11] rfl)
          clear hF
          have hF := hy23
          clear hy23
          refine lv_if_eq (tgt := 135) hx hb dX2_filterLine_108 (by decide) (fun c121 => ?_) (fun c121 => ?_)
          · rw [if_pos c121] at hF
            refine lv_iconst (v := (0 : Int32)) hx hb dX2_filterLine_135 (by decide) ?_
            obtain rfl := Option.some.inj hF
            exact J23 _ _ _ hP hD hS (lv_sub hl [0, 1, 2, 3, 4, 5, 6, 7, 8, 9, 10] rfl)
          · rw [if_neg c121] at hF
            refine lv_aloadq_n hx hb dX2_filterLine_111 rfl (lv_at hl 6 rfl) ?_
            refine lv_iload_n hx hb dX2_filterLine_112 rfl (lv_at hl 7 rfl) ?_
            refine lv_iconst (v := (2 : Int32)) hx hb dX2_filterLine_113 (by decide) ?_
            refine lv_iload_n hx hb dX2_filterLine_114 rfl (lv_at hl 8 rfl) ?_
            refine lv_imul hx hb dX2_filterLine_115 ?_
            obtain ⟨x122, ex122, hF⟩ := ltt_some hF
            refine lv_topi (fun zx122 ezx122 => ?_)
            obtain rfl : x122 = zx122 := ex122.trans ezx122.symm
            refine lv_iadd hx hb dX2_filterLine_116 ?_
            obtain ⟨x123, ex123, hF⟩ := ltt_some hF
            refine lv_topi (fun zx123 ezx123 => ?_)
            obtain rfl : x123 = zx123 := ex123.trans ezx123.symm
            refine W_st (st' := [.int x123, .ref (ad b2)]) (by rw [va_some ho2]) ?_
            obtain ⟨hvc, hF⟩ := chk_some hF
            refine va_iald hx hb hK hP b2 1 (wld_i ct ad G y22.2 hc2 hk2) rfl hvc dX2_filterLine_117 ?_
            obtain ⟨x124, ex124, hF⟩ := ltt_some hF
            refine lv_topi (fun zx124 ezx124 => ?_)
            obtain rfl : x124 = zx124 := ex124.trans ezx124.symm
            refine lv_iload hx hb dX2_filterLine_118 (lv_at hl 2 rfl) ?_
            refine lv_isub hx hb dX2_filterLine_120 ?_
            obtain ⟨x125, ex125, hF⟩ := ltt_some hF
            refine lv_topi (fun zx125 ezx125 => ?_)
            obtain rfl : x125 = zx125 := ex125.trans ezx125.symm
            refine va_mabs hx hb (hml.trans hl.1.symm) hown (hts (.methodLink RX2 131 Lib.Math.abs.name) (mu mw_989)) (hts (.static Lib.Math.abs.name) (mu mw_990)) (hts (.initialized "java/lang/Math") (mu mw_183)) (hts (.code Lib.Math.abs.name Lib.Math.abs.code 1 (some .int)) (mu mw_991)) (Nat.le_of_ble_eq_true rfl) (Nat.le_of_ble_eq_true rfl) (Nat.zero_le _) (Nat.zero_le _) dX2_filterLine_121 ?_
            obtain ⟨x126, ex126, hF⟩ := ltt_some hF
            refine lv_topi (fun zx126 ezx126 => ?_)
            obtain rfl : x126 = zx126 := ex126.trans ezx126.symm
            refine lv_aload_n hx hb dX2_filterLine_124 rfl (lv_at hl 5 rfl) ?_
            refine va_get (D := D) (ci := 2) (v := .int (y22.2.1 a 3)) (C := RX2) (T := TX2) (N := 7) hx hb hts (mus hf_X2) hown hK hP a (wld_o ct ad G y22.2 hc hk (by decide)) rfl 3 (by decide) (hts (.fieldLink RX2 128 "VideoSuite$Edges" "beta" "I") (mu mw_589)) (fun _ h9 => h9) rfl dX2_filterLine_125 ?_
            obtain ⟨x127, ex127, hF⟩ := ltt_some hF
            refine lv_topi (fun zx127 ezx127 => ?_)
            obtain rfl : x127 = zx127 := ex127.trans ezx127.symm
            obtain ⟨y128, hy128, hF⟩ := bnd_some hF
            have J128 : ∀ (H : Heap) (locs : List Loc) (ls : Array Slot), va_P D classes (wld ct ad G y22.2) H → va_D A (wld ct ad G y22.2) → va_S A s.heap H locs → lv_has ls 17 [(10, .int y22.1), (9, .int x9), (8, .int x7), (7, .int x6), (6, .int x3), (0, .ref (ad a)), (1, va_re ad p0), (2, .int p1), (3, .int p2), (4, .int p3), (5, .int p4)] → W p l e (headSpec wuX2_filterLine ({ frames := 1, cells := 0, slots := 0, locals := 29 })).room s m ([.ref (ad a), va_re ad p0, .int p1, .int p2, .int p3, .int p4] : List Value).toArray below meth c H locs 0 0 (MQ below (va_Qv (fun (_ : Unit) => True) (fun _ t => kE D ct ad G A y t) A) ([.ref (ad a), va_re ad p0, .int p1, .int p2, .int p3, .int p4] : List Value).toArray s 0 0 A) (F0 m 136 ls [.int y128]) := by
              intro H locs ls hP hD hS hl
              obtain rfl := Option.some.inj hF
              exact J23 _ _ _ hP hD hS (lv_sub hl [0, 1, 2, 3, 4, 5, 6, 7, 8, 9, 10] rfl)
            clear hF
            have hF := hy128
            clear hy128
            refine lv_icmp_ge (tgt := 135) hx hb dX2_filterLine_128 (by decide) (fun c129 => ?_) (fun c129 => ?_)
            · rw [if_pos c129] at hF
              refine lv_iconst (v := (0 : Int32)) hx hb dX2_filterLine_135 (by decide) ?_
              obtain rfl := Option.some.inj hF
              exact J128 _ _ _ hP hD hS (lv_sub hl [0, 1, 2, 3, 4, 5, 6, 7, 8, 9, 10] rfl)
            · rw [if_neg c129] at hF
              refine lv_iconst (v := (1 : Int32)) hx hb dX2_filterLine_131 (by decide) ?_
              refine lv_goto (tgt := 136) hx hb dX2_filterLine_132 (by decide) ?_
              obtain rfl := Option.some.inj hF
              exact J128 _ _ _ hP hD hS (lv_sub hl [0, 1, 2, 3, 4, 5, 6, 7, 8, 9, 10] rfl)
        clear hF
        have hF := hy22
        clear hy22
        refine lv_if_eq (tgt := 103) hx hb dX2_filterLine_76 (by decide) (fun c130 => ?_) (fun c130 => ?_)
        · rw [if_pos c130] at hF
          refine lv_iconst (v := (0 : Int32)) hx hb dX2_filterLine_103 (by decide) ?_
          obtain rfl := Option.some.inj hF
          exact J22 _ _ _ hP hD hS (lv_sub hl [0, 1, 2, 3, 4, 5, 6, 7, 8, 9] rfl)
        · rw [if_neg c130] at hF
          refine lv_aloadq_n hx hb dX2_filterLine_79 rfl (lv_at hl 5 rfl) ?_
          refine lv_iload_n hx hb dX2_filterLine_80 rfl (lv_at hl 6 rfl) ?_
          refine lv_iconst (v := (3 : Int32)) hx hb dX2_filterLine_81 (by decide) ?_
          refine lv_iload_n hx hb dX2_filterLine_82 rfl (lv_at hl 7 rfl) ?_
          refine lv_imul hx hb dX2_filterLine_83 ?_
          obtain ⟨x131, ex131, hF⟩ := ltt_some hF
          refine lv_topi (fun zx131 ezx131 => ?_)
          obtain rfl : x131 = zx131 := ex131.trans ezx131.symm
          refine lv_isub hx hb dX2_filterLine_84 ?_
          obtain ⟨x132, ex132, hF⟩ := ltt_some hF
          refine lv_topi (fun zx132 ezx132 => ?_)
          obtain rfl : x132 = zx132 := ex132.trans ezx132.symm
          refine W_st (st' := [.int x132, .ref (ad b2)]) (by rw [va_some ho2]) ?_
          obtain ⟨hvc, hF⟩ := chk_some hF
          refine va_iald hx hb hK hP b2 1 (wld_i ct ad G M hc2 hk2) rfl hvc dX2_filterLine_85 ?_
          obtain ⟨x133, ex133, hF⟩ := ltt_some hF
          refine lv_topi (fun zx133 ezx133 => ?_)
          obtain rfl : x133 = zx133 := ex133.trans ezx133.symm
          refine lv_iload hx hb dX2_filterLine_86 (lv_at hl 3 rfl) ?_
          refine lv_isub hx hb dX2_filterLine_88 ?_
          obtain ⟨x134, ex134, hF⟩ := ltt_some hF
          refine lv_topi (fun zx134 ezx134 => ?_)
          obtain rfl : x134 = zx134 := ex134.trans ezx134.symm
          refine va_mabs hx hb (hml.trans hl.1.symm) hown (hts (.methodLink RX2 131 Lib.Math.abs.name) (mu mw_989)) (hts (.static Lib.Math.abs.name) (mu mw_990)) (hts (.initialized "java/lang/Math") (mu mw_183)) (hts (.code Lib.Math.abs.name Lib.Math.abs.code 1 (some .int)) (mu mw_991)) (Nat.le_of_ble_eq_true rfl) (Nat.le_of_ble_eq_true rfl) (Nat.zero_le _) (Nat.zero_le _) dX2_filterLine_89 ?_
          obtain ⟨x135, ex135, hF⟩ := ltt_some hF
          refine lv_topi (fun zx135 ezx135 => ?_)
          obtain rfl : x135 = zx135 := ex135.trans ezx135.symm
          refine lv_aload_n hx hb dX2_filterLine_92 rfl (lv_at hl 4 rfl) ?_
          refine va_get (D := D) (ci := 2) (v := .int (M.1 a 3)) (C := RX2) (T := TX2) (N := 7) hx hb hts (mus hf_X2) hown hK hP a (wld_o ct ad G M hc hk (by decide)) rfl 3 (by decide) (hts (.fieldLink RX2 128 "VideoSuite$Edges" "beta" "I") (mu mw_589)) (fun _ h9 => h9) rfl dX2_filterLine_93 ?_
          obtain ⟨x136, ex136, hF⟩ := ltt_some hF
          refine lv_topi (fun zx136 ezx136 => ?_)
          obtain rfl : x136 = zx136 := ex136.trans ezx136.symm
          obtain ⟨y137, hy137, hF⟩ := bnd_some hF
          have J137 : ∀ (H : Heap) (locs : List Loc) (ls : Array Slot), va_P D classes (wld ct ad G M) H → va_D A (wld ct ad G M) → va_S A s.heap H locs → lv_has ls 17 [(9, .int x9), (8, .int x7), (7, .int x6), (6, .int x3), (0, .ref (ad a)), (1, va_re ad p0), (2, .int p1), (3, .int p2), (4, .int p3), (5, .int p4)] → W p l e (headSpec wuX2_filterLine ({ frames := 1, cells := 0, slots := 0, locals := 29 })).room s m ([.ref (ad a), va_re ad p0, .int p1, .int p2, .int p3, .int p4] : List Value).toArray below meth c H locs 0 0 (MQ below (va_Qv (fun (_ : Unit) => True) (fun _ t => kE D ct ad G A y t) A) ([.ref (ad a), va_re ad p0, .int p1, .int p2, .int p3, .int p4] : List Value).toArray s 0 0 A) (F0 m 104 ls [.int y137]) := by
            intro H locs ls hP hD hS hl
            obtain rfl := Option.some.inj hF
            exact J22 _ _ _ hP hD hS (lv_sub hl [0, 1, 2, 3, 4, 5, 6, 7, 8, 9] rfl)
          clear hF
          have hF := hy137
          clear hy137
          refine lv_icmp_ge (tgt := 103) hx hb dX2_filterLine_96 (by decide) (fun c138 => ?_) (fun c138 => ?_)
          · rw [if_pos c138] at hF
            refine lv_iconst (v := (0 : Int32)) hx hb dX2_filterLine_103 (by decide) ?_
            obtain rfl := Option.some.inj hF
            exact J137 _ _ _ hP hD hS (lv_sub hl [0, 1, 2, 3, 4, 5, 6, 7, 8, 9] rfl)
          · rw [if_neg c138] at hF
            refine lv_iconst (v := (1 : Int32)) hx hb dX2_filterLine_99 (by decide) ?_
            refine lv_goto (tgt := 104) hx hb dX2_filterLine_100 (by decide) ?_
            obtain rfl := Option.some.inj hF
            exact J137 _ _ _ hP hD hS (lv_sub hl [0, 1, 2, 3, 4, 5, 6, 7, 8, 9] rfl)
      · rw [if_neg c21] at hF
        obtain rfl := Option.some.inj hF
        exact W.vret hx hb hr (fun t ht hW => ⟨⟨(), rfl, trivial, ⟨by rw [ht]; exact hP, va_K.moved hW.alike hK, hD⟩⟩, hS.F ht⟩) hS.2.2 dX2_filterLine_73
